section
-- ===== PART A: goes FIRST, ahead of the names: the tables' words, and 'selects' of the private methods out of them =====
/-- a private method of a class that the tables say can be made, by its rows of tables_1 -/
def lw_okq (q : MethodName × Nat) : Prop := (q.1.cls ≠ "java/lang/invoke/MethodHandle" ∧ q.1.cls ≠ "java/lang/invoke/VarHandle") ∧ Cond.instantiable q.1.cls q.2 ∈ tables_1 ∧ Cond.privateMethod q.1 ∈ tables_1 ∧ Cond.instanceMethod q.1 ∈ tables_1
theorem lw_p0 : lw_okq (⟨"RatchetDesk", "makeFirstSecrets", "()V"⟩, 11) := ⟨⟨by decide +kernel, by decide +kernel⟩, List.mem_of_getElem? (i := 21) (by decide +kernel), List.mem_of_getElem? (i := 342) (by decide +kernel), List.mem_of_getElem? (i := 343) (by decide +kernel)⟩
theorem lw_p1 : lw_okq (⟨"RatchetDesk", "makeSecret", "(LRatchetDesk$Secret;)V"⟩, 11) := ⟨⟨by decide +kernel, by decide +kernel⟩, List.mem_of_getElem? (i := 21) (by decide +kernel), List.mem_of_getElem? (i := 346) (by decide +kernel), List.mem_of_getElem? (i := 347) (by decide +kernel)⟩
theorem lw_p2 : lw_okq (⟨"RatchetDesk$Hash", "fillWords", "(I)V"⟩, 8) := ⟨⟨by decide +kernel, by decide +kernel⟩, List.mem_of_getElem? (i := 62) (by decide +kernel), List.mem_of_getElem? (i := 375) (by decide +kernel), List.mem_of_getElem? (i := 376) (by decide +kernel)⟩
theorem lw_p3 : lw_okq (⟨"RatchetDesk$Hash", "mixWords", "()V"⟩, 8) := ⟨⟨by decide +kernel, by decide +kernel⟩, List.mem_of_getElem? (i := 62) (by decide +kernel), List.mem_of_getElem? (i := 379) (by decide +kernel), List.mem_of_getElem? (i := 380) (by decide +kernel)⟩
theorem lw_p4 : lw_okq (⟨"java/lang/Throwable", "fillInStackTrace", "(I)Ljava/lang/Throwable;"⟩, 6) := ⟨⟨by decide +kernel, by decide +kernel⟩, List.mem_of_getElem? (i := 479) (by decide +kernel), List.mem_of_getElem? (i := 477) (by decide +kernel), List.mem_of_getElem? (i := 478) (by decide +kernel)⟩
theorem lw_p5 : lw_okq (⟨"RatchetDesk$Curve", "step", "([J[J[J[J)V"⟩, 13) := ⟨⟨by decide +kernel, by decide +kernel⟩, List.mem_of_getElem? (i := 95) (by decide +kernel), List.mem_of_getElem? (i := 543) (by decide +kernel), List.mem_of_getElem? (i := 544) (by decide +kernel)⟩
theorem lw_p6 : lw_okq (⟨"RatchetDesk$Hash", "startPad", "(I)V"⟩, 8) := ⟨⟨by decide +kernel, by decide +kernel⟩, List.mem_of_getElem? (i := 62) (by decide +kernel), List.mem_of_getElem? (i := 588) (by decide +kernel), List.mem_of_getElem? (i := 589) (by decide +kernel)⟩
theorem lw_p7 : lw_okq (⟨"RatchetDesk", "tieTrial", "(II)V"⟩, 11) := ⟨⟨by decide +kernel, by decide +kernel⟩, List.mem_of_getElem? (i := 21) (by decide +kernel), List.mem_of_getElem? (i := 691) (by decide +kernel), List.mem_of_getElem? (i := 692) (by decide +kernel)⟩
theorem lw_p8 : lw_okq (⟨"RatchetDesk", "reckonRootOfBeginner", "(LRatchetDesk$Person;LRatchetDesk$Person;I)V"⟩, 11) := ⟨⟨by decide +kernel, by decide +kernel⟩, List.mem_of_getElem? (i := 21) (by decide +kernel), List.mem_of_getElem? (i := 700) (by decide +kernel), List.mem_of_getElem? (i := 701) (by decide +kernel)⟩
theorem lw_p9 : lw_okq (⟨"RatchetDesk", "placeTrial", "(I)V"⟩, 11) := ⟨⟨by decide +kernel, by decide +kernel⟩, List.mem_of_getElem? (i := 21) (by decide +kernel), List.mem_of_getElem? (i := 732) (by decide +kernel), List.mem_of_getElem? (i := 733) (by decide +kernel)⟩
theorem lw_p10 : lw_okq (⟨"RatchetDesk", "canAnswer", "(ILRatchetDesk$Letter;)Z"⟩, 11) := ⟨⟨by decide +kernel, by decide +kernel⟩, List.mem_of_getElem? (i := 21) (by decide +kernel), List.mem_of_getElem? (i := 804) (by decide +kernel), List.mem_of_getElem? (i := 805) (by decide +kernel)⟩
theorem lw_p11 : lw_okq (⟨"RatchetDesk", "reckonRootOfAnswerer", "(LRatchetDesk$Person;LRatchetDesk$Person;LRatchetDesk$Letter;)V"⟩, 11) := ⟨⟨by decide +kernel, by decide +kernel⟩, List.mem_of_getElem? (i := 21) (by decide +kernel), List.mem_of_getElem? (i := 820) (by decide +kernel), List.mem_of_getElem? (i := 821) (by decide +kernel)⟩
theorem lw_p12 : lw_okq (⟨"RatchetDesk$End", "passedOver", "(LRatchetDesk$Letter;)I"⟩, 14) := ⟨⟨by decide +kernel, by decide +kernel⟩, List.mem_of_getElem? (i := 191) (by decide +kernel), List.mem_of_getElem? (i := 855) (by decide +kernel), List.mem_of_getElem? (i := 856) (by decide +kernel)⟩
theorem lw_p13 : lw_okq (⟨"RatchetDesk$End", "keepUpTo", "(ILRatchetDesk$Tools;)V"⟩, 14) := ⟨⟨by decide +kernel, by decide +kernel⟩, List.mem_of_getElem? (i := 191) (by decide +kernel), List.mem_of_getElem? (i := 863) (by decide +kernel), List.mem_of_getElem? (i := 864) (by decide +kernel)⟩
theorem lw_p14 : lw_okq (⟨"RatchetDeskModel", "four", "(IIIII)V"⟩, 37) := ⟨⟨by decide +kernel, by decide +kernel⟩, List.mem_of_getElem? (i := 958) (by decide +kernel), List.mem_of_getElem? (i := 968) (by decide +kernel), List.mem_of_getElem? (i := 969) (by decide +kernel)⟩
theorem lw_p15 : lw_okq (⟨"RatchetDeskModel", "refused", "(I)Z"⟩, 37) := ⟨⟨by decide +kernel, by decide +kernel⟩, List.mem_of_getElem? (i := 958) (by decide +kernel), List.mem_of_getElem? (i := 1164) (by decide +kernel), List.mem_of_getElem? (i := 1165) (by decide +kernel)⟩
def lw_privs_1 : List (MethodName × Nat) := [(⟨"RatchetDesk", "makeFirstSecrets", "()V"⟩, 11), (⟨"RatchetDesk", "makeSecret", "(LRatchetDesk$Secret;)V"⟩, 11), (⟨"RatchetDesk$Hash", "fillWords", "(I)V"⟩, 8), (⟨"RatchetDesk$Hash", "mixWords", "()V"⟩, 8), (⟨"java/lang/Throwable", "fillInStackTrace", "(I)Ljava/lang/Throwable;"⟩, 6), (⟨"RatchetDesk$Curve", "step", "([J[J[J[J)V"⟩, 13), (⟨"RatchetDesk$Hash", "startPad", "(I)V"⟩, 8), (⟨"RatchetDesk", "tieTrial", "(II)V"⟩, 11), (⟨"RatchetDesk", "reckonRootOfBeginner", "(LRatchetDesk$Person;LRatchetDesk$Person;I)V"⟩, 11), (⟨"RatchetDesk", "placeTrial", "(I)V"⟩, 11), (⟨"RatchetDesk", "canAnswer", "(ILRatchetDesk$Letter;)Z"⟩, 11), (⟨"RatchetDesk", "reckonRootOfAnswerer", "(LRatchetDesk$Person;LRatchetDesk$Person;LRatchetDesk$Letter;)V"⟩, 11), (⟨"RatchetDesk$End", "passedOver", "(LRatchetDesk$Letter;)I"⟩, 14), (⟨"RatchetDesk$End", "keepUpTo", "(ILRatchetDesk$Tools;)V"⟩, 14), (⟨"RatchetDeskModel", "four", "(IIIII)V"⟩, 37), (⟨"RatchetDeskModel", "refused", "(I)Z"⟩, 37)]
theorem lw_r1 : ∀ q ∈ lw_privs_1, lw_okq q := List.forall_mem_cons.mpr ⟨lw_p0, List.forall_mem_cons.mpr ⟨lw_p1, List.forall_mem_cons.mpr ⟨lw_p2, List.forall_mem_cons.mpr ⟨lw_p3, List.forall_mem_cons.mpr ⟨lw_p4, List.forall_mem_cons.mpr ⟨lw_p5, List.forall_mem_cons.mpr ⟨lw_p6, List.forall_mem_cons.mpr ⟨lw_p7, List.forall_mem_cons.mpr ⟨lw_p8, List.forall_mem_cons.mpr ⟨lw_p9, List.forall_mem_cons.mpr ⟨lw_p10, List.forall_mem_cons.mpr ⟨lw_p11, List.forall_mem_cons.mpr ⟨lw_p12, List.forall_mem_cons.mpr ⟨lw_p13, List.forall_mem_cons.mpr ⟨lw_p14, List.forall_mem_cons.mpr ⟨lw_p15, fun _ h => absurd h List.not_mem_nil⟩⟩⟩⟩⟩⟩⟩⟩⟩⟩⟩⟩⟩⟩⟩⟩
theorem lw_p16 : lw_okq (⟨"RatchetDeskModel", "eightAt", "(I)J"⟩, 37) := ⟨⟨by decide +kernel, by decide +kernel⟩, List.mem_of_getElem? (i := 958) (by decide +kernel), List.mem_of_getElem? (i := 1172) (by decide +kernel), List.mem_of_getElem? (i := 1173) (by decide +kernel)⟩
theorem lw_p17 : lw_okq (⟨"RatchetDeskModel", "reckon", "(III)V"⟩, 37) := ⟨⟨by decide +kernel, by decide +kernel⟩, List.mem_of_getElem? (i := 958) (by decide +kernel), List.mem_of_getElem? (i := 1180) (by decide +kernel), List.mem_of_getElem? (i := 1181) (by decide +kernel)⟩
theorem lw_p18 : lw_okq (⟨"RatchetDeskModel", "unpack", "(II)V"⟩, 37) := ⟨⟨by decide +kernel, by decide +kernel⟩, List.mem_of_getElem? (i := 958) (by decide +kernel), List.mem_of_getElem? (i := 1184) (by decide +kernel), List.mem_of_getElem? (i := 1185) (by decide +kernel)⟩
theorem lw_p19 : lw_okq (⟨"RatchetDeskModel", "set", "(IJ)V"⟩, 37) := ⟨⟨by decide +kernel, by decide +kernel⟩, List.mem_of_getElem? (i := 958) (by decide +kernel), List.mem_of_getElem? (i := 1189) (by decide +kernel), List.mem_of_getElem? (i := 1190) (by decide +kernel)⟩
theorem lw_p20 : lw_okq (⟨"RatchetDeskModel", "change", "(II)V"⟩, 37) := ⟨⟨by decide +kernel, by decide +kernel⟩, List.mem_of_getElem? (i := 958) (by decide +kernel), List.mem_of_getElem? (i := 1196) (by decide +kernel), List.mem_of_getElem? (i := 1197) (by decide +kernel)⟩
theorem lw_p21 : lw_okq (⟨"RatchetDeskModel", "plus", "(IIIJ)V"⟩, 37) := ⟨⟨by decide +kernel, by decide +kernel⟩, List.mem_of_getElem? (i := 958) (by decide +kernel), List.mem_of_getElem? (i := 1200) (by decide +kernel), List.mem_of_getElem? (i := 1201) (by decide +kernel)⟩
theorem lw_p22 : lw_okq (⟨"RatchetDeskModel", "carry", "(I)V"⟩, 37) := ⟨⟨by decide +kernel, by decide +kernel⟩, List.mem_of_getElem? (i := 958) (by decide +kernel), List.mem_of_getElem? (i := 1204) (by decide +kernel), List.mem_of_getElem? (i := 1205) (by decide +kernel)⟩
theorem lw_p23 : lw_okq (⟨"RatchetDeskModel", "times", "(III)V"⟩, 37) := ⟨⟨by decide +kernel, by decide +kernel⟩, List.mem_of_getElem? (i := 958) (by decide +kernel), List.mem_of_getElem? (i := 1210) (by decide +kernel), List.mem_of_getElem? (i := 1211) (by decide +kernel)⟩
theorem lw_p24 : lw_okq (⟨"RatchetDeskModel", "invert", "()V"⟩, 37) := ⟨⟨by decide +kernel, by decide +kernel⟩, List.mem_of_getElem? (i := 958) (by decide +kernel), List.mem_of_getElem? (i := 1215) (by decide +kernel), List.mem_of_getElem? (i := 1216) (by decide +kernel)⟩
theorem lw_p25 : lw_okq (⟨"RatchetDeskModel", "pack", "(II)V"⟩, 37) := ⟨⟨by decide +kernel, by decide +kernel⟩, List.mem_of_getElem? (i := 958) (by decide +kernel), List.mem_of_getElem? (i := 1219) (by decide +kernel), List.mem_of_getElem? (i := 1220) (by decide +kernel)⟩
theorem lw_p26 : lw_okq (⟨"RatchetDeskModel", "copyKey", "(II)V"⟩, 37) := ⟨⟨by decide +kernel, by decide +kernel⟩, List.mem_of_getElem? (i := 958) (by decide +kernel), List.mem_of_getElem? (i := 1227) (by decide +kernel), List.mem_of_getElem? (i := 1228) (by decide +kernel)⟩
theorem lw_p27 : lw_okq (⟨"RatchetDeskModel", "clearMessage", "()V"⟩, 37) := ⟨⟨by decide +kernel, by decide +kernel⟩, List.mem_of_getElem? (i := 958) (by decide +kernel), List.mem_of_getElem? (i := 1235) (by decide +kernel), List.mem_of_getElem? (i := 1236) (by decide +kernel)⟩
theorem lw_p28 : lw_okq (⟨"RatchetDeskModel", "sayKey", "(I)V"⟩, 37) := ⟨⟨by decide +kernel, by decide +kernel⟩, List.mem_of_getElem? (i := 958) (by decide +kernel), List.mem_of_getElem? (i := 1239) (by decide +kernel), List.mem_of_getElem? (i := 1240) (by decide +kernel)⟩
theorem lw_p29 : lw_okq (⟨"RatchetDeskModel", "say", "(I)V"⟩, 37) := ⟨⟨by decide +kernel, by decide +kernel⟩, List.mem_of_getElem? (i := 958) (by decide +kernel), List.mem_of_getElem? (i := 1243) (by decide +kernel), List.mem_of_getElem? (i := 1244) (by decide +kernel)⟩
theorem lw_p30 : lw_okq (⟨"RatchetDeskModel", "markMessage", "(II)V"⟩, 37) := ⟨⟨by decide +kernel, by decide +kernel⟩, List.mem_of_getElem? (i := 958) (by decide +kernel), List.mem_of_getElem? (i := 1247) (by decide +kernel), List.mem_of_getElem? (i := 1248) (by decide +kernel)⟩
theorem lw_p31 : lw_okq (⟨"RatchetDeskModel", "pad", "(II)V"⟩, 37) := ⟨⟨by decide +kernel, by decide +kernel⟩, List.mem_of_getElem? (i := 958) (by decide +kernel), List.mem_of_getElem? (i := 1251) (by decide +kernel), List.mem_of_getElem? (i := 1252) (by decide +kernel)⟩
def lw_privs_2 : List (MethodName × Nat) := [(⟨"RatchetDeskModel", "eightAt", "(I)J"⟩, 37), (⟨"RatchetDeskModel", "reckon", "(III)V"⟩, 37), (⟨"RatchetDeskModel", "unpack", "(II)V"⟩, 37), (⟨"RatchetDeskModel", "set", "(IJ)V"⟩, 37), (⟨"RatchetDeskModel", "change", "(II)V"⟩, 37), (⟨"RatchetDeskModel", "plus", "(IIIJ)V"⟩, 37), (⟨"RatchetDeskModel", "carry", "(I)V"⟩, 37), (⟨"RatchetDeskModel", "times", "(III)V"⟩, 37), (⟨"RatchetDeskModel", "invert", "()V"⟩, 37), (⟨"RatchetDeskModel", "pack", "(II)V"⟩, 37), (⟨"RatchetDeskModel", "copyKey", "(II)V"⟩, 37), (⟨"RatchetDeskModel", "clearMessage", "()V"⟩, 37), (⟨"RatchetDeskModel", "sayKey", "(I)V"⟩, 37), (⟨"RatchetDeskModel", "say", "(I)V"⟩, 37), (⟨"RatchetDeskModel", "markMessage", "(II)V"⟩, 37), (⟨"RatchetDeskModel", "pad", "(II)V"⟩, 37)]
theorem lw_r2 : ∀ q ∈ lw_privs_2, lw_okq q := List.forall_mem_cons.mpr ⟨lw_p16, List.forall_mem_cons.mpr ⟨lw_p17, List.forall_mem_cons.mpr ⟨lw_p18, List.forall_mem_cons.mpr ⟨lw_p19, List.forall_mem_cons.mpr ⟨lw_p20, List.forall_mem_cons.mpr ⟨lw_p21, List.forall_mem_cons.mpr ⟨lw_p22, List.forall_mem_cons.mpr ⟨lw_p23, List.forall_mem_cons.mpr ⟨lw_p24, List.forall_mem_cons.mpr ⟨lw_p25, List.forall_mem_cons.mpr ⟨lw_p26, List.forall_mem_cons.mpr ⟨lw_p27, List.forall_mem_cons.mpr ⟨lw_p28, List.forall_mem_cons.mpr ⟨lw_p29, List.forall_mem_cons.mpr ⟨lw_p30, List.forall_mem_cons.mpr ⟨lw_p31, fun _ h => absurd h List.not_mem_nil⟩⟩⟩⟩⟩⟩⟩⟩⟩⟩⟩⟩⟩⟩⟩⟩
theorem lw_p32 : lw_okq (⟨"RatchetDeskModel", "hashRow", "(II)V"⟩, 37) := ⟨⟨by decide +kernel, by decide +kernel⟩, List.mem_of_getElem? (i := 958) (by decide +kernel), List.mem_of_getElem? (i := 1255) (by decide +kernel), List.mem_of_getElem? (i := 1256) (by decide +kernel)⟩
theorem lw_p33 : lw_okq (⟨"RatchetDeskModel", "block", "(I)V"⟩, 37) := ⟨⟨by decide +kernel, by decide +kernel⟩, List.mem_of_getElem? (i := 958) (by decide +kernel), List.mem_of_getElem? (i := 1259) (by decide +kernel), List.mem_of_getElem? (i := 1260) (by decide +kernel)⟩
theorem lw_p34 : lw_okq (⟨"RatchetDeskModel", "clearEnd", "(IIIZ)V"⟩, 37) := ⟨⟨by decide +kernel, by decide +kernel⟩, List.mem_of_getElem? (i := 958) (by decide +kernel), List.mem_of_getElem? (i := 1282) (by decide +kernel), List.mem_of_getElem? (i := 1283) (by decide +kernel)⟩
theorem lw_p35 : lw_okq (⟨"RatchetDeskModel", "known", "(I)I"⟩, 37) := ⟨⟨by decide +kernel, by decide +kernel⟩, List.mem_of_getElem? (i := 958) (by decide +kernel), List.mem_of_getElem? (i := 1289) (by decide +kernel), List.mem_of_getElem? (i := 1290) (by decide +kernel)⟩
theorem lw_p36 : lw_okq (⟨"RatchetDeskModel", "makePublic", "(II)V"⟩, 37) := ⟨⟨by decide +kernel, by decide +kernel⟩, List.mem_of_getElem? (i := 958) (by decide +kernel), List.mem_of_getElem? (i := 1293) (by decide +kernel), List.mem_of_getElem? (i := 1294) (by decide +kernel)⟩
theorem lw_p37 : lw_okq (⟨"RatchetDeskModel", "makeSecret", "(II)V"⟩, 37) := ⟨⟨by decide +kernel, by decide +kernel⟩, List.mem_of_getElem? (i := 958) (by decide +kernel), List.mem_of_getElem? (i := 1297) (by decide +kernel), List.mem_of_getElem? (i := 1298) (by decide +kernel)⟩
theorem lw_p38 : lw_okq (⟨"RatchetDeskModel", "reckonWith", "(III)V"⟩, 37) := ⟨⟨by decide +kernel, by decide +kernel⟩, List.mem_of_getElem? (i := 958) (by decide +kernel), List.mem_of_getElem? (i := 1301) (by decide +kernel), List.mem_of_getElem? (i := 1302) (by decide +kernel)⟩
theorem lw_p39 : lw_okq (⟨"RatchetDeskModel", "firstRoot", "(II)V"⟩, 37) := ⟨⟨by decide +kernel, by decide +kernel⟩, List.mem_of_getElem? (i := 958) (by decide +kernel), List.mem_of_getElem? (i := 1305) (by decide +kernel), List.mem_of_getElem? (i := 1306) (by decide +kernel)⟩
theorem lw_p40 : lw_okq (⟨"RatchetDeskModel", "spread", "(II)V"⟩, 37) := ⟨⟨by decide +kernel, by decide +kernel⟩, List.mem_of_getElem? (i := 958) (by decide +kernel), List.mem_of_getElem? (i := 1309) (by decide +kernel), List.mem_of_getElem? (i := 1310) (by decide +kernel)⟩
theorem lw_p41 : lw_okq (⟨"RatchetDeskModel", "turn", "(I)V"⟩, 37) := ⟨⟨by decide +kernel, by decide +kernel⟩, List.mem_of_getElem? (i := 958) (by decide +kernel), List.mem_of_getElem? (i := 1313) (by decide +kernel), List.mem_of_getElem? (i := 1314) (by decide +kernel)⟩
theorem lw_p42 : lw_okq (⟨"RatchetDeskModel", "turnRoot", "(III)V"⟩, 37) := ⟨⟨by decide +kernel, by decide +kernel⟩, List.mem_of_getElem? (i := 958) (by decide +kernel), List.mem_of_getElem? (i := 1317) (by decide +kernel), List.mem_of_getElem? (i := 1318) (by decide +kernel)⟩
theorem lw_p43 : lw_okq (⟨"RatchetDeskModel", "advance", "(II)V"⟩, 37) := ⟨⟨by decide +kernel, by decide +kernel⟩, List.mem_of_getElem? (i := 958) (by decide +kernel), List.mem_of_getElem? (i := 1325) (by decide +kernel), List.mem_of_getElem? (i := 1326) (by decide +kernel)⟩
theorem lw_p44 : lw_okq (⟨"RatchetDeskModel", "seals", "(II)V"⟩, 37) := ⟨⟨by decide +kernel, by decide +kernel⟩, List.mem_of_getElem? (i := 958) (by decide +kernel), List.mem_of_getElem? (i := 1329) (by decide +kernel), List.mem_of_getElem? (i := 1330) (by decide +kernel)⟩
theorem lw_p45 : lw_okq (⟨"RatchetDeskModel", "sayHeader", "(I)V"⟩, 37) := ⟨⟨by decide +kernel, by decide +kernel⟩, List.mem_of_getElem? (i := 958) (by decide +kernel), List.mem_of_getElem? (i := 1333) (by decide +kernel), List.mem_of_getElem? (i := 1334) (by decide +kernel)⟩
theorem lw_p46 : lw_okq (⟨"RatchetDeskModel", "markLetter", "(III)V"⟩, 37) := ⟨⟨by decide +kernel, by decide +kernel⟩, List.mem_of_getElem? (i := 958) (by decide +kernel), List.mem_of_getElem? (i := 1337) (by decide +kernel), List.mem_of_getElem? (i := 1338) (by decide +kernel)⟩
theorem lw_p47 : lw_okq (⟨"RatchetDeskModel", "knownKept", "(I)I"⟩, 37) := ⟨⟨by decide +kernel, by decide +kernel⟩, List.mem_of_getElem? (i := 958) (by decide +kernel), List.mem_of_getElem? (i := 1341) (by decide +kernel), List.mem_of_getElem? (i := 1342) (by decide +kernel)⟩
def lw_privs_3 : List (MethodName × Nat) := [(⟨"RatchetDeskModel", "hashRow", "(II)V"⟩, 37), (⟨"RatchetDeskModel", "block", "(I)V"⟩, 37), (⟨"RatchetDeskModel", "clearEnd", "(IIIZ)V"⟩, 37), (⟨"RatchetDeskModel", "known", "(I)I"⟩, 37), (⟨"RatchetDeskModel", "makePublic", "(II)V"⟩, 37), (⟨"RatchetDeskModel", "makeSecret", "(II)V"⟩, 37), (⟨"RatchetDeskModel", "reckonWith", "(III)V"⟩, 37), (⟨"RatchetDeskModel", "firstRoot", "(II)V"⟩, 37), (⟨"RatchetDeskModel", "spread", "(II)V"⟩, 37), (⟨"RatchetDeskModel", "turn", "(I)V"⟩, 37), (⟨"RatchetDeskModel", "turnRoot", "(III)V"⟩, 37), (⟨"RatchetDeskModel", "advance", "(II)V"⟩, 37), (⟨"RatchetDeskModel", "seals", "(II)V"⟩, 37), (⟨"RatchetDeskModel", "sayHeader", "(I)V"⟩, 37), (⟨"RatchetDeskModel", "markLetter", "(III)V"⟩, 37), (⟨"RatchetDeskModel", "knownKept", "(I)I"⟩, 37)]
theorem lw_r3 : ∀ q ∈ lw_privs_3, lw_okq q := List.forall_mem_cons.mpr ⟨lw_p32, List.forall_mem_cons.mpr ⟨lw_p33, List.forall_mem_cons.mpr ⟨lw_p34, List.forall_mem_cons.mpr ⟨lw_p35, List.forall_mem_cons.mpr ⟨lw_p36, List.forall_mem_cons.mpr ⟨lw_p37, List.forall_mem_cons.mpr ⟨lw_p38, List.forall_mem_cons.mpr ⟨lw_p39, List.forall_mem_cons.mpr ⟨lw_p40, List.forall_mem_cons.mpr ⟨lw_p41, List.forall_mem_cons.mpr ⟨lw_p42, List.forall_mem_cons.mpr ⟨lw_p43, List.forall_mem_cons.mpr ⟨lw_p44, List.forall_mem_cons.mpr ⟨lw_p45, List.forall_mem_cons.mpr ⟨lw_p46, List.forall_mem_cons.mpr ⟨lw_p47, fun _ h => absurd h List.not_mem_nil⟩⟩⟩⟩⟩⟩⟩⟩⟩⟩⟩⟩⟩⟩⟩⟩
theorem lw_p48 : lw_okq (⟨"RatchetDeskModel", "copyEnd", "(II)V"⟩, 37) := ⟨⟨by decide +kernel, by decide +kernel⟩, List.mem_of_getElem? (i := 958) (by decide +kernel), List.mem_of_getElem? (i := 1353) (by decide +kernel), List.mem_of_getElem? (i := 1354) (by decide +kernel)⟩
theorem lw_p49 : lw_okq (⟨"RatchetDeskModel", "tryLetter", "(I)I"⟩, 37) := ⟨⟨by decide +kernel, by decide +kernel⟩, List.mem_of_getElem? (i := 958) (by decide +kernel), List.mem_of_getElem? (i := 1357) (by decide +kernel), List.mem_of_getElem? (i := 1358) (by decide +kernel)⟩
theorem lw_p50 : lw_okq (⟨"RatchetDeskModel", "keptFor", "(II)I"⟩, 37) := ⟨⟨by decide +kernel, by decide +kernel⟩, List.mem_of_getElem? (i := 958) (by decide +kernel), List.mem_of_getElem? (i := 1361) (by decide +kernel), List.mem_of_getElem? (i := 1362) (by decide +kernel)⟩
theorem lw_p51 : lw_okq (⟨"RatchetDeskModel", "headerKey", "(I)I"⟩, 37) := ⟨⟨by decide +kernel, by decide +kernel⟩, List.mem_of_getElem? (i := 958) (by decide +kernel), List.mem_of_getElem? (i := 1365) (by decide +kernel), List.mem_of_getElem? (i := 1366) (by decide +kernel)⟩
theorem lw_p52 : lw_okq (⟨"RatchetDeskModel", "isSameKey", "(II)Z"⟩, 37) := ⟨⟨by decide +kernel, by decide +kernel⟩, List.mem_of_getElem? (i := 958) (by decide +kernel), List.mem_of_getElem? (i := 1369) (by decide +kernel), List.mem_of_getElem? (i := 1370) (by decide +kernel)⟩
theorem lw_p53 : lw_okq (⟨"RatchetDeskModel", "dropKept", "(II)V"⟩, 37) := ⟨⟨by decide +kernel, by decide +kernel⟩, List.mem_of_getElem? (i := 958) (by decide +kernel), List.mem_of_getElem? (i := 1373) (by decide +kernel), List.mem_of_getElem? (i := 1374) (by decide +kernel)⟩
theorem lw_p54 : lw_okq (⟨"RatchetDeskModel", "findKey", "(IZ)I"⟩, 37) := ⟨⟨by decide +kernel, by decide +kernel⟩, List.mem_of_getElem? (i := 958) (by decide +kernel), List.mem_of_getElem? (i := 1377) (by decide +kernel), List.mem_of_getElem? (i := 1378) (by decide +kernel)⟩
theorem lw_p55 : lw_okq (⟨"RatchetDeskModel", "keepUpTo", "(II)Z"⟩, 37) := ⟨⟨by decide +kernel, by decide +kernel⟩, List.mem_of_getElem? (i := 958) (by decide +kernel), List.mem_of_getElem? (i := 1381) (by decide +kernel), List.mem_of_getElem? (i := 1382) (by decide +kernel)⟩
theorem lw_p56 : lw_okq (⟨"RatchetDeskModel", "isFirst", "(II)Z"⟩, 37) := ⟨⟨by decide +kernel, by decide +kernel⟩, List.mem_of_getElem? (i := 958) (by decide +kernel), List.mem_of_getElem? (i := 1389) (by decide +kernel), List.mem_of_getElem? (i := 1390) (by decide +kernel)⟩
def lw_privs_4 : List (MethodName × Nat) := [(⟨"RatchetDeskModel", "copyEnd", "(II)V"⟩, 37), (⟨"RatchetDeskModel", "tryLetter", "(I)I"⟩, 37), (⟨"RatchetDeskModel", "keptFor", "(II)I"⟩, 37), (⟨"RatchetDeskModel", "headerKey", "(I)I"⟩, 37), (⟨"RatchetDeskModel", "isSameKey", "(II)Z"⟩, 37), (⟨"RatchetDeskModel", "dropKept", "(II)V"⟩, 37), (⟨"RatchetDeskModel", "findKey", "(IZ)I"⟩, 37), (⟨"RatchetDeskModel", "keepUpTo", "(II)Z"⟩, 37), (⟨"RatchetDeskModel", "isFirst", "(II)Z"⟩, 37)]
theorem lw_r4 : ∀ q ∈ lw_privs_4, lw_okq q := List.forall_mem_cons.mpr ⟨lw_p48, List.forall_mem_cons.mpr ⟨lw_p49, List.forall_mem_cons.mpr ⟨lw_p50, List.forall_mem_cons.mpr ⟨lw_p51, List.forall_mem_cons.mpr ⟨lw_p52, List.forall_mem_cons.mpr ⟨lw_p53, List.forall_mem_cons.mpr ⟨lw_p54, List.forall_mem_cons.mpr ⟨lw_p55, List.forall_mem_cons.mpr ⟨lw_p56, fun _ h => absurd h List.not_mem_nil⟩⟩⟩⟩⟩⟩⟩⟩⟩
def lw_privs : List (MethodName × Nat) := lw_privs_1 ++ (lw_privs_2 ++ (lw_privs_3 ++ (lw_privs_4)))
def lw_tbl : List Cond := k2_sels lw_privs ++ tables_1
theorem lw_privs_ok : ∀ q ∈ lw_privs, lw_okq q := by
  show ∀ q ∈ lw_privs_1 ++ (lw_privs_2 ++ (lw_privs_3 ++ (lw_privs_4))), lw_okq q
  exact List.forall_mem_append.mpr ⟨lw_r1, List.forall_mem_append.mpr ⟨lw_r2, List.forall_mem_append.mpr ⟨lw_r3, lw_r4⟩⟩⟩
end
section
/-! ===== the abstract values: an int between two bounds, perhaps a ghost and a constant; a long between two bounds; a reference: null, a named cell, a typed cell, a static array, anything ===== -/
abbrev ck_V : Type := (Int × Int × Option (Nat × Int)) ⊕ ((Int × Int) ⊕ (Nat × Nat))
def ck_iok (lo hi : Int) : Bool := decide (-2147483648 ≤ lo) && decide (hi ≤ 2147483647)
def ck_full : ck_V := .inl (-2147483648, 2147483647, none)
def ck_rng (lo hi : Int) : ck_V := if ck_iok lo hi then .inl (lo, hi, none) else ck_full
def ck_lfull : ck_V := .inr (.inl (-9223372036854775808, 9223372036854775807))
def ck_min (a b : Int) : Int := if a ≤ b then a else b
def ck_max (a b : Int) : Int := if a ≤ b then b else a
theorem ck_min_l (a b : Int) : ck_min a b ≤ a := by unfold ck_min; split <;> omega
theorem ck_min_r (a b : Int) : ck_min a b ≤ b := by unfold ck_min; split <;> omega
theorem ck_max_l (a b : Int) : a ≤ ck_max a b := by unfold ck_max; split <;> omega
theorem ck_max_r (a b : Int) : b ≤ ck_max a b := by unfold ck_max; split <;> omega
theorem ck_le_min {x a b : Int} (h1 : x ≤ a) (h2 : x ≤ b) : x ≤ ck_min a b := by unfold ck_min; split <;> omega
theorem ck_max_le {x a b : Int} (h1 : a ≤ x) (h2 : b ≤ x) : ck_max a b ≤ x := by unfold ck_max; split <;> omega
/-- an int in a range, with what its ghost says -/
def ck_in (ρ : Nat → Int) (q : Int × Int × Option (Nat × Int)) (x : Int32) : Prop := q.1 ≤ x.toInt ∧ x.toInt ≤ q.2.1 ∧ ∀ g c, q.2.2 = some (g, c) → x.toInt = ρ g + c
def ck_i32 (x : Int32) : -2147483648 ≤ x.toInt ∧ x.toInt ≤ 2147483647 := by
  have h1 := Int32.minValue_le_toInt x
  have h2 := Int32.toInt_le x
  exact ⟨by simpa using h1, by have := Int32.toInt_lt x; omega⟩
def ck_isI (ρ : Nat → Int) (v : ck_V) (x : Int32) : Prop := ∃ q, v = .inl q ∧ ck_in ρ q x
theorem ck_isI_full (ρ : Nat → Int) (x : Int32) : ck_isI ρ ck_full x := ⟨_, rfl, (ck_i32 x).1, (ck_i32 x).2, fun g c h => by cases h⟩
theorem ck_isI_rng {ρ : Nat → Int} {lo hi : Int} {x : Int32} (h : ck_iok lo hi = true → lo ≤ x.toInt ∧ x.toInt ≤ hi) : ck_isI ρ (ck_rng lo hi) x := by
  unfold ck_rng
  split
  · rename_i h1
    exact ⟨_, rfl, (h h1).1, (h h1).2, fun g c h => by cases h⟩
  · exact ck_isI_full ρ x
theorem ck_iok_of {lo hi : Int} (h : ck_iok lo hi = true) : -2147483648 ≤ lo ∧ hi ≤ 2147483647 := by
  unfold ck_iok at h
  simpa using h
theorem ck_bmod {n : Int} (h1 : -2147483648 ≤ n) (h2 : n ≤ 2147483647) : n.bmod 4294967296 = n := by
  rw [Int.bmod_def]
  split <;> omega
theorem ck_bm {n : Int} (h1 : -2147483648 ≤ n) (h2 : n ≤ 2147483647) : n.bmod (2 ^ 32) = n := ck_bmod h1 h2
theorem ck_tadd (x y : Int32) (h1 : -2147483648 ≤ x.toInt + y.toInt) (h2 : x.toInt + y.toInt ≤ 2147483647) : (x + y).toInt = x.toInt + y.toInt := by
  rw [Int32.toInt_add]; exact ck_bm h1 h2
theorem ck_tsub (x y : Int32) (h1 : -2147483648 ≤ x.toInt - y.toInt) (h2 : x.toInt - y.toInt ≤ 2147483647) : (x - y).toInt = x.toInt - y.toInt := by
  rw [Int32.toInt_sub]; exact ck_bm h1 h2
theorem ck_tmul (x y : Int32) (h1 : -2147483648 ≤ x.toInt * y.toInt) (h2 : x.toInt * y.toInt ≤ 2147483647) : (x * y).toInt = x.toInt * y.toInt := by
  rw [Int32.toInt_mul]; exact ck_bm h1 h2
/-! adding, taking away: the ghost goes on where the other is a constant -/
abbrev ck_Q : Type := Int × Int × Option (Nat × Int)
def ck_tagA (x y : ck_Q) : Option (Nat × Int) := match x.2.2 with
  | some (g, k) => if y.1 = y.2.1 then some (g, k + y.1) else none
  | none => match y.2.2 with
    | some (g, k) => if x.1 = x.2.1 then some (g, k + x.1) else none
    | none => none
def ck_add (x y : ck_Q) : ck_V := if ck_iok (x.1 + y.1) (x.2.1 + y.2.1) then .inl (x.1 + y.1, x.2.1 + y.2.1, ck_tagA x y) else ck_full
theorem ck_add_ok {ρ : Nat → Int} {p q : ck_Q} {x y : Int32} (hx : ck_in ρ p x) (hy : ck_in ρ q y) : ck_isI ρ (ck_add p q) (x + y) := by
  obtain ⟨a1, a2, a3⟩ := hx
  obtain ⟨b1, b2, b3⟩ := hy
  unfold ck_add
  split
  · rename_i h
    obtain ⟨h1, h2⟩ := ck_iok_of h
    have e := ck_tadd x y (by omega) (by omega)
    refine ⟨_, rfl, by dsimp only; rw [e]; omega, by dsimp only; rw [e]; omega, fun g c hg => ?_⟩
    rw [e]
    have hg : ck_tagA p q = some (g, c) := hg
    unfold ck_tagA at hg
    split at hg
    · rename_i g' k' hp
      split at hg
      · rename_i hc
        cases hg
        have := a3 _ _ hp
        omega
      · cases hg
    · split at hg
      · rename_i g' k' hp
        split at hg
        · rename_i hc
          cases hg
          have := b3 _ _ hp
          omega
        · cases hg
      · cases hg
  · exact ck_isI_full ρ _
def ck_tagS (x y : ck_Q) : Option (Nat × Int) := match x.2.2 with
  | some (g, k) => if y.1 = y.2.1 then some (g, k - y.1) else none
  | none => none
def ck_sub (x y : ck_Q) : ck_V := if ck_iok (x.1 - y.2.1) (x.2.1 - y.1) then .inl (x.1 - y.2.1, x.2.1 - y.1, ck_tagS x y) else ck_full
theorem ck_sub_ok {ρ : Nat → Int} {p q : ck_Q} {x y : Int32} (hx : ck_in ρ p x) (hy : ck_in ρ q y) : ck_isI ρ (ck_sub p q) (x - y) := by
  obtain ⟨a1, a2, a3⟩ := hx
  obtain ⟨b1, b2, b3⟩ := hy
  unfold ck_sub
  split
  · rename_i h
    obtain ⟨h1, h2⟩ := ck_iok_of h
    have e := ck_tsub x y (by omega) (by omega)
    refine ⟨_, rfl, by dsimp only; rw [e]; omega, by dsimp only; rw [e]; omega, fun g c hg => ?_⟩
    rw [e]
    have hg : ck_tagS p q = some (g, c) := hg
    unfold ck_tagS at hg
    split at hg
    · rename_i g' k' hp
      split at hg
      · rename_i hc
        cases hg
        have := a3 _ _ hp
        omega
      · cases hg
    · cases hg
  · exact ck_isI_full ρ _
/-! multiplying: the four corners -/
def ck_mul (x y : ck_Q) : ck_V :=
  let a := x.1 * y.1
  let b := x.1 * y.2.1
  let c := x.2.1 * y.1
  let d := x.2.1 * y.2.1
  ck_rng (ck_min (ck_min a b) (ck_min c d)) (ck_max (ck_max a b) (ck_max c d))
theorem ck_lin {a b u : Int} (v : Int) (h1 : a ≤ u) (h2 : u ≤ b) : ck_min (a * v) (b * v) ≤ u * v ∧ u * v ≤ ck_max (a * v) (b * v) := by
  rcases Int.le_total 0 v with h | h
  · have e1 : a * v ≤ u * v := Int.mul_le_mul_of_nonneg_right h1 h
    have e2 : u * v ≤ b * v := Int.mul_le_mul_of_nonneg_right h2 h
    exact ⟨Int.le_trans (ck_min_l _ _) e1, Int.le_trans e2 (ck_max_r _ _)⟩
  · have e1 : u * v ≤ a * v := Int.mul_le_mul_of_nonpos_right h1 h
    have e2 : b * v ≤ u * v := Int.mul_le_mul_of_nonpos_right h2 h
    exact ⟨Int.le_trans (ck_min_r _ _) e2, Int.le_trans e1 (ck_max_l _ _)⟩
theorem ck_mul_b {a b c d u v : Int} (h1 : a ≤ u) (h2 : u ≤ b) (h3 : c ≤ v) (h4 : v ≤ d) :
    ck_min (ck_min (a * c) (a * d)) (ck_min (b * c) (b * d)) ≤ u * v ∧ u * v ≤ ck_max (ck_max (a * c) (a * d)) (ck_max (b * c) (b * d)) := by
  obtain ⟨l1, l2⟩ := ck_lin v h1 h2
  obtain ⟨m1, m2⟩ := ck_lin a h3 h4
  obtain ⟨n1, n2⟩ := ck_lin b h3 h4
  rw [Int.mul_comm c a, Int.mul_comm d a, Int.mul_comm v a] at m1 m2
  rw [Int.mul_comm c b, Int.mul_comm d b, Int.mul_comm v b] at n1 n2
  constructor
  · refine Int.le_trans ?_ l1
    refine ck_le_min ?_ ?_
    · exact Int.le_trans (ck_min_l _ _) m1
    · exact Int.le_trans (ck_min_r _ _) n1
  · refine Int.le_trans l2 ?_
    refine ck_max_le ?_ ?_
    · exact Int.le_trans m2 (ck_max_l _ _)
    · exact Int.le_trans n2 (ck_max_r _ _)
theorem ck_mul_ok {ρ : Nat → Int} {p q : ck_Q} {x y : Int32} (hx : ck_in ρ p x) (hy : ck_in ρ q y) : ck_isI ρ (ck_mul p q) (x * y) := by
  obtain ⟨a1, a2, -⟩ := hx
  obtain ⟨b1, b2, -⟩ := hy
  refine ck_isI_rng fun h => ?_
  obtain ⟨h1, h2⟩ := ck_iok_of h
  obtain ⟨m1, m2⟩ := ck_mul_b a1 a2 b1 b2
  have e := ck_tmul x y (by omega) (by omega)
  rw [e]
  exact ⟨m1, m2⟩
/-! by a number above 0, of a number not below 0 -/
def ck_div (x y : ck_Q) : Option ck_V := if 0 < y.1 then (if y.1 = y.2.1 ∧ 0 ≤ x.1 then some (ck_rng (x.1 / y.1) (x.2.1 / y.1)) else some ck_full) else none
def ck_rem (x y : ck_Q) : Option ck_V := if 0 < y.1 then (if y.1 = y.2.1 ∧ 0 ≤ x.1 then (if x.1 = x.2.1 then some (ck_rng (x.1 % y.1) (x.1 % y.1)) else if x.2.1 < y.1 then some (ck_rng x.1 x.2.1) else some (ck_rng 0 (y.1 - 1))) else some ck_full) else none
theorem ck_tdiv {x y : Int32} (h1 : 0 ≤ x.toInt) (h2 : 0 < y.toInt) : (x / y).toInt = x.toInt / y.toInt := by
  rw [Int32.toInt_div]
  have hx := ck_i32 x
  have e : x.toInt.tdiv y.toInt = x.toInt / y.toInt := by
    rw [Int.tdiv_eq_ediv_of_nonneg h1]
  rw [e]
  have h3 : 0 ≤ x.toInt / y.toInt := Int.ediv_nonneg h1 (by omega)
  have h4 : x.toInt / y.toInt ≤ x.toInt := Int.ediv_le_self _ h1
  exact ck_bm (by omega) (by omega)
theorem ck_ne0 {ρ : Nat → Int} {q : ck_Q} {y : Int32} (hy : ck_in ρ q y) (h : 0 < q.1) : ¬ y = 0 := by
  intro e
  obtain ⟨b1, -⟩ := hy
  subst e
  have : (0 : Int32).toInt = 0 := rfl
  omega
theorem ck_div_ok {ρ : Nat → Int} {p q : ck_Q} {x y : Int32} {r : ck_V} (hx : ck_in ρ p x) (hy : ck_in ρ q y) (h : ck_div p q = some r) : ¬ y = 0 ∧ ck_isI ρ r (x / y) := by
  unfold ck_div at h
  split at h
  · rename_i h0
    refine ⟨ck_ne0 hy h0, ?_⟩
    obtain ⟨a1, a2, -⟩ := hx
    obtain ⟨b1, b2, -⟩ := hy
    split at h
    · rename_i h1
      cases h
      refine ck_isI_rng fun _ => ?_
      have hy1 : y.toInt = q.1 := by omega
      rw [ck_tdiv (by omega) (by omega), hy1]
      exact ⟨Int.ediv_le_ediv h0 a1, Int.ediv_le_ediv h0 a2⟩
    · cases h
      exact ck_isI_full ρ _
  · cases h
theorem ck_trem {x y : Int32} (h1 : 0 ≤ x.toInt) (h2 : 0 < y.toInt) : (x - x / y * y).toInt = x.toInt % y.toInt := by
  have hx := ck_i32 x
  have e1 := ck_tdiv h1 h2
  have h3 : 0 ≤ x.toInt / y.toInt := Int.ediv_nonneg h1 (by omega)
  have h5 : x.toInt / y.toInt * y.toInt ≤ x.toInt := Int.ediv_mul_le _ (by omega)
  have h6 : 0 ≤ x.toInt / y.toInt * y.toInt := Int.mul_nonneg h3 (by omega)
  have e2 : (x / y * y).toInt = x.toInt / y.toInt * y.toInt := by
    rw [ck_tmul _ _ (by rw [e1]; omega) (by rw [e1]; omega), e1]
  rw [ck_tsub _ _ (by rw [e2]; omega) (by rw [e2]; omega), e2, Int.emod_def, Int.mul_comm]
theorem ck_rem_ok {ρ : Nat → Int} {p q : ck_Q} {x y : Int32} {r : ck_V} (hx : ck_in ρ p x) (hy : ck_in ρ q y) (h : ck_rem p q = some r) : ¬ y = 0 ∧ ck_isI ρ r (x - x / y * y) := by
  unfold ck_rem at h
  split at h
  · rename_i h0
    refine ⟨ck_ne0 hy h0, ?_⟩
    obtain ⟨a1, a2, -⟩ := hx
    obtain ⟨b1, b2, -⟩ := hy
    split at h
    · rename_i h1
      have hy1 : y.toInt = q.1 := by omega
      have e := ck_trem (x := x) (y := y) (by omega) (by omega)
      rw [hy1] at e
      have g1 := Int.emod_nonneg x.toInt (show q.1 ≠ 0 by omega)
      have g2 := Int.emod_lt_of_pos x.toInt h0
      split at h
      · rename_i hh
        cases h
        refine ck_isI_rng fun _ => ?_
        have : x.toInt = p.1 := by omega
        rw [e, this]
        exact ⟨Int.le_refl _, Int.le_refl _⟩
      · split at h
        · cases h
          refine ck_isI_rng fun _ => ?_
          have : x.toInt % q.1 = x.toInt := Int.emod_eq_of_lt (by omega) (by omega)
          rw [e, this]
          exact ⟨a1, a2⟩
        · cases h
          refine ck_isI_rng fun _ => ?_
          rw [e]
          omega
    · cases h
      exact ck_isI_full ρ _
  · cases h
end
section
/-! ===== bits: and, or, xor, shifts ===== -/
theorem ck_nat {x : Int32} (h : 0 ≤ x.toInt) : ((x.toBitVec.toNat : Nat) : Int) = x.toInt := by
  have e : x.toInt = x.toBitVec.toInt := rfl
  have c := BitVec.toInt_eq_toNat_cond x.toBitVec
  have hl := x.toBitVec.isLt
  rw [e] at h ⊢
  split at c <;> omega
theorem ck_ofnat {x : Int32} {n : Nat} (h : x.toBitVec.toNat = n) (hn : n < 2147483648) : x.toInt = (n : Int) := by
  have e : x.toInt = x.toBitVec.toInt := rfl
  rw [e, BitVec.toInt_eq_toNat_cond, if_pos (by omega), h]
def ck_and (x y : ck_Q) : ck_V :=
  if x.1 = x.2.1 ∧ y.1 = y.2.1 ∧ 0 ≤ x.1 ∧ 0 ≤ y.1 then ck_rng (x.1.toNat &&& y.1.toNat : Nat) (x.1.toNat &&& y.1.toNat : Nat)
  else if 0 ≤ x.1 ∧ 0 ≤ y.1 then ck_rng 0 (ck_min x.2.1 y.2.1)
  else if 0 ≤ y.1 then ck_rng 0 y.2.1 else if 0 ≤ x.1 then ck_rng 0 x.2.1 else ck_full
theorem ck_and_nat (x y : Int32) : (x &&& y).toBitVec.toNat = x.toBitVec.toNat &&& y.toBitVec.toNat := by
  rw [Int32.toBitVec_and, BitVec.toNat_and]
theorem ck_and_ok {ρ : Nat → Int} {p q : ck_Q} {x y : Int32} (hx : ck_in ρ p x) (hy : ck_in ρ q y) : ck_isI ρ (ck_and p q) (x &&& y) := by
  obtain ⟨a1, a2, -⟩ := hx
  obtain ⟨b1, b2, -⟩ := hy
  have e := ck_and_nat x y
  have hl1 : x.toBitVec.toNat &&& y.toBitVec.toNat ≤ x.toBitVec.toNat := Nat.and_le_left
  have hl2 : x.toBitVec.toNat &&& y.toBitVec.toNat ≤ y.toBitVec.toNat := Nat.and_le_right
  have hx3 := ck_i32 x
  have hy3 := ck_i32 y
  unfold ck_and
  split
  · rename_i h
    refine ck_isI_rng fun _ => ?_
    have ex := ck_nat (x := x) (by omega)
    have ey := ck_nat (x := y) (by omega)
    have h1 : p.1.toNat = x.toBitVec.toNat := by omega
    have h2 : q.1.toNat = y.toBitVec.toNat := by omega
    rw [h1, h2, ck_ofnat e (by omega)]
    exact ⟨Int.le_refl _, Int.le_refl _⟩
  · split
    · rename_i h
      refine ck_isI_rng fun _ => ?_
      have ex := ck_nat (x := x) (by omega)
      have ey := ck_nat (x := y) (by omega)
      rw [ck_ofnat e (by omega)]
      exact ⟨by omega, ck_le_min (by omega) (by omega)⟩
    · split
      · refine ck_isI_rng fun _ => ?_
        have ey := ck_nat (x := y) (by omega)
        rw [ck_ofnat e (by omega)]
        omega
      · split
        · refine ck_isI_rng fun _ => ?_
          have ex := ck_nat (x := x) (by omega)
          rw [ck_ofnat e (by omega)]
          omega
        · exact ck_isI_full ρ _
/-! or, xor of two that are not below 0: below the next power of two of both -/
def ck_p2 (n : Int) : Option Nat := if n < 256 then some 8 else if n < 65536 then some 16 else if n < 16777216 then some 24 else if n < 2147483648 then some 31 else none
def ck_orx (x y : ck_Q) : ck_V := if 0 ≤ x.1 ∧ 0 ≤ y.1 then (match ck_p2 (ck_max x.2.1 y.2.1) with
  | some k => ck_rng 0 ((2 ^ k - 1 : Nat) : Int)
  | none => ck_full) else ck_full
theorem ck_p2_ok {n : Int} {k : Nat} (h : ck_p2 n = some k) : n < ((2 ^ k : Nat) : Int) ∧ k ≤ 31 := by
  unfold ck_p2 at h
  split at h
  · cases h; exact ⟨by simpa using by assumption, by omega⟩
  · split at h
    · cases h; exact ⟨by simpa using by assumption, by omega⟩
    · split at h
      · cases h; exact ⟨by simpa using by assumption, by omega⟩
      · split at h
        · cases h; exact ⟨by simpa using by assumption, by omega⟩
        · cases h
theorem ck_orx_ok {ρ : Nat → Int} {p q : ck_Q} {x y z : Int32} (hx : ck_in ρ p x) (hy : ck_in ρ q y) (hz : ∀ k : Nat, x.toBitVec.toNat < 2 ^ k → y.toBitVec.toNat < 2 ^ k → z.toBitVec.toNat < 2 ^ k) : ck_isI ρ (ck_orx p q) z := by
  obtain ⟨a1, a2, -⟩ := hx
  obtain ⟨b1, b2, -⟩ := hy
  unfold ck_orx
  split
  · rename_i h
    split
    · rename_i k hk
      obtain ⟨h1, h2⟩ := ck_p2_ok hk
      refine ck_isI_rng fun _ => ?_
      have ex := ck_nat (x := x) (by omega)
      have ey := ck_nat (x := y) (by omega)
      have m1 := ck_max_l p.2.1 q.2.1
      have m2 := ck_max_r p.2.1 q.2.1
      have hzk := hz k (by omega) (by omega)
      have hp : 2 ^ k ≤ 2 ^ 31 := Nat.pow_le_pow_right (by omega) h2
      rw [ck_ofnat (x := z) rfl (by omega)]
      omega
    · exact ck_isI_full ρ _
  · exact ck_isI_full ρ _
theorem ck_or_ok {ρ : Nat → Int} {p q : ck_Q} {x y : Int32} (hx : ck_in ρ p x) (hy : ck_in ρ q y) : ck_isI ρ (ck_orx p q) (x ||| y) :=
  ck_orx_ok hx hy fun k h1 h2 => by rw [Int32.toBitVec_or, BitVec.toNat_or]; exact Nat.or_lt_two_pow h1 h2
theorem ck_xor_ok {ρ : Nat → Int} {p q : ck_Q} {x y : Int32} (hx : ck_in ρ p x) (hy : ck_in ρ q y) : ck_isI ρ (ck_orx p q) (x ^^^ y) :=
  ck_orx_ok hx hy fun k h1 h2 => by rw [Int32.toBitVec_xor, BitVec.toNat_xor]; exact Nat.xor_lt_two_pow h1 h2
/-! shifts -/
theorem ck_sl : ∀ n, n < 32 → ((nI n &&& 31).toBitVec.smod 32).toNat = n := by decide +kernel
theorem ck_su : ∀ n, n < 32 → (((nI n).toUInt32 &&& Int32.toUInt32 31).toBitVec % 32).toNat = n := by decide +kernel
theorem ck_nI_of {x : Int32} {n : Nat} (h : x.toInt = (n : Int)) : x = nI n := by
  have hx := ck_i32 x
  apply Int32.toInt_inj.mp
  rw [h, nI_toInt (by omega)]
def ck_sh (y : ck_Q) : Option Nat := if y.1 = y.2.1 ∧ 0 ≤ y.1 ∧ y.1 < 32 then some y.1.toNat else none
theorem ck_sh_ok {ρ : Nat → Int} {q : ck_Q} {y : Int32} {n : Nat} (hy : ck_in ρ q y) (h : ck_sh q = some n) : n < 32 ∧ y = nI n := by
  obtain ⟨b1, b2, -⟩ := hy
  unfold ck_sh at h
  split at h
  · cases h
    exact ⟨by omega, ck_nI_of (by omega)⟩
  · cases h
def ck_shl (x y : ck_Q) : ck_V := match ck_sh y with
  | some n => if 0 ≤ x.1 then ck_rng (x.1 * ((2 ^ n : Nat) : Int)) (x.2.1 * ((2 ^ n : Nat) : Int)) else ck_full
  | none => ck_full
theorem ck_shl_ok {ρ : Nat → Int} {p q : ck_Q} {x y : Int32} (hx : ck_in ρ p x) (hy : ck_in ρ q y) : ck_isI ρ (ck_shl p q) (x <<< (y &&& 31)) := by
  unfold ck_shl
  split
  · rename_i n hn
    obtain ⟨h1, rfl⟩ := ck_sh_ok hy hn
    obtain ⟨a1, a2, -⟩ := hx
    split
    · refine ck_isI_rng fun h => ?_
      obtain ⟨h3, h4⟩ := ck_iok_of h
      have ex := ck_nat (x := x) (by omega)
      have e := pk_shl x (nI n &&& 31) n (ck_sl n h1)
      have m1 : p.1 * ((2 ^ n : Nat) : Int) ≤ x.toInt * ((2 ^ n : Nat) : Int) := Int.mul_le_mul_of_nonneg_right a1 (Int.natCast_nonneg _)
      have m2 : x.toInt * ((2 ^ n : Nat) : Int) ≤ p.2.1 * ((2 ^ n : Nat) : Int) := Int.mul_le_mul_of_nonneg_right a2 (Int.natCast_nonneg _)
      rw [← ex] at m1 m2
      have m3 : ((x.toBitVec.toNat * 2 ^ n : Nat) : Int) = (x.toBitVec.toNat : Int) * ((2 ^ n : Nat) : Int) := Int.natCast_mul _ _
      rw [← m3] at m1 m2
      rw [Nat.mod_eq_of_lt (by omega)] at e
      rw [ck_ofnat e (by omega)]
      exact ⟨m1, m2⟩
    · exact ck_isI_full ρ _
  · exact ck_isI_full ρ _
def ck_shr (x y : ck_Q) : ck_V := match ck_sh y with
  | some n => ck_rng (x.1 / ((2 ^ n : Nat) : Int)) (x.2.1 / ((2 ^ n : Nat) : Int))
  | none => if 0 ≤ x.1 then ck_rng 0 x.2.1 else ck_full
theorem ck_shr_ok {ρ : Nat → Int} {p q : ck_Q} {x y : Int32} (hx : ck_in ρ p x) (hy : ck_in ρ q y) : ck_isI ρ (ck_shr p q) (x >>> (y &&& 31)) := by
  unfold ck_shr
  obtain ⟨a1, a2, -⟩ := id hx
  split
  · rename_i n hn
    obtain ⟨h1, rfl⟩ := ck_sh_ok hy hn
    refine ck_isI_rng fun h => ?_
    rw [pk_shr x (nI n &&& 31) n (ck_sl n h1), Int.shiftRight_eq_div_pow]
    have hp : (0 : Int) < ((2 ^ n : Nat) : Int) := by have := Nat.two_pow_pos n; omega
    exact ⟨Int.ediv_le_ediv hp a1, Int.ediv_le_ediv hp a2⟩
  · split
    · refine ck_isI_rng fun h => ?_
      rw [pk_shr x (y &&& 31) _ rfl, Int.shiftRight_eq_div_pow]
      have h0 : 0 ≤ x.toInt := by omega
      have := Int.ediv_nonneg h0 (show (0 : Int) ≤ ((2 ^ ((y &&& 31).toBitVec.smod 32).toNat : Nat) : Int) from Int.natCast_nonneg _)
      have := Int.ediv_le_self ((2 ^ ((y &&& 31).toBitVec.smod 32).toNat : Nat) : Int) h0
      omega
    · exact ck_isI_full ρ _
def ck_ushr (x y : ck_Q) : ck_V := match ck_sh y with
  | some n => if 0 ≤ x.1 then ck_rng (x.1 / ((2 ^ n : Nat) : Int)) (x.2.1 / ((2 ^ n : Nat) : Int)) else if 0 < n then ck_rng 0 ((2 ^ (32 - n) : Nat) : Int) else ck_full
  | none => ck_full
theorem ck_ushr_ok {ρ : Nat → Int} {p q : ck_Q} {x y : Int32} (hx : ck_in ρ p x) (hy : ck_in ρ q y) : ck_isI ρ (ck_ushr p q) ((x.toUInt32 >>> (y.toUInt32 &&& Int32.toUInt32 31)).toInt32) := by
  unfold ck_ushr
  obtain ⟨a1, a2, -⟩ := id hx
  split
  · rename_i n hn
    obtain ⟨h1, rfl⟩ := ck_sh_ok hy hn
    have e := pk_ushr x (nI n) n (ck_su n h1)
    have hl := x.toBitVec.isLt
    have hp : (0 : Int) < ((2 ^ n : Nat) : Int) := by have := Nat.two_pow_pos n; omega
    split
    · refine ck_isI_rng fun h => ?_
      have ex := ck_nat (x := x) (by omega)
      have hx3 := ck_i32 x
      have hd : x.toBitVec.toNat / 2 ^ n ≤ x.toBitVec.toNat := Nat.div_le_self _ _
      rw [ck_ofnat e (by omega), Int.natCast_ediv, ex]
      exact ⟨Int.ediv_le_ediv hp a1, Int.ediv_le_ediv hp a2⟩
    · split
      · rename_i hn0
        refine ck_isI_rng fun h => ?_
        have hq : x.toBitVec.toNat / 2 ^ n < 2 ^ (32 - n) := by
          rw [Nat.div_lt_iff_lt_mul (Nat.two_pow_pos n), ← Nat.pow_add, show 32 - n + n = 32 by omega]
          exact hl
        have h31 : 2 ^ (32 - n) ≤ 2 ^ 31 := Nat.pow_le_pow_right (by omega) (by omega)
        rw [ck_ofnat e (by omega)]
        omega
      · exact ck_isI_full ρ _
  · exact ck_isI_full ρ _
/-! comparing: what the branch tells of both -/
def ck_ref (k : ClassFile.Cond) (x y : Int × Int) : Option ((Int × Int) × (Int × Int)) :=
  let r := match k with
    | .eq => ((ck_max x.1 y.1, ck_min x.2 y.2), (ck_max x.1 y.1, ck_min x.2 y.2))
    | .ne => if y.1 = y.2 ∧ x.1 = y.1 then ((x.1 + 1, x.2), y) else if y.1 = y.2 ∧ x.2 = y.1 then ((x.1, x.2 - 1), y) else (x, y)
    | .lt => ((x.1, ck_min x.2 (y.2 - 1)), (ck_max y.1 (x.1 + 1), y.2))
    | .ge => ((ck_max x.1 y.1, x.2), (y.1, ck_min y.2 x.2))
    | .gt => ((ck_max x.1 (y.1 + 1), x.2), (y.1, ck_min y.2 (x.2 - 1)))
    | .le => ((x.1, ck_min x.2 y.2), (ck_max y.1 x.1, y.2))
  if r.1.1 ≤ r.1.2 ∧ r.2.1 ≤ r.2.2 then some r else none
def ck_hold (k : ClassFile.Cond) (u v : Int) : Prop := match k with
  | .eq => u = v | .ne => u ≠ v | .lt => u < v | .ge => v ≤ u | .gt => v < u | .le => u ≤ v
theorem ck_ref_ok {k : ClassFile.Cond} {x y : Int × Int} {u v : Int} (h : ck_hold k u v) (a1 : x.1 ≤ u) (a2 : u ≤ x.2) (b1 : y.1 ≤ v) (b2 : v ≤ y.2) :
    ∃ r, ck_ref k x y = some r ∧ r.1.1 ≤ u ∧ u ≤ r.1.2 ∧ r.2.1 ≤ v ∧ v ≤ r.2.2 := by
  have key : ∀ r : (Int × Int) × (Int × Int), (r.1.1 ≤ u ∧ u ≤ r.1.2 ∧ r.2.1 ≤ v ∧ v ≤ r.2.2) → ∃ r', (if r.1.1 ≤ r.1.2 ∧ r.2.1 ≤ r.2.2 then some r else none) = some r' ∧ r'.1.1 ≤ u ∧ u ≤ r'.1.2 ∧ r'.2.1 ≤ v ∧ v ≤ r'.2.2 := by
    intro r hr
    refine ⟨r, if_pos ⟨by omega, by omega⟩, hr⟩
  unfold ck_ref
  refine key _ ?_
  cases k <;> simp only [ck_hold] at h <;> dsimp only
  · exact ⟨ck_max_le (by omega) (by omega), ck_le_min (by omega) (by omega), ck_max_le (by omega) (by omega), ck_le_min (by omega) (by omega)⟩
  · split
    · exact ⟨by dsimp only; omega, a2, b1, b2⟩
    · split
      · exact ⟨a1, by dsimp only; omega, b1, b2⟩
      · exact ⟨a1, a2, b1, b2⟩
  · exact ⟨a1, ck_le_min (by omega) (by omega), ck_max_le (by omega) (by omega), b2⟩
  · exact ⟨ck_max_le (by omega) (by omega), a2, b1, ck_le_min (by omega) (by omega)⟩
  · exact ⟨ck_max_le (by omega) (by omega), a2, b1, ck_le_min (by omega) (by omega)⟩
  · exact ⟨a1, ck_le_min (by omega) (by omega), ck_max_le (by omega) (by omega), b2⟩
def ck_neg (k : ClassFile.Cond) : ClassFile.Cond := match k with
  | .eq => .ne | .ne => .eq | .lt => .ge | .ge => .lt | .gt => .le | .le => .gt
theorem ck_neg_ok {k : ClassFile.Cond} {u v : Int} (h : ¬ ck_hold k u v) : ck_hold (ck_neg k) u v := by
  cases k <;> simp only [ck_hold, ck_neg] at h ⊢ <;> omega
end
section
/-! ===== names, printed: classes, fields, their types; the words of the tables that say so ===== -/
theorem ck_mem_r {big ws : List Cond} (ps : List Nat) (hp : ws = ps.filterMap (fun i => big[i]?)) : ∀ w ∈ ws, w ∈ big := by
  intro w hw
  rw [hp] at hw
  obtain ⟨i, -, hi⟩ := List.mem_filterMap.mp hw
  exact List.mem_of_getElem? hi
/-- the words that go over to whoever is called -/
def ck_mv : Cond → Bool
  | .methodLinkNest .. => true
  | .arrayClass _ => true
  | .arrayOver (.object _) => true
  | .arrayOver (.array _) => true
  | w => w.onTables && (w.keeps || w.keepsFace)
def ck_tb : List Cond := lw_tbl.filter ck_mv
theorem ck_tab {w : Cond} (h : w ∈ tables_1) (hm : ck_mv w = true) : w ∈ ck_tb := List.mem_filter.mpr ⟨List.mem_append_right _ h, hm⟩
theorem ck_tabi {w : Cond} (i : Nat) (h : tables_1[i]? = some w) (hm : ck_mv w = true) : w ∈ ck_tb := ck_tab (List.mem_of_getElem? h) hm
theorem ck_seli {w : Cond} (i : Nat) (h : (k2_sels lw_privs)[i]? = some w) (hm : ck_mv w = true) : w ∈ ck_tb := List.mem_filter.mpr ⟨List.mem_append_left _ (List.mem_of_getElem? h), hm⟩
theorem ck_tabl {ws : List Cond} (ps : List Nat) (hp : ws = ps.filterMap (fun i => tables_1[i]?)) (hm : ws.all ck_mv = true) : ∀ w ∈ ws, w ∈ ck_tb := fun w h => ck_tab (ck_mem_r ps hp w h) (List.all_eq_true.mp hm w h)
def cn_C0 : String := "RatchetDesk"
def cn_T0 : u_T := fun k => match k with
  | 0 => ("RatchetDesk", "seed", "I", true)
  | 1 => ("RatchetDesk", "desk", "[[I", true)
  | 2 => ("RatchetDesk", "people", "[LRatchetDesk$Person;", true)
  | 3 => ("RatchetDesk", "talks", "[LRatchetDesk$End;", true)
  | 4 => ("RatchetDesk", "post", "[LRatchetDesk$Letter;", true)
  | 5 => ("RatchetDesk", "passing", "LRatchetDesk$Secret;", true)
  | 6 => ("RatchetDesk", "tools", "LRatchetDesk$Tools;", true)
  | 7 => ("RatchetDesk", "trial", "LRatchetDesk$End;", false)
  | 8 => ("RatchetDesk", "endCount", "I", false)
  | 9 => ("RatchetDesk", "letterCount", "I", false)
  | _ => ("RatchetDesk", "secretCount", "I", false)
def cn_y0 : Nat → FieldType := fun k => match k with
  | 0 => .int
  | 1 => (.array (.array .int))
  | 2 => (.array (.object "RatchetDesk$Person"))
  | 3 => (.array (.object "RatchetDesk$End"))
  | 4 => (.array (.object "RatchetDesk$Letter"))
  | 5 => (.object "RatchetDesk$Secret")
  | 6 => (.object "RatchetDesk$Tools")
  | 7 => (.object "RatchetDesk$End")
  | 8 => .int
  | 9 => .int
  | _ => .int
theorem cn_w0 : ∀ w ∈ u_ws cn_C0 cn_T0 11, w ∈ ck_tb := ck_tabl [395, 397, 399, 401, 403, 405, 407, 409, 411, 413, 415] (by decide +kernel) (by decide +kernel)
theorem cn_p0 : ∀ k, k < 11 → parseFieldDescriptor (cn_T0 k).2.2.1 = some (cn_y0 k) := by decide +kernel
theorem cn_n0 : ∀ a, a < 11 → ∀ b, b < 11 → a ≠ b → (cn_T0 a).2.1 ≠ (cn_T0 b).2.1 := by decide +kernel
theorem cn_o0 : ∀ k, k < 11 → (cn_T0 k).1 = cn_C0 := by decide +kernel
theorem cn_i0 : Cond.instantiable cn_C0 11 ∈ ck_tb ∧ Cond.initialized cn_C0 ∈ ck_tb := ⟨ck_tabi 21 (by decide +kernel) rfl, ck_tabi 1 (by decide +kernel) rfl⟩
def cn_C1 : String := "RatchetDesk$Secret"
def cn_T1 : u_T := fun k => match k with
  | 0 => ("RatchetDesk$Secret", "key", "[I", true)
  | 1 => ("RatchetDesk$Secret", "point", "[I", true)
  | _ => ("RatchetDesk$Secret", "reckoned", "Z", false)
def cn_y1 : Nat → FieldType := fun k => match k with
  | 0 => (.array .int)
  | 1 => (.array .int)
  | _ => .boolean
theorem cn_w1 : ∀ w ∈ u_ws cn_C1 cn_T1 3, w ∈ ck_tb := ck_tabl [47, 49, 51] (by decide +kernel) (by decide +kernel)
theorem cn_p1 : ∀ k, k < 3 → parseFieldDescriptor (cn_T1 k).2.2.1 = some (cn_y1 k) := by decide +kernel
theorem cn_n1 : ∀ a, a < 3 → ∀ b, b < 3 → a ≠ b → (cn_T1 a).2.1 ≠ (cn_T1 b).2.1 := by decide +kernel
theorem cn_o1 : ∀ k, k < 3 → (cn_T1 k).1 = cn_C1 := by decide +kernel
theorem cn_i1 : Cond.instantiable cn_C1 3 ∈ ck_tb ∧ Cond.initialized cn_C1 ∈ ck_tb := ⟨ck_tabi 37 (by decide +kernel) rfl, ck_tabi 2 (by decide +kernel) rfl⟩
def cn_C2 : String := "RatchetDesk$Tools"
def cn_T2 : u_T := fun k => match k with
  | 0 => ("RatchetDesk$Tools", "hash", "LRatchetDesk$Hash;", true)
  | 1 => ("RatchetDesk$Tools", "curve", "LRatchetDesk$Curve;", true)
  | 2 => ("RatchetDesk$Tools", "seal", "LRatchetDesk$Seal;", true)
  | 3 => ("RatchetDesk$Tools", "letterKey", "[I", true)
  | 4 => ("RatchetDesk$Tools", "shown", "[I", true)
  | 5 => ("RatchetDesk$Tools", "agreed", "[I", true)
  | _ => ("RatchetDesk$Tools", "unused", "[I", true)
def cn_y2 : Nat → FieldType := fun k => match k with
  | 0 => (.object "RatchetDesk$Hash")
  | 1 => (.object "RatchetDesk$Curve")
  | 2 => (.object "RatchetDesk$Seal")
  | 3 => (.array .int)
  | 4 => (.array .int)
  | 5 => (.array .int)
  | _ => (.array .int)
theorem cn_w2 : ∀ w ∈ u_ws cn_C2 cn_T2 7, w ∈ ck_tb := ck_tabl [176, 178, 180, 182, 184, 186, 188] (by decide +kernel) (by decide +kernel)
theorem cn_p2 : ∀ k, k < 7 → parseFieldDescriptor (cn_T2 k).2.2.1 = some (cn_y2 k) := by decide +kernel
theorem cn_n2 : ∀ a, a < 7 → ∀ b, b < 7 → a ≠ b → (cn_T2 a).2.1 ≠ (cn_T2 b).2.1 := by decide +kernel
theorem cn_o2 : ∀ k, k < 7 → (cn_T2 k).1 = cn_C2 := by decide +kernel
theorem cn_i2 : Cond.instantiable cn_C2 7 ∈ ck_tb ∧ Cond.initialized cn_C2 ∈ ck_tb := ⟨ck_tabi 56 (by decide +kernel) rfl, ck_tabi 3 (by decide +kernel) rfl⟩
def cn_C3 : String := "RatchetDesk$Hash"
def cn_T3 : u_T := fun k => match k with
  | 0 => ("RatchetDesk$Hash", "blank", "[I", true)
  | 1 => ("RatchetDesk$Hash", "row", "[I", true)
  | 2 => ("RatchetDesk$Hash", "filled", "I", false)
  | 3 => ("RatchetDesk$Hash", "words", "[I", true)
  | 4 => ("RatchetDesk$Hash", "state", "[I", true)
  | 5 => ("RatchetDesk$Hash", "macKey", "[I", true)
  | 6 => ("RatchetDesk$Hash", "inner", "[I", true)
  | _ => ("RatchetDesk$Hash", "spreadKey", "[I", true)
def cn_y3 : Nat → FieldType := fun k => match k with
  | 0 => (.array .int)
  | 1 => (.array .int)
  | 2 => .int
  | 3 => (.array .int)
  | 4 => (.array .int)
  | 5 => (.array .int)
  | 6 => (.array .int)
  | _ => (.array .int)
theorem cn_w3 : ∀ w ∈ u_ws cn_C3 cn_T3 8, w ∈ ck_tb := ck_tabl [77, 79, 81, 83, 85, 87, 89, 91] (by decide +kernel) (by decide +kernel)
theorem cn_p3 : ∀ k, k < 8 → parseFieldDescriptor (cn_T3 k).2.2.1 = some (cn_y3 k) := by decide +kernel
theorem cn_n3 : ∀ a, a < 8 → ∀ b, b < 8 → a ≠ b → (cn_T3 a).2.1 ≠ (cn_T3 b).2.1 := by decide +kernel
theorem cn_o3 : ∀ k, k < 8 → (cn_T3 k).1 = cn_C3 := by decide +kernel
theorem cn_i3 : Cond.instantiable cn_C3 8 ∈ ck_tb ∧ Cond.initialized cn_C3 ∈ ck_tb := ⟨ck_tabi 62 (by decide +kernel) rfl, ck_tabi 4 (by decide +kernel) rfl⟩
def cn_C4 : String := "RatchetDesk$Curve"
def cn_T4 : u_T := fun k => match k with
  | 0 => ("RatchetDesk$Curve", "nine", "[I", true)
  | 1 => ("RatchetDesk$Curve", "u", "[J", true)
  | 2 => ("RatchetDesk$Curve", "a", "[J", true)
  | 3 => ("RatchetDesk$Curve", "b", "[J", true)
  | 4 => ("RatchetDesk$Curve", "c", "[J", true)
  | 5 => ("RatchetDesk$Curve", "d", "[J", true)
  | 6 => ("RatchetDesk$Curve", "sum", "[J", true)
  | 7 => ("RatchetDesk$Curve", "gap", "[J", true)
  | 8 => ("RatchetDesk$Curve", "m", "[J", true)
  | 9 => ("RatchetDesk$Curve", "n", "[J", true)
  | 10 => ("RatchetDesk$Curve", "e", "[J", true)
  | 11 => ("RatchetDesk$Curve", "f", "[J", true)
  | _ => ("RatchetDesk$Curve", "g", "[J", true)
def cn_y4 : Nat → FieldType := fun k => match k with
  | 0 => (.array .int)
  | 1 => (.array .long)
  | 2 => (.array .long)
  | 3 => (.array .long)
  | 4 => (.array .long)
  | 5 => (.array .long)
  | 6 => (.array .long)
  | 7 => (.array .long)
  | 8 => (.array .long)
  | 9 => (.array .long)
  | 10 => (.array .long)
  | 11 => (.array .long)
  | _ => (.array .long)
theorem cn_w4 : ∀ w ∈ u_ws cn_C4 cn_T4 13, w ∈ ck_tb := ck_tabl [114, 116, 118, 120, 122, 124, 126, 128, 130, 132, 134, 136, 138] (by decide +kernel) (by decide +kernel)
theorem cn_p4 : ∀ k, k < 13 → parseFieldDescriptor (cn_T4 k).2.2.1 = some (cn_y4 k) := by decide +kernel
theorem cn_n4 : ∀ a, a < 13 → ∀ b, b < 13 → a ≠ b → (cn_T4 a).2.1 ≠ (cn_T4 b).2.1 := by decide +kernel
theorem cn_o4 : ∀ k, k < 13 → (cn_T4 k).1 = cn_C4 := by decide +kernel
theorem cn_i4 : Cond.instantiable cn_C4 13 ∈ ck_tb ∧ Cond.initialized cn_C4 ∈ ck_tb := ⟨ck_tabi 95 (by decide +kernel) rfl, ck_tabi 5 (by decide +kernel) rfl⟩
def cn_C5 : String := "RatchetDesk$Seal"
def cn_T5 : u_T := fun k => match k with
  | 0 => ("RatchetDesk$Seal", "coverKey", "[I", true)
  | 1 => ("RatchetDesk$Seal", "markKey", "[I", true)
  | 2 => ("RatchetDesk$Seal", "cover", "[I", true)
  | _ => ("RatchetDesk$Seal", "mark", "[I", true)
def cn_y5 : Nat → FieldType := fun k => match k with
  | 0 => (.array .int)
  | 1 => (.array .int)
  | 2 => (.array .int)
  | _ => (.array .int)
theorem cn_w5 : ∀ w ∈ u_ws cn_C5 cn_T5 4, w ∈ ck_tb := ck_tabl [152, 154, 156, 158] (by decide +kernel) (by decide +kernel)
theorem cn_p5 : ∀ k, k < 4 → parseFieldDescriptor (cn_T5 k).2.2.1 = some (cn_y5 k) := by decide +kernel
theorem cn_n5 : ∀ a, a < 4 → ∀ b, b < 4 → a ≠ b → (cn_T5 a).2.1 ≠ (cn_T5 b).2.1 := by decide +kernel
theorem cn_o5 : ∀ k, k < 4 → (cn_T5 k).1 = cn_C5 := by decide +kernel
theorem cn_i5 : Cond.instantiable cn_C5 4 ∈ ck_tb ∧ Cond.initialized cn_C5 ∈ ck_tb := ⟨ck_tabi 143 (by decide +kernel) rfl, ck_tabi 6 (by decide +kernel) rfl⟩
def cn_C6 : String := "RatchetDesk$End"
def cn_T6 : u_T := fun k => match k with
  | 0 => ("RatchetDesk$End", "owner", "I", false)
  | 1 => ("RatchetDesk$End", "partner", "I", false)
  | 2 => ("RatchetDesk$End", "tie", "[I", true)
  | 3 => ("RatchetDesk$End", "root", "[I", true)
  | 4 => ("RatchetDesk$End", "own", "LRatchetDesk$Secret;", true)
  | 5 => ("RatchetDesk$End", "other", "[I", true)
  | 6 => ("RatchetDesk$End", "sending", "LRatchetDesk$Chain;", true)
  | 7 => ("RatchetDesk$End", "receiving", "LRatchetDesk$Chain;", true)
  | 8 => ("RatchetDesk$End", "before", "I", false)
  | 9 => ("RatchetDesk$End", "kept", "LRatchetDesk$KeptKeys;", true)
  | 10 => ("RatchetDesk$End", "introduction", "[I", true)
  | 11 => ("RatchetDesk$End", "introduces", "Z", false)
  | 12 => ("RatchetDesk$End", "turning", "Z", false)
  | _ => ("RatchetDesk$End", "lastText", "J", false)
def cn_y6 : Nat → FieldType := fun k => match k with
  | 0 => .int
  | 1 => .int
  | 2 => (.array .int)
  | 3 => (.array .int)
  | 4 => (.object "RatchetDesk$Secret")
  | 5 => (.array .int)
  | 6 => (.object "RatchetDesk$Chain")
  | 7 => (.object "RatchetDesk$Chain")
  | 8 => .int
  | 9 => (.object "RatchetDesk$KeptKeys")
  | 10 => (.array .int)
  | 11 => .boolean
  | 12 => .boolean
  | _ => .long
theorem cn_w6 : ∀ w ∈ u_ws cn_C6 cn_T6 14, w ∈ ck_tb := ck_tabl [267, 269, 271, 273, 275, 277, 279, 281, 283, 285, 287, 289, 291, 293] (by decide +kernel) (by decide +kernel)
theorem cn_p6 : ∀ k, k < 14 → parseFieldDescriptor (cn_T6 k).2.2.1 = some (cn_y6 k) := by decide +kernel
theorem cn_n6 : ∀ a, a < 14 → ∀ b, b < 14 → a ≠ b → (cn_T6 a).2.1 ≠ (cn_T6 b).2.1 := by decide +kernel
theorem cn_o6 : ∀ k, k < 14 → (cn_T6 k).1 = cn_C6 := by decide +kernel
theorem cn_i6 : Cond.instantiable cn_C6 14 ∈ ck_tb ∧ Cond.initialized cn_C6 ∈ ck_tb := ⟨ck_tabi 191 (by decide +kernel) rfl, ck_tabi 7 (by decide +kernel) rfl⟩
def cn_C7 : String := "RatchetDesk$Chain"
def cn_T7 : u_T := fun k => match k with
  | 0 => ("RatchetDesk$Chain", "key", "[I", true)
  | 1 => ("RatchetDesk$Chain", "passed", "I", false)
  | _ => ("RatchetDesk$Chain", "stands", "Z", false)
def cn_y7 : Nat → FieldType := fun k => match k with
  | 0 => (.array .int)
  | 1 => .int
  | _ => .boolean
theorem cn_w7 : ∀ w ∈ u_ws cn_C7 cn_T7 3, w ∈ ck_tb := ck_tabl [212, 214, 216] (by decide +kernel) (by decide +kernel)
theorem cn_p7 : ∀ k, k < 3 → parseFieldDescriptor (cn_T7 k).2.2.1 = some (cn_y7 k) := by decide +kernel
theorem cn_n7 : ∀ a, a < 3 → ∀ b, b < 3 → a ≠ b → (cn_T7 a).2.1 ≠ (cn_T7 b).2.1 := by decide +kernel
theorem cn_o7 : ∀ k, k < 3 → (cn_T7 k).1 = cn_C7 := by decide +kernel
theorem cn_i7 : Cond.instantiable cn_C7 3 ∈ ck_tb ∧ Cond.initialized cn_C7 ∈ ck_tb := ⟨ck_tabi 199 (by decide +kernel) rfl, ck_tabi 8 (by decide +kernel) rfl⟩
def cn_C8 : String := "RatchetDesk$KeptKeys"
def cn_T8 : u_T := fun k => match k with
  | 0 => ("RatchetDesk$KeptKeys", "ratchetKeys", "[[I", true)
  | 1 => ("RatchetDesk$KeptKeys", "letterKeys", "[[I", true)
  | 2 => ("RatchetDesk$KeptKeys", "numbers", "[I", true)
  | _ => ("RatchetDesk$KeptKeys", "size", "I", false)
def cn_y8 : Nat → FieldType := fun k => match k with
  | 0 => (.array (.array .int))
  | 1 => (.array (.array .int))
  | 2 => (.array .int)
  | _ => .int
theorem cn_w8 : ∀ w ∈ u_ws cn_C8 cn_T8 4, w ∈ ck_tb := ck_tabl [232, 234, 236, 238] (by decide +kernel) (by decide +kernel)
theorem cn_p8 : ∀ k, k < 4 → parseFieldDescriptor (cn_T8 k).2.2.1 = some (cn_y8 k) := by decide +kernel
theorem cn_n8 : ∀ a, a < 4 → ∀ b, b < 4 → a ≠ b → (cn_T8 a).2.1 ≠ (cn_T8 b).2.1 := by decide +kernel
theorem cn_o8 : ∀ k, k < 4 → (cn_T8 k).1 = cn_C8 := by decide +kernel
theorem cn_i8 : Cond.instantiable cn_C8 4 ∈ ck_tb ∧ Cond.initialized cn_C8 ∈ ck_tb := ⟨ck_tabi 220 (by decide +kernel) rfl, ck_tabi 9 (by decide +kernel) rfl⟩
def cn_C9 : String := "RatchetDesk$Person"
def cn_T9 : u_T := fun k => match k with
  | 0 => ("RatchetDesk$Person", "identity", "LRatchetDesk$Secret;", true)
  | 1 => ("RatchetDesk$Person", "prekey", "LRatchetDesk$Secret;", true)
  | 2 => ("RatchetDesk$Person", "oneTimes", "[LRatchetDesk$Secret;", true)
  | 3 => ("RatchetDesk$Person", "stages", "[I", true)
  | _ => ("RatchetDesk$Person", "made", "I", false)
def cn_y9 : Nat → FieldType := fun k => match k with
  | 0 => (.object "RatchetDesk$Secret")
  | 1 => (.object "RatchetDesk$Secret")
  | 2 => (.array (.object "RatchetDesk$Secret"))
  | 3 => (.array .int)
  | _ => .int
theorem cn_w9 : ∀ w ∈ u_ws cn_C9 cn_T9 5, w ∈ ck_tb := ck_tabl [313, 315, 317, 319, 321] (by decide +kernel) (by decide +kernel)
theorem cn_p9 : ∀ k, k < 5 → parseFieldDescriptor (cn_T9 k).2.2.1 = some (cn_y9 k) := by decide +kernel
theorem cn_n9 : ∀ a, a < 5 → ∀ b, b < 5 → a ≠ b → (cn_T9 a).2.1 ≠ (cn_T9 b).2.1 := by decide +kernel
theorem cn_o9 : ∀ k, k < 5 → (cn_T9 k).1 = cn_C9 := by decide +kernel
theorem cn_i9 : Cond.instantiable cn_C9 5 ∈ ck_tb ∧ Cond.initialized cn_C9 ∈ ck_tb := ⟨ck_tabi 296 (by decide +kernel) rfl, ck_tabi 10 (by decide +kernel) rfl⟩
def cn_C10 : String := "RatchetDesk$Letter"
def cn_T10 : u_T := fun k => match k with
  | 0 => ("RatchetDesk$Letter", "bytes", "[I", true)
  | _ => ("RatchetDesk$Letter", "size", "I", false)
def cn_y10 : Nat → FieldType := fun k => match k with
  | 0 => (.array .int)
  | _ => .int
theorem cn_w10 : ∀ w ∈ u_ws cn_C10 cn_T10 2, w ∈ ck_tb := ck_tabl [336, 338] (by decide +kernel) (by decide +kernel)
theorem cn_p10 : ∀ k, k < 2 → parseFieldDescriptor (cn_T10 k).2.2.1 = some (cn_y10 k) := by decide +kernel
theorem cn_n10 : ∀ a, a < 2 → ∀ b, b < 2 → a ≠ b → (cn_T10 a).2.1 ≠ (cn_T10 b).2.1 := by decide +kernel
theorem cn_o10 : ∀ k, k < 2 → (cn_T10 k).1 = cn_C10 := by decide +kernel
theorem cn_i10 : Cond.instantiable cn_C10 2 ∈ ck_tb ∧ Cond.initialized cn_C10 ∈ ck_tb := ⟨ck_tabi 324 (by decide +kernel) rfl, ck_tabi 11 (by decide +kernel) rfl⟩
def cn_C11 : String := "RatchetDeskModel"
def cn_T11 : u_T := fun k => match k with
  | 0 => ("RatchetDeskModel", "fault", "I", false)
  | 1 => ("RatchetDeskModel", "seed", "I", true)
  | 2 => ("RatchetDeskModel", "mem", "[I", true)
  | 3 => ("RatchetDeskModel", "row", "[I", true)
  | 4 => ("RatchetDeskModel", "message", "[I", true)
  | 5 => ("RatchetDeskModel", "messageLength", "I", false)
  | 6 => ("RatchetDeskModel", "constants", "[I", true)
  | 7 => ("RatchetDeskModel", "hash", "[I", true)
  | 8 => ("RatchetDeskModel", "work", "[I", true)
  | 9 => ("RatchetDeskModel", "words", "[I", true)
  | 10 => ("RatchetDeskModel", "field", "[J", true)
  | 11 => ("RatchetDeskModel", "product", "[J", true)
  | 12 => ("RatchetDeskModel", "secrets", "I", false)
  | 13 => ("RatchetDeskModel", "isKnown", "[Z", true)
  | 14 => ("RatchetDeskModel", "stocked", "[I", true)
  | 15 => ("RatchetDeskModel", "oneTime", "[I", true)
  | 16 => ("RatchetDeskModel", "isOffered", "[Z", true)
  | 17 => ("RatchetDeskModel", "isHeld", "[Z", true)
  | 18 => ("RatchetDeskModel", "ends", "I", false)
  | 19 => ("RatchetDeskModel", "mine", "[I", true)
  | 20 => ("RatchetDeskModel", "others", "[I", true)
  | 21 => ("RatchetDeskModel", "began", "[Z", true)
  | 22 => ("RatchetDeskModel", "hasOpened", "[Z", true)
  | 23 => ("RatchetDeskModel", "isSending", "[Z", true)
  | 24 => ("RatchetDeskModel", "isReceiving", "[Z", true)
  | 25 => ("RatchetDeskModel", "sent", "[I", true)
  | 26 => ("RatchetDeskModel", "come", "[I", true)
  | 27 => ("RatchetDeskModel", "before", "[I", true)
  | 28 => ("RatchetDeskModel", "kept", "[I", true)
  | 29 => ("RatchetDeskModel", "keptNumber", "[I", true)
  | 30 => ("RatchetDeskModel", "ownSecret", "[I", true)
  | 31 => ("RatchetDeskModel", "firstSecret", "[I", true)
  | 32 => ("RatchetDeskModel", "firstOne", "[I", true)
  | 33 => ("RatchetDeskModel", "texts", "[J", true)
  | 34 => ("RatchetDeskModel", "letters", "I", false)
  | 35 => ("RatchetDeskModel", "lengths", "[I", true)
  | _ => ("RatchetDeskModel", "wires", "[I", true)
def cn_y11 : Nat → FieldType := fun k => match k with
  | 0 => .int
  | 1 => .int
  | 2 => (.array .int)
  | 3 => (.array .int)
  | 4 => (.array .int)
  | 5 => .int
  | 6 => (.array .int)
  | 7 => (.array .int)
  | 8 => (.array .int)
  | 9 => (.array .int)
  | 10 => (.array .long)
  | 11 => (.array .long)
  | 12 => .int
  | 13 => (.array .boolean)
  | 14 => (.array .int)
  | 15 => (.array .int)
  | 16 => (.array .boolean)
  | 17 => (.array .boolean)
  | 18 => .int
  | 19 => (.array .int)
  | 20 => (.array .int)
  | 21 => (.array .boolean)
  | 22 => (.array .boolean)
  | 23 => (.array .boolean)
  | 24 => (.array .boolean)
  | 25 => (.array .int)
  | 26 => (.array .int)
  | 27 => (.array .int)
  | 28 => (.array .int)
  | 29 => (.array .int)
  | 30 => (.array .int)
  | 31 => (.array .int)
  | 32 => (.array .int)
  | 33 => (.array .long)
  | 34 => .int
  | 35 => (.array .int)
  | _ => (.array .int)
theorem cn_w11 : ∀ w ∈ u_ws cn_C11 cn_T11 37, w ∈ ck_tb := ck_tabl [1076, 1078, 1080, 1082, 1084, 1086, 1088, 1090, 1092, 1094, 1096, 1098, 1100, 1102, 1104, 1106, 1108, 1110, 1112, 1114, 1116, 1118, 1120, 1122, 1124, 1126, 1128, 1130, 1132, 1134, 1136, 1138, 1140, 1142, 1144, 1146, 1148] (by decide +kernel) (by decide +kernel)
theorem cn_p11 : ∀ k, k < 37 → parseFieldDescriptor (cn_T11 k).2.2.1 = some (cn_y11 k) := by decide +kernel
theorem cn_n11 : ∀ a, a < 37 → ∀ b, b < 37 → a ≠ b → (cn_T11 a).2.1 ≠ (cn_T11 b).2.1 := by decide +kernel
theorem cn_o11 : ∀ k, k < 37 → (cn_T11 k).1 = cn_C11 := by decide +kernel
theorem cn_i11 : Cond.instantiable cn_C11 37 ∈ ck_tb ∧ Cond.initialized cn_C11 ∈ ck_tb := ⟨ck_tabi 958 (by decide +kernel) rfl, ck_tabi 13 (by decide +kernel) rfl⟩
def ck_cl : List vw_C := [(cn_C0, cn_T0, 11), (cn_C1, cn_T1, 3), (cn_C2, cn_T2, 7), (cn_C3, cn_T3, 8), (cn_C4, cn_T4, 13), (cn_C5, cn_T5, 4), (cn_C6, cn_T6, 14), (cn_C7, cn_T7, 3), (cn_C8, cn_T8, 4), (cn_C9, cn_T9, 5), (cn_C10, cn_T10, 2), (cn_C11, cn_T11, 37)]
def ck_yy (ci : Nat) : Nat → FieldType := match ci with
  | 0 => cn_y0
  | 1 => cn_y1
  | 2 => cn_y2
  | 3 => cn_y3
  | 4 => cn_y4
  | 5 => cn_y5
  | 6 => cn_y6
  | 7 => cn_y7
  | 8 => cn_y8
  | 9 => cn_y9
  | 10 => cn_y10
  | _ => cn_y11
/-- all that is known of a class of the list -/
theorem ck_cls {ci N : Nat} {C : String} {T : u_T} (h : ck_cl[ci]? = some (C, T, N)) : (∀ w ∈ u_ws C T N, w ∈ ck_tb) ∧ (∀ k, k < N → parseFieldDescriptor (T k).2.2.1 = some (ck_yy ci k)) ∧ (∀ a, a < N → ∀ b, b < N → a ≠ b → (T a).2.1 ≠ (T b).2.1) ∧ (∀ k, k < N → (T k).1 = C) ∧ Cond.instantiable C N ∈ ck_tb ∧ Cond.initialized C ∈ ck_tb := by
  match ci, h with
  | 0, h => cases h; exact ⟨cn_w0, cn_p0, cn_n0, cn_o0, cn_i0⟩
  | 1, h => cases h; exact ⟨cn_w1, cn_p1, cn_n1, cn_o1, cn_i1⟩
  | 2, h => cases h; exact ⟨cn_w2, cn_p2, cn_n2, cn_o2, cn_i2⟩
  | 3, h => cases h; exact ⟨cn_w3, cn_p3, cn_n3, cn_o3, cn_i3⟩
  | 4, h => cases h; exact ⟨cn_w4, cn_p4, cn_n4, cn_o4, cn_i4⟩
  | 5, h => cases h; exact ⟨cn_w5, cn_p5, cn_n5, cn_o5, cn_i5⟩
  | 6, h => cases h; exact ⟨cn_w6, cn_p6, cn_n6, cn_o6, cn_i6⟩
  | 7, h => cases h; exact ⟨cn_w7, cn_p7, cn_n7, cn_o7, cn_i7⟩
  | 8, h => cases h; exact ⟨cn_w8, cn_p8, cn_n8, cn_o8, cn_i8⟩
  | 9, h => cases h; exact ⟨cn_w9, cn_p9, cn_n9, cn_o9, cn_i9⟩
  | 10, h => cases h; exact ⟨cn_w10, cn_p10, cn_n10, cn_o10, cn_i10⟩
  | 11, h => cases h; exact ⟨cn_w11, cn_p11, cn_n11, cn_o11, cn_i11⟩
  | n + 12, h => simp [ck_cl] at h
end
section
/-! ===== what an abstract state says of a heap and a frame ===== -/
/-- types: an array (its class's place, its length, kinds up to places), or an object (its class's place, kinds of its fields) -/
abbrev ck_D : Type := (Nat × Nat × List (Nat × ck_V)) ⊕ (Nat × List ck_V)
abbrev ck_C : Type := (Nat × Nat) × List ck_V
def ck_kat : List (Nat × ck_V) → Nat → ck_V
  | [], _ => .inr (.inr (8, 0))
  | (n, k) :: t, j => if j < n then k else ck_kat t j
/-- a value is of an abstract one: ρ the ghosts, G the types of cells, N the named cells, S the static arrays -/
def ck_R (S : Nat → Nat) (ρ : Nat → Int) (G : Nat → Nat) (N : List Nat) : ck_V → Value → Prop
  | .inl q, v => ∃ x : Int32, v = .int x ∧ ck_in ρ q x
  | .inr (.inl q), v => ∃ x : Int64, v = .long x ∧ q.1 ≤ x.toInt ∧ x.toInt ≤ q.2
  | .inr (.inr (0, _)), v => v = .null
  | .inr (.inr (1, i)), v => ∃ a, N[i]? = some a ∧ v = .ref a
  | .inr (.inr (2, τ)), v => ∃ a, v = .ref a ∧ G a = τ ∧ τ ≠ 0
  | .inr (.inr (3, j)), v => v = .ref (S j)
  | .inr (.inr (4, _)), v => ∃ a, v = .ref a
  | .inr (.inr (_, _)), _ => True
def ck_ob (D : va_G) (ci a : Nat) (H : Heap) (vs : List Value) : Prop := ∃ (C : String) (T : u_T), ck_cl[ci]? = some (C, T, vs.length) ∧ t_OB a (D.1 ci) vs.length (D.2 ci) H (vp_V vs)
def ck_all {α β : Type} (P : α → β → Prop) (l : List α) (m : List β) : Prop := l.length = m.length ∧ ∀ (i : Nat) (a : α) (b : β), l[i]? = some a → m[i]? = some b → P a b
/-- a cell of a type -/
def ck_ty (D : va_G) (AC : Nat → ClassId) (S : Nat → Nat) (tab : List ck_D) (G : Nat → Nat) (τ a : Nat) (H : Heap) : Prop := match tab[τ]? with
  | some (.inl (ac, n, sg)) => ∃ f : Nat → Value, H[a]? = some (arrV (AC ac) n f) ∧ ∀ j, j < n → ck_R S (fun _ => 0) G [] (ck_kat sg j) (f j)
  | some (.inr (ci, ks)) => ∃ vs : List Value, ck_ob D ci a H vs ∧ ck_all (ck_R S (fun _ => 0) G []) ks vs
  | none => False
def ck_ok (D : va_G) (AC : Nat → ClassId) (S : Nat → Nat) (tab : List ck_D) (L : Heap) (G : Nat → Nat) (H : Heap) : Prop :=
  L.size ≤ H.size ∧ (∀ q, q < L.size → H[q]? = L[q]?) ∧ ∀ a, G a ≠ 0 → L.size ≤ a ∧ ck_ty D AC S tab G (G a) a H
/-- a named cell: (0, class) an object of its own; (1, array class) an array of its own; (2, _) none any more; (3, type) an object that is typed, too; (5, j) a static array -/
def ck_tc (D : va_G) (AC : Nat → ClassId) (S : Nat → Nat) (tab : List ck_D) (L : Heap) (ρ : Nat → Int) (G : Nat → Nat) (N : List Nat) (H : Heap) (c : ck_C) (a : Nat) : Prop := match c.1 with
  | (0, ci) => L.size ≤ a ∧ G a = 0 ∧ ∃ vs : List Value, ck_ob D ci a H vs ∧ ck_all (ck_R S ρ G N) c.2 vs
  | (1, ac) => L.size ≤ a ∧ G a = 0 ∧ ∃ f : Nat → Value, H[a]? = some (arrV (AC ac) c.2.length f) ∧ ∀ (j : Nat) (v : ck_V), c.2[j]? = some v → ck_R S ρ G N v (f j)
  | (3, τ) => G a = τ ∧ τ ≠ 0 ∧ ∃ (ci : Nat) (ks : List ck_V) (vs : List Value), tab[τ]? = some (.inr (ci, ks)) ∧ ck_ob D ci a H vs ∧ ck_all (ck_R S ρ G N) c.2 vs
  | (5, j) => a = S j ∧ ∃ cell : Cell, L[a]? = some cell ∧ a < L.size ∧ ∀ (k : Nat) (v : ck_V), c.2[k]? = some v → ∃ w : Value, cell.slots[k]? = some w ∧ ck_R S ρ G N v w
  | _ => True
def ck_own (c : ck_C) : Bool := c.1.1 == 0 || c.1.1 == 1
def ck_nd (T : List ck_C) (N : List Nat) : Prop := ∀ (i j : Nat) (c d : ck_C) (a : Nat), T[i]? = some c → T[j]? = some d → ck_own c = true → ck_own d = true → N[i]? = some a → N[j]? = some a → i = j
/-- the heap's side of an abstract state -/
def ck_H (D : va_G) (AC : Nat → ClassId) (S : Nat → Nat) (tab : List ck_D) (L : Heap) (ρ : Nat → Int) (G : Nat → Nat) (N : List Nat) (T : List ck_C) (H : Heap) : Prop :=
  ck_ok D AC S tab L G H ∧ N.length = T.length ∧ (∀ (i : Nat) (c : ck_C) (a : Nat), T[i]? = some c → N[i]? = some a → ck_tc D AC S tab L ρ G N H c a) ∧ ck_nd T N
/-! the relation where the types of cells grow, or ghosts are set that it doesn't use -/
theorem ck_all.mono {α β : Type} {P Q : α → β → Prop} {l : List α} {m : List β} (h : ck_all P l m) (hh : ∀ a b, a ∈ l → P a b → Q a b) : ck_all Q l m := ⟨h.1, fun i a b h1 h2 => hh a b (List.mem_of_getElem? h1) (h.2 i a b h1 h2)⟩
theorem ck_all.set {α β : Type} {P : α → β → Prop} {l : List α} {m : List β} (h : ck_all P l m) (k : Nat) {a : α} {b : β} (hab : P a b) : ck_all P (l.set k a) (m.set k b) := by
  refine ⟨by simp [h.1], fun i x y h1 h2 => ?_⟩
  by_cases e : k = i
  · subst e
    rw [List.getElem?_set] at h1 h2
    simp only [if_true] at h1 h2
    split at h1 <;> split at h2 <;> first | (cases h2; done) | (cases h1; done) | (cases h1; cases h2; exact hab)
  · rw [List.getElem?_set_ne e] at h1 h2
    exact h.2 i x y h1 h2
theorem ck_all.get {α β : Type} {P : α → β → Prop} {l : List α} {m : List β} (h : ck_all P l m) {k : Nat} {a : α} (hk : l[k]? = some a) : ∃ b, m[k]? = some b ∧ P a b := by
  have h1 : k < m.length := by rw [← h.1]; exact (List.getElem?_eq_some_iff.mp hk).1
  exact ⟨m[k], List.getElem?_eq_getElem h1, h.2 k _ _ hk (List.getElem?_eq_getElem h1)⟩
theorem ck_all.nil {α β : Type} {P : α → β → Prop} : ck_all P [] [] := ⟨rfl, fun i a b h => by simp at h⟩
theorem ck_all.cons {α β : Type} {P : α → β → Prop} {a : α} {b : β} {l : List α} {m : List β} (h1 : P a b) (h2 : ck_all P l m) : ck_all P (a :: l) (b :: m) := by
  refine ⟨by simp [h2.1], fun i x y hx hy => ?_⟩
  cases i with
  | zero => simp at hx hy; subst hx; subst hy; exact h1
  | succ n => simp at hx hy; exact h2.2 n x y hx hy
theorem ck_all.uncons {α β : Type} {P : α → β → Prop} {a : α} {l : List α} {m : List β} (h : ck_all P (a :: l) m) : ∃ b m', m = b :: m' ∧ P a b ∧ ck_all P l m' := by
  cases m with
  | nil => have := h.1; simp at this
  | cons b m' => exact ⟨b, m', rfl, h.2 0 a b rfl rfl, by have := h.1; simpa using this, fun i x y hx hy => h.2 (i + 1) x y (by simpa using hx) (by simpa using hy)⟩
def ck_up (G : Nat → Nat) (a τ : Nat) : Nat → Nat := fun q => if q = a then τ else G q
theorem ck_R.grow {S : Nat → Nat} {ρ : Nat → Int} {G G' : Nat → Nat} {N : List Nat} {k : ck_V} {v : Value} (hG : ∀ q, G q ≠ 0 → G' q = G q) (h : ck_R S ρ G N k v) : ck_R S ρ G' N k v := by
  match k, h with
  | .inl q, h => exact h
  | .inr (.inl q), h => exact h
  | .inr (.inr (0, _)), h => exact h
  | .inr (.inr (1, i)), h => exact h
  | .inr (.inr (2, τ)), h =>
    obtain ⟨a, e, h1, h2⟩ := h
    exact ⟨a, e, by rw [hG a (by rw [h1]; exact h2)]; exact h1, h2⟩
  | .inr (.inr (3, j)), h => exact h
  | .inr (.inr (4, _)), h => exact h
  | .inr (.inr (n + 5, _)), h => exact h
def ck_plain : ck_V → Bool
  | .inl (_, _, none) => true
  | .inl _ => false
  | .inr (.inr (1, _)) => false
  | _ => true
/-- a kind, without ghost and name, says the same everywhere -/
theorem ck_R.plain {S : Nat → Nat} {ρ ρ' : Nat → Int} {G : Nat → Nat} {N N' : List Nat} {k : ck_V} {v : Value} (hk : ck_plain k = true) (h : ck_R S ρ G N k v) : ck_R S ρ' G N' k v := by
  match k, hk, h with
  | .inl (lo, hi, none), _, h =>
    obtain ⟨x, e, h1, h2, -⟩ := h
    exact ⟨x, e, h1, h2, fun g c q => by cases q⟩
  | .inl (lo, hi, some t), hk, _ => cases hk
  | .inr (.inl q), _, h => exact h
  | .inr (.inr (0, _)), _, h => exact h
  | .inr (.inr (1, i)), hk, _ => cases hk
  | .inr (.inr (2, τ)), _, h => exact h
  | .inr (.inr (3, j)), _, h => exact h
  | .inr (.inr (4, _)), _, h => exact h
  | .inr (.inr (n + 5, _)), _, h => exact h
/-- without its ghost -/
def ck_strip : ck_V → ck_V
  | .inl (a, b, _) => .inl (a, b, none)
  | x => x
theorem ck_R.strip {S : Nat → Nat} {ρ : Nat → Int} {G : Nat → Nat} {N : List Nat} {k : ck_V} {v : Value} (h : ck_R S ρ G N k v) : ck_R S ρ G N (ck_strip k) v := by
  match k, h with
  | .inl (lo, hi, t), h =>
    obtain ⟨x, e, h1, h2, -⟩ := h
    exact ⟨x, e, h1, h2, fun g c q => by cases q⟩
  | .inr _, h => exact h
/-! one value below another -/
def ck_le : ck_V → ck_V → Bool
  | .inl (a, b, t), .inl (c, d, u) => decide (c ≤ a) && decide (b ≤ d) && (u == none || u == t)
  | .inr (.inl (a, b)), .inr (.inl (c, d)) => decide (c ≤ a) && decide (b ≤ d)
  | .inr (.inr (m, n)), .inr (.inr (m', n')) => (m == m' && n == n') || m' == 8
  | _, .inr (.inr (m', _)) => m' == 8
  | _, _ => false
theorem ck_R.top {S : Nat → Nat} {ρ : Nat → Int} {G : Nat → Nat} {N : List Nat} {n : Nat} {v : Value} : ck_R S ρ G N (.inr (.inr (8, n))) v := trivial
theorem ck_R.le {S : Nat → Nat} {ρ : Nat → Int} {G : Nat → Nat} {N : List Nat} {k k' : ck_V} {v : Value} (hk : ck_le k k' = true) (h : ck_R S ρ G N k v) : ck_R S ρ G N k' v := by
  match k, k', hk, h with
  | .inl (a, b, t), .inl (c, d, u), hk, h =>
    obtain ⟨x, e, h1, h2, h3⟩ := h
    simp only [ck_le, Bool.and_eq_true, Bool.or_eq_true, decide_eq_true_eq, beq_iff_eq] at hk
    dsimp only at h1 h2 h3
    refine ⟨x, e, by dsimp only; omega, by dsimp only; omega, fun g q hu => ?_⟩
    rcases hk.2 with z | z
    · rw [z] at hu; cases hu
    · exact h3 g q (by rw [← z]; exact hu)
  | .inr (.inl (a, b)), .inr (.inl (c, d)), hk, h =>
    obtain ⟨x, e, h1, h2⟩ := h
    simp only [ck_le, Bool.and_eq_true, decide_eq_true_eq] at hk
    dsimp only at h1 h2
    exact ⟨x, e, by dsimp only; omega, by dsimp only; omega⟩
  | .inr (.inr (m, n)), .inr (.inr (m', n')), hk, h =>
    simp only [ck_le, Bool.and_eq_true, Bool.or_eq_true, beq_iff_eq] at hk
    rcases hk with ⟨z1, z2⟩ | z
    · subst z1; subst z2; exact h
    · subst z; exact trivial
  | .inl q, .inr (.inr (m', n')), hk, h =>
    simp only [ck_le, beq_iff_eq] at hk
    subst hk; exact trivial
  | .inr (.inl q), .inr (.inr (m', n')), hk, h =>
    simp only [ck_le, beq_iff_eq] at hk
    subst hk; exact trivial
  | .inl q, .inr (.inl r), hk, _ => simp [ck_le] at hk
  | .inr (.inl r), .inl q, hk, _ => simp [ck_le] at hk
  | .inr (.inr r), .inl q, hk, _ => simp [ck_le] at hk
  | .inr (.inr r), .inr (.inl q), hk, _ => simp [ck_le] at hk
end
section
/-! ===== stores, new cells, names given and taken: the heap's side ===== -/
section CKH
variable {D : va_G} {AC : Nat → ClassId} {S : Nat → Nat} {tab : List ck_D} {L : Heap} {ρ : Nat → Int} {G : Nat → Nat} {N : List Nat} {T : List ck_C} {H H' : Heap}
theorem ck_ob.kept {ci a : Nat} {vs : List Value} (h : ck_ob D ci a H vs) (e : H'[a]? = H[a]?) : ck_ob D ci a H' vs := by
  obtain ⟨C, T, h1, h2⟩ := h
  exact ⟨C, T, h1, h2.kept e⟩
theorem ck_ob.lt {ci a : Nat} {vs : List Value} (h : ck_ob D ci a H vs) : a < H.size := by
  obtain ⟨C, T, h1, cell, h2, -⟩ := h
  exact (Array.getElem?_eq_some_iff.mp h2).1
theorem ck_ty.kept {τ a : Nat} (h : ck_ty D AC S tab G τ a H) (e : H'[a]? = H[a]?) : ck_ty D AC S tab G τ a H' := by
  unfold ck_ty at h ⊢
  split at h
  · obtain ⟨f, h1, h2⟩ := h
    exact ⟨f, by rw [e]; exact h1, h2⟩
  · obtain ⟨vs, h1, h2⟩ := h
    exact ⟨vs, h1.kept e, h2⟩
  · exact h.elim
theorem ck_ty.lt {τ a : Nat} (h : ck_ty D AC S tab G τ a H) : a < H.size := by
  unfold ck_ty at h
  split at h
  · obtain ⟨f, h1, h2⟩ := h
    exact (Array.getElem?_eq_some_iff.mp h1).1
  · obtain ⟨vs, h1, h2⟩ := h
    exact h1.lt
  · exact h.elim
theorem ck_ty.grow {G' : Nat → Nat} {τ a : Nat} (hG : ∀ q, G q ≠ 0 → G' q = G q) (h : ck_ty D AC S tab G τ a H) : ck_ty D AC S tab G' τ a H := by
  unfold ck_ty at h ⊢
  split at h
  · obtain ⟨f, h1, h2⟩ := h
    exact ⟨f, h1, fun j hj => (h2 j hj).grow hG⟩
  · obtain ⟨vs, h1, h2⟩ := h
    exact ⟨vs, h1, h2.mono fun _ _ _ h => h.grow hG⟩
  · exact h.elim
/-- what a named cell's place says of its address -/
theorem ck_tc.own {c : ck_C} {a : Nat} (h : ck_tc D AC S tab L ρ G N H c a) (ho : ck_own c = true) : L.size ≤ a ∧ G a = 0 ∧ a < H.size := by
  unfold ck_tc at h
  obtain ⟨⟨k, n⟩, fs⟩ := c
  simp only [ck_own, Bool.or_eq_true, beq_iff_eq] at ho
  rcases ho with rfl | rfl
  · obtain ⟨h1, h2, vs, h3, -⟩ := h
    exact ⟨h1, h2, h3.lt⟩
  · obtain ⟨h1, h2, f, h3, -⟩ := h
    exact ⟨h1, h2, (Array.getElem?_eq_some_iff.mp h3).1⟩
theorem ck_tc.kept {c : ck_C} {a : Nat} (h : ck_tc D AC S tab L ρ G N H c a) (e : (c.1.1 = 0 ∨ c.1.1 = 1 ∨ c.1.1 = 3) → H'[a]? = H[a]?) : ck_tc D AC S tab L ρ G N H' c a := by
  unfold ck_tc at h ⊢
  obtain ⟨⟨k, n⟩, fs⟩ := c
  match k, h, e with
  | 0, h, e => obtain ⟨h1, h2, vs, h3, h4⟩ := h; exact ⟨h1, h2, vs, h3.kept (e (Or.inl rfl)), h4⟩
  | 1, h, e => obtain ⟨h1, h2, f, h3, h4⟩ := h; exact ⟨h1, h2, f, by rw [e (Or.inr (Or.inl rfl))]; exact h3, h4⟩
  | 2, h, e => exact trivial
  | 3, h, e => obtain ⟨h1, h2, ci, ks, vs, h3, h4, h5⟩ := h; exact ⟨h1, h2, ci, ks, vs, h3, h4.kept (e (Or.inr (Or.inr rfl))), h5⟩
  | 4, h, e => exact trivial
  | 5, h, e => exact h
  | k + 6, h, e => exact trivial
/-- the same cells of other abstract contents, other ghosts, types, names -/
theorem ck_tc.mapV {ρ' : Nat → Int} {G' : Nat → Nat} {N' : List Nat} {c : ck_C} {a : Nat} (φ : ck_V → ck_V) (h : ck_tc D AC S tab L ρ G N H c a) (hG : ck_own c = true → G' a = G a) (hG3 : c.1.1 = 3 → G' a = G a) (hv : ∀ k v, k ∈ c.2 → ck_R S ρ G N k v → ck_R S ρ' G' N' (φ k) v) : ck_tc D AC S tab L ρ' G' N' H (c.1, c.2.map φ) a := by
  have hall : ∀ {vs : List Value}, ck_all (ck_R S ρ G N) c.2 vs → ck_all (ck_R S ρ' G' N') (c.2.map φ) vs := by
    intro vs h
    refine ⟨by simp [h.1], fun i x y hx hy => ?_⟩
    rw [List.getElem?_map] at hx
    obtain ⟨z, hz, rfl⟩ := Option.map_eq_some_iff.mp hx
    exact hv z y (List.mem_of_getElem? hz) (h.2 i z y hz hy)
  unfold ck_tc at h ⊢
  obtain ⟨⟨k, n⟩, fs⟩ := c
  match k, h, hG, hG3 with
  | 0, h, hG, _ => obtain ⟨h1, h2, vs, h3, h4⟩ := h; exact ⟨h1, by rw [hG rfl]; exact h2, vs, h3, hall h4⟩
  | 1, h, hG, _ =>
    obtain ⟨h1, h2, f, h3, h4⟩ := h
    refine ⟨h1, by rw [hG rfl]; exact h2, f, by simpa using h3, fun j v hj => ?_⟩
    simp only [List.getElem?_map] at hj
    obtain ⟨z, hz, rfl⟩ := Option.map_eq_some_iff.mp hj
    exact hv z _ (List.mem_of_getElem? hz) (h4 j z hz)
  | 2, h, _, _ => exact trivial
  | 3, h, _, hG => obtain ⟨h1, h2, ci, ks, vs, h3, h4, h5⟩ := h; exact ⟨by rw [hG rfl]; exact h1, h2, ci, ks, vs, h3, h4, hall h5⟩
  | 4, h, _, _ => exact trivial
  | 5, h, _, _ =>
    obtain ⟨h1, cell, h2, h3, h4⟩ := h
    refine ⟨h1, cell, h2, h3, fun j v hj => ?_⟩
    simp only [List.getElem?_map] at hj
    obtain ⟨z, hz, rfl⟩ := Option.map_eq_some_iff.mp hj
    obtain ⟨w, g1, g2⟩ := h4 j z hz
    exact ⟨w, g1, hv z _ (List.mem_of_getElem? hz) g2⟩
  | k + 6, h, _, _ => exact trivial
/-- a store into a cell of one's own -/
theorem ck_H.putOwn (h : ck_H D AC S tab L ρ G N T H) {i a : Nat} {c c' : ck_C} (hi : T[i]? = some c) (ha : N[i]? = some a) (ho : ck_own c = true) (ho' : ck_own c' = true) (hs : H'.size = H.size) (hq : ∀ q, q ≠ a → H'[q]? = H[q]?) (hc : ck_tc D AC S tab L ρ G N H' c' a) : ck_H D AC S tab L ρ G N (T.set i c') H' := by
  obtain ⟨⟨k1, k2, k3⟩, hlen, hT, hnd⟩ := h
  obtain ⟨a1, a2, a3⟩ := (hT i c a hi ha).own ho
  have hil : i < T.length := (List.getElem?_eq_some_iff.mp hi).1
  refine ⟨⟨by omega, fun q hl => by rw [hq q (by omega)]; exact k2 q hl, fun b hb => ⟨(k3 b hb).1, (k3 b hb).2.kept (hq b fun e => hb (by rw [e]; exact a2))⟩⟩, by simp [hlen], fun j d b hj hb => ?_, fun j1 j2 d1 d2 b h1 h2 o1 o2 n1 n2 => ?_⟩
  · by_cases e : i = j
    · subst e
      rw [List.getElem?_set_self hil] at hj
      cases hj
      cases ha.symm.trans hb
      exact hc
    · rw [List.getElem?_set_ne e] at hj
      refine (hT j d b hj hb).kept fun hk => hq b fun eb => ?_
      subst eb
      by_cases od : ck_own d = true
      · exact e (hnd i j c d b hi hj ho od ha hb)
      · have h3 : d.1.1 = 3 := by
          obtain ⟨⟨k, n⟩, fs⟩ := d
          simp [ck_own] at od
          dsimp only at hk ⊢
          omega
        have := hT j d b hj hb
        unfold ck_tc at this
        obtain ⟨⟨k, n⟩, fs⟩ := d
        dsimp only at h3
        subst h3
        exact this.2.1 (this.1.symm.trans a2)
  · have f : ∀ (j : Nat) (d : ck_C), (T.set i c')[j]? = some d → ck_own d = true → ∃ d', T[j]? = some d' ∧ ck_own d' = true := by
      intro j d hd od
      by_cases e : i = j
      · subst e
        exact ⟨c, hi, ho⟩
      · rw [List.getElem?_set_ne e] at hd
        exact ⟨d, hd, od⟩
    obtain ⟨x1, y1, z1⟩ := f j1 d1 h1 o1
    obtain ⟨x2, y2, z2⟩ := f j2 d2 h2 o2
    exact hnd j1 j2 x1 x2 b y1 y2 z1 z2 n1 n2
/-- a store into a typed cell that no name of the kind (3, _) names -/
theorem ck_H.putTy (h : ck_H D AC S tab L ρ G N T H) {a : Nat} (hG : G a ≠ 0) (hs : H'.size = H.size) (hq : ∀ q, q ≠ a → H'[q]? = H[q]?) (hc : ck_ty D AC S tab G (G a) a H') (h3 : ∀ (i : Nat) (c : ck_C), T[i]? = some c → c.1.1 = 3 → N[i]? = some a → False) : ck_H D AC S tab L ρ G N T H' := by
  obtain ⟨⟨k1, k2, k3⟩, hlen, hT, hnd⟩ := h
  have a1 := (k3 a hG).1
  refine ⟨⟨by omega, fun q hl => by rw [hq q (by omega)]; exact k2 q hl, fun b hb => ⟨(k3 b hb).1, ?_⟩⟩, hlen, fun j d b hj hb => ?_, hnd⟩
  · by_cases e : b = a
    · subst e; exact hc
    · exact (k3 b hb).2.kept (hq b e)
  · refine (hT j d b hj hb).kept fun hk => hq b fun eb => ?_
    subst eb
    by_cases od : ck_own d = true
    · exact hG ((hT j d b hj hb).own od).2.1
    · refine h3 j d hj ?_ hb
      obtain ⟨⟨k, n⟩, fs⟩ := d
      simp [ck_own] at od
      dsimp only at hk ⊢
      omega
/-- a store into a typed cell by its name -/
theorem ck_H.putFoc (h : ck_H D AC S tab L ρ G N T H) {i a τ : Nat} {fs fs' : List ck_V} (hi : T[i]? = some ((3, τ), fs)) (ha : N[i]? = some a) (hs : H'.size = H.size) (hq : ∀ q, q ≠ a → H'[q]? = H[q]?) (hc : ck_ty D AC S tab G τ a H') (hn : ck_tc D AC S tab L ρ G N H' ((3, τ), fs') a) (h3 : ∀ (j : Nat) (c : ck_C), j ≠ i → T[j]? = some c → c.1.1 = 3 → c.1.2 ≠ τ) : ck_H D AC S tab L ρ G N (T.set i ((3, τ), fs')) H' := by
  obtain ⟨⟨k1, k2, k3⟩, hlen, hT, hnd⟩ := h
  obtain ⟨e1, e2, -⟩ := hT i _ a hi ha
  have hil : i < T.length := (List.getElem?_eq_some_iff.mp hi).1
  have hG : G a ≠ 0 := by rw [e1]; exact e2
  have a1 := (k3 a hG).1
  refine ⟨⟨by omega, fun q hl => by rw [hq q (by omega)]; exact k2 q hl, fun b hb => ⟨(k3 b hb).1, ?_⟩⟩, by simp [hlen], fun j d b hj hb => ?_, fun j1 j2 d1 d2 b h1 h2 o1 o2 n1 n2 => ?_⟩
  · by_cases e : b = a
    · subst e; rw [e1]; exact hc
    · exact (k3 b hb).2.kept (hq b e)
  · by_cases e : i = j
    · subst e
      rw [List.getElem?_set_self hil] at hj
      cases hj
      cases ha.symm.trans hb
      exact hn
    · rw [List.getElem?_set_ne e] at hj
      refine (hT j d b hj hb).kept fun hk => hq b fun eb => ?_
      subst eb
      by_cases od : ck_own d = true
      · exact hG ((hT j d b hj hb).own od).2.1
      · have z : d.1.1 = 3 := by
          obtain ⟨⟨k, n⟩, fs⟩ := d
          simp [ck_own] at od
          dsimp only at hk ⊢
          omega
        have hh := hT j d b hj hb
        have hne := h3 j d (Ne.symm e) hj z
        unfold ck_tc at hh
        obtain ⟨⟨k, n⟩, fs⟩ := d
        dsimp only at z hne
        subst z
        exact hne (hh.1.symm.trans e1)
  · have f : ∀ (j : Nat) (d : ck_C), (T.set i ((3, τ), fs'))[j]? = some d → ck_own d = true → T[j]? = some d := by
      intro j d hd od
      by_cases e : i = j
      · subst e
        rw [List.getElem?_set_self hil] at hd
        cases hd
        simp [ck_own] at od
      · rw [List.getElem?_set_ne e] at hd
        exact hd
    exact hnd j1 j2 d1 d2 b (f j1 d1 h1 o1) (f j2 d2 h2 o2) o1 o2 n1 n2
theorem ck_H.zero (h : ck_H D AC S tab L ρ G N T H) {q : Nat} (hq : H.size ≤ q) : G q = 0 := by
  by_cases e : G q = 0
  · exact e
  · have := (h.1.2.2 q e).2.lt
    omega
theorem ck_H.named (h : ck_H D AC S tab L ρ G N T H) {i a : Nat} {c : ck_C} (hi : T[i]? = some c) (ha : N[i]? = some a) (hk : ck_own c = true ∨ c.1.1 = 3) : a < H.size := by
  rcases hk with o | o
  · exact ((h.2.2.1 i c a hi ha).own o).2.2
  · have := h.2.2.1 i c a hi ha
    unfold ck_tc at this
    obtain ⟨⟨k, n⟩, fs⟩ := c
    dsimp only at o
    subst o
    obtain ⟨-, -, ci, ks, vs, -, h4, -⟩ := this
    exact h4.lt
/-- a new typed cell -/
theorem ck_H.newTy (h : ck_H D AC S tab L ρ G N T H) {τ : Nat} (hs : H'.size = H.size + 1) (hq : ∀ q, q < H.size → H'[q]? = H[q]?) (hc : ck_ty D AC S tab (ck_up G H.size τ) τ H.size H') : ck_H D AC S tab L ρ (ck_up G H.size τ) N T H' := by
  have hz : ∀ q, G q ≠ 0 → ck_up G H.size τ q = G q := fun q hne => by
    unfold ck_up
    rw [if_neg (fun e => hne (by rw [e]; exact h.zero (Nat.le_refl _)))]
  have hnm := @ck_H.named D AC S tab L ρ G N T H h
  obtain ⟨⟨k1, k2, k3⟩, hlen, hT, hnd⟩ := h
  refine ⟨⟨by omega, fun q hl => by rw [hq q (by omega)]; exact k2 q hl, fun b hb => ?_⟩, hlen, fun j d b hj hb => ?_, hnd⟩
  · by_cases e : b = H.size
    · subst e
      exact ⟨k1, by unfold ck_up at hc ⊢; rw [if_pos rfl]; exact hc⟩
    · have hb' : G b ≠ 0 := by unfold ck_up at hb; rwa [if_neg e] at hb
      have := k3 b hb'
      refine ⟨this.1, ?_⟩
      rw [hz b hb']
      exact (this.2.grow hz).kept (hq b this.2.lt)
  · have hh := hT j d b hj hb
    have key : ck_own d = true ∨ d.1.1 = 3 → b < H.size := fun hk => hnm hj hb hk
    have h1 : ck_tc D AC S tab L ρ (ck_up G H.size τ) N H d b := by
      have := hh.mapV (ρ' := ρ) (G' := ck_up G H.size τ) (N' := N) id (fun o => by unfold ck_up; rw [if_neg (by have := key (Or.inl o); omega)]) (fun o => by unfold ck_up; rw [if_neg (by have := key (Or.inr o); omega)]) (fun k v _ hv => hv.grow hz)
      simpa using this
    refine h1.kept fun hk => hq b (key ?_)
    rcases hk with z | z | z
    · exact Or.inl (by simp [ck_own, z])
    · exact Or.inl (by simp [ck_own, z])
    · exact Or.inr z
/-- names are added: what is said by the old ones stays -/
theorem ck_R.ext {k : ck_V} {v : Value} (h : ck_R S ρ G N k v) (M : List Nat) : ck_R S ρ G (N ++ M) k v := by
  match k, h with
  | .inl q, h => exact h
  | .inr (.inl q), h => exact h
  | .inr (.inr (0, _)), h => exact h
  | .inr (.inr (1, i)), h =>
    obtain ⟨a, h1, e⟩ := h
    exact ⟨a, by rw [List.getElem?_append_left (List.getElem?_eq_some_iff.mp h1).1]; exact h1, e⟩
  | .inr (.inr (2, τ)), h => exact h
  | .inr (.inr (3, j)), h => exact h
  | .inr (.inr (4, _)), h => exact h
  | .inr (.inr (n + 5, _)), h => exact h
theorem ck_tc.ext {c : ck_C} {a : Nat} (h : ck_tc D AC S tab L ρ G N H c a) (M : List Nat) : ck_tc D AC S tab L ρ G (N ++ M) H c a := by
  have := h.mapV (ρ' := ρ) (G' := G) (N' := N ++ M) id (fun _ => rfl) (fun _ => rfl) (fun k v _ hv => hv.ext M)
  simpa using this
/-- a new cell with a name -/
theorem ck_H.newNm (h : ck_H D AC S tab L ρ G N T H) {c : ck_C} (hs : H.size < H'.size) (hq : ∀ q, q < H.size → H'[q]? = H[q]?) (hc : ck_tc D AC S tab L ρ G (N ++ [H.size]) H' c H.size) : ck_H D AC S tab L ρ G (N ++ [H.size]) (T ++ [c]) H' := by
  have hnm := @ck_H.named D AC S tab L ρ G N T H h
  obtain ⟨⟨k1, k2, k3⟩, hlen, hT, hnd⟩ := h
  have split2 : ∀ (j : Nat) (d : ck_C) (b : Nat), (T ++ [c])[j]? = some d → (N ++ [H.size])[j]? = some b → (T[j]? = some d ∧ N[j]? = some b) ∨ (j = T.length ∧ d = c ∧ b = H.size) := by
    intro j d b hj hb
    by_cases e : j < T.length
    · rw [List.getElem?_append_left e] at hj
      rw [List.getElem?_append_left (by omega)] at hb
      exact Or.inl ⟨hj, hb⟩
    · rw [List.getElem?_append_right (by omega)] at hj
      rw [List.getElem?_append_right (by omega)] at hb
      have e0 : j - T.length = 0 := by
        have := (List.getElem?_eq_some_iff.mp hj).1
        simp at this
        omega
      rw [e0] at hj
      rw [show j - N.length = 0 by omega] at hb
      cases hj
      cases hb
      exact Or.inr ⟨by omega, rfl, rfl⟩
  refine ⟨⟨by omega, fun q hl => by rw [hq q (by omega)]; exact k2 q hl, fun b hb => ⟨(k3 b hb).1, (k3 b hb).2.kept (hq b (k3 b hb).2.lt)⟩⟩, by simp [hlen], fun j d b hj hb => ?_, fun j1 j2 d1 d2 b h1 h2 o1 o2 n1 n2 => ?_⟩
  · rcases split2 j d b hj hb with ⟨x1, x2⟩ | ⟨-, rfl, rfl⟩
    · refine ((hT j d b x1 x2).ext _).kept fun hk => hq b (hnm x1 x2 ?_)
      rcases hk with z | z | z
      · exact Or.inl (by simp [ck_own, z])
      · exact Or.inl (by simp [ck_own, z])
      · exact Or.inr z
    · exact hc
  · rcases split2 j1 d1 b h1 n1 with ⟨x1, x2⟩ | ⟨x1, rfl, x3⟩ <;> rcases split2 j2 d2 b h2 n2 with ⟨y1, y2⟩ | ⟨y1, rfl, y3⟩
    · exact hnd j1 j2 d1 d2 b x1 y1 o1 o2 x2 y2
    · have := hnm x1 x2 (Or.inl o1)
      omega
    · have := hnm y1 y2 (Or.inl o2)
      omega
    · omega
end CKH
end
section
/-! ===== the frame's side; instructions that leave the heap alone ===== -/
/-- since the method began (G0, N0, H0): old types stay, old cells without a type or a name stay -/
def ck_F (G0 : Nat → Nat) (N0 : List Nat) (H0 : Heap) (G : Nat → Nat) (N : List Nat) (T : List ck_C) (H : Heap) : Prop :=
  H0.size ≤ H.size ∧ (∀ q, q < H0.size → G q = G0 q) ∧ (∀ q, q < H0.size → G0 q = 0 → q ∉ N0 → H[q]? = H0[q]?) ∧ N0.length ≤ N.length ∧ (∀ i, i < N0.length → N[i]? = N0[i]?) ∧
  ∀ (i : Nat) (c : ck_C) (a : Nat), T[i]? = some c → N[i]? = some a → ck_own c = true → N0.length ≤ i → H0.size ≤ a
abbrev ck_A : Type := List (Nat × ck_V) × List ck_V × List ck_C
abbrev ck_RL (S : Nat → Nat) (ρ : Nat → Int) (G : Nat → Nat) (N : List Nat) : Nat × ck_V → Nat × Value → Prop := fun q w => q.1 = w.1 ∧ ck_R S ρ G N q.2 w.2
def ck_st (D : va_G) (AC : Nat → ClassId) (S : Nat → Nat) (tab : List ck_D) (L : Heap) (nL : Nat) (ρ0 : Nat → Int) (G0 : Nat → Nat) (N0 : List Nat) (H0 : Heap) (A : ck_A) (H : Heap) (ls : Array Slot) (st : List Value) (locs : List Loc) : Prop :=
  ∃ (ρ : Nat → Int) (G : Nat → Nat) (N : List Nat) (lv : List (Nat × Value)), lv_has ls nL lv ∧ ck_all (ck_RL S ρ G N) A.1 lv ∧ ck_all (ck_R S ρ G N) A.2.1 st ∧ ck_H D AC S tab L ρ G N A.2.2 H ∧ ck_F G0 N0 H0 G N A.2.2 H ∧ (∀ q ∈ locs, L.size ≤ q.base) ∧ ∀ g, 100 ≤ g → g < 200 → ρ g = ρ0 g
section CKW
variable {p : Program} {l : Launch} {e : Env} {R : Room} {s : State} {m : MethodId} {args : Array Value} {below : List Frame} {meth : Method} {c : Code} {cells slots : Nat} {Q : State → Prop}
variable {cc : ByteArray} {pc pc2 nL : Nat} {D : va_G} {AC : Nat → ClassId} {S : Nat → Nat} {tab : List ck_D} {L : Heap} {ρ0 : Nat → Int} {G0 : Nat → Nat} {N0 : List Nat} {H0 : Heap}
/-- from every state that an abstract one describes, the method comes to its end -/
def ck_W (p : Program) (l : Launch) (e : Env) (R : Room) (s : State) (m : MethodId) (args : Array Value) (below : List Frame) (meth : Method) (c : Code) (Q : State → Prop) (D : va_G) (AC : Nat → ClassId) (S : Nat → Nat) (tab : List ck_D) (L : Heap) (nL : Nat) (ρ0 : Nat → Int) (G0 : Nat → Nat) (N0 : List Nat) (H0 : Heap) (pc : Nat) (A : ck_A) (cells slots : Nat) : Prop :=
  ∀ (H : Heap) (ls : Array Slot) (st : List Value) (locs : List Loc), ck_st D AC S tab L nL ρ0 G0 N0 H0 A H ls st locs → W p l e R s m args below meth c H locs cells slots Q (F0 m pc ls st)
variable {A : List (Nat × ck_V)} {st : List ck_V} {T : List ck_C}
theorem cw_pushI (n : Int) (v : Int32) (hn : v.toInt = n) (row : ∀ {H : Heap} {ls : Array Slot} {rest : List Value} {locs : List Loc}, W p l e R s m args below meth c H locs cells slots Q (F0 m pc2 ls (.int v :: rest)) → W p l e R s m args below meth c H locs cells slots Q (F0 m pc ls rest))
    (k : ck_W p l e R s m args below meth c Q D AC S tab L nL ρ0 G0 N0 H0 pc2 (A, .inl (n, n, none) :: st, T) cells slots) : ck_W p l e R s m args below meth c Q D AC S tab L nL ρ0 G0 N0 H0 pc (A, st, T) cells slots := by
  intro H ls vs locs h
  obtain ⟨ρ, G, N, lv, h1, h2, h3, h4, h5, h6, h7⟩ := h
  exact row (k H ls _ locs ⟨ρ, G, N, lv, h1, h2, ck_all.cons ⟨v, rfl, by rw [hn]; exact Int.le_refl _, by rw [hn]; exact Int.le_refl _, fun g c q => by cases q⟩ h3, h4, h5, h6, h7⟩)
theorem cw_pushJ (n : Int) (v : Int64) (hn : v.toInt = n) (row : ∀ {H : Heap} {ls : Array Slot} {rest : List Value} {locs : List Loc}, W p l e R s m args below meth c H locs cells slots Q (F0 m pc2 ls (.long v :: rest)) → W p l e R s m args below meth c H locs cells slots Q (F0 m pc ls rest))
    (k : ck_W p l e R s m args below meth c Q D AC S tab L nL ρ0 G0 N0 H0 pc2 (A, .inr (.inl (n, n)) :: st, T) cells slots) : ck_W p l e R s m args below meth c Q D AC S tab L nL ρ0 G0 N0 H0 pc (A, st, T) cells slots := by
  intro H ls vs locs h
  obtain ⟨ρ, G, N, lv, h1, h2, h3, h4, h5, h6, h7⟩ := h
  exact row (k H ls _ locs ⟨ρ, G, N, lv, h1, h2, ck_all.cons ⟨v, rfl, by rw [hn]; exact Int.le_refl _, by rw [hn]; exact Int.le_refl _⟩ h3, h4, h5, h6, h7⟩)
/-- reading a local -/
def ck_loc : List (Nat × ck_V) → Nat → Option ck_V
  | [], _ => none
  | (i, v) :: t, j => if i == j then some v else ck_loc t j
theorem ck_loc_ok {S : Nat → Nat} {ρ : Nat → Int} {G : Nat → Nat} {N : List Nat} : ∀ {A : List (Nat × ck_V)} {lv : List (Nat × Value)} {i : Nat} {k : ck_V}, ck_all (ck_RL S ρ G N) A lv → ck_loc A i = some k → ∃ (j : Nat) (v : Value), lv[j]? = some (i, v) ∧ ck_R S ρ G N k v
  | [], _, _, _, _, h => by cases h
  | (i0, k0) :: t, lv, i, k, ha, h => by
    obtain ⟨⟨i1, v1⟩, m', rfl, h1, h2⟩ := ha.uncons
    unfold ck_loc at h
    split at h
    · rename_i hi
      cases h
      have e : i0 = i := by simpa using hi
      exact ⟨0, v1, by rw [← e, show i0 = i1 from h1.1]; rfl, h1.2⟩
    · obtain ⟨j, v, g1, g2⟩ := ck_loc_ok h2 h
      exact ⟨j + 1, v, by simpa using g1, g2⟩
theorem cw_load {i : Nat} {k : ck_V} (hk : ck_loc A i = some k) (row : ∀ {H : Heap} {ls : Array Slot} {rest : List Value} {locs : List Loc} {ρ : Nat → Int} {G : Nat → Nat} {N : List Nat} {v : Value}, ls[i]? = some (.val v) → ck_R S ρ G N k v → W p l e R s m args below meth c H locs cells slots Q (F0 m pc2 ls (v :: rest)) → W p l e R s m args below meth c H locs cells slots Q (F0 m pc ls rest))
    (kk : ck_W p l e R s m args below meth c Q D AC S tab L nL ρ0 G0 N0 H0 pc2 (A, k :: st, T) cells slots) : ck_W p l e R s m args below meth c Q D AC S tab L nL ρ0 G0 N0 H0 pc (A, st, T) cells slots := by
  intro H ls vs locs h
  obtain ⟨ρ, G, N, lv, h1, h2, h3, h4, h5, h6, h7⟩ := h
  obtain ⟨j, v, g1, g2⟩ := ck_loc_ok h2 hk
  exact row (lv_at h1 j g1) g2 (kk H ls _ locs ⟨ρ, G, N, lv, h1, h2, ck_all.cons g2 h3, h4, h5, h6, h7⟩)
/-- writing a local -/
def ck_lng : ck_V → Bool
  | .inr (.inl _) => true
  | _ => false
def ck_kn : ck_V → Bool
  | .inr (.inr (n, _)) => n < 5
  | _ => true
theorem ck_cat {S : Nat → Nat} {ρ : Nat → Int} {G : Nat → Nat} {N : List Nat} {k : ck_V} {v : Value} (h : ck_R S ρ G N k v) (hk : ck_kn k = true) : (v.category == 2) = ck_lng k := by
  match k, h, hk with
  | .inl q, h, _ => obtain ⟨x, rfl, -⟩ := h; rfl
  | .inr (.inl q), h, _ => obtain ⟨x, rfl, -⟩ := h; rfl
  | .inr (.inr (0, _)), h, _ => cases h; rfl
  | .inr (.inr (1, i)), h, _ => obtain ⟨a, -, rfl⟩ := h; rfl
  | .inr (.inr (2, τ)), h, _ => obtain ⟨a, rfl, -⟩ := h; rfl
  | .inr (.inr (3, j)), h, _ => cases h; rfl
  | .inr (.inr (4, _)), h, _ => obtain ⟨a, rfl⟩ := h; rfl
  | .inr (.inr (n + 5, _)), _, hk => simp [ck_kn] at hk; omega
def ck_s1 (A : List (Nat × ck_V)) (i : Nat) (k : ck_V) : List (Nat × ck_V) := (i, k) :: A.filter (fun q => !(q.1 == i) && !(q.1 + 1 == i && ck_lng q.2))
def ck_s2 (A : List (Nat × ck_V)) (i : Nat) (k : ck_V) : List (Nat × ck_V) := (i, k) :: A.filter (fun q => !(q.1 == i) && (!(q.1 == i + 1) && !(q.1 + 1 == i && ck_lng q.2)))
theorem ck_filter {S : Nat → Nat} {ρ : Nat → Int} {G : Nat → Nat} {N : List Nat} (f : Nat × ck_V → Bool) (g : Nat × Value → Bool) (hfg : ∀ q w, ck_RL S ρ G N q w → ck_kn q.2 = true → f q = g w) : ∀ {A : List (Nat × ck_V)} {lv : List (Nat × Value)}, ck_all (ck_RL S ρ G N) A lv → A.all (fun q => ck_kn q.2) = true → ck_all (ck_RL S ρ G N) (A.filter f) (lv.filter g)
  | [], lv, h, _ => by
    have : lv = [] := by
      have := h.1
      cases lv with
      | nil => rfl
      | cons a b => simp at this
    subst this
    exact ck_all.nil
  | q :: t, lv, h, hk => by
    obtain ⟨w, lv', rfl, h1, h2⟩ := h.uncons
    simp only [List.all_cons, Bool.and_eq_true] at hk
    have ih := ck_filter f g hfg h2 hk.2
    have e := hfg q w h1 hk.1
    rw [List.filter_cons, List.filter_cons, e]
    split
    · exact ck_all.cons h1 ih
    · exact ih
theorem cw_store1 {i : Nat} {k : ck_V} (hk : ck_lng k = false) (hkn : A.all (fun q => ck_kn q.2) = true) (hn : i < nL)
    (row : ∀ {H : Heap} {ls : Array Slot} {rest : List Value} {locs : List Loc} {ρ : Nat → Int} {G : Nat → Nat} {N : List Nat} {v : Value} {lv : List (Nat × Value)}, ck_R S ρ G N k v → lv_has ls nL lv → (∀ ls' : Array Slot, lv_has ls' nL ((i, v) :: lv.filter (fun q => !(q.1 == i) && !(q.1 + 1 == i && q.2.category == 2))) → W p l e R s m args below meth c H locs cells slots Q (F0 m pc2 ls' rest)) → W p l e R s m args below meth c H locs cells slots Q (F0 m pc ls (v :: rest)))
    (kk : ck_W p l e R s m args below meth c Q D AC S tab L nL ρ0 G0 N0 H0 pc2 (ck_s1 A i k, st, T) cells slots) : ck_W p l e R s m args below meth c Q D AC S tab L nL ρ0 G0 N0 H0 pc (A, k :: st, T) cells slots := by
  intro H ls vs locs h
  obtain ⟨ρ, G, N, lv, h1, h2, h3, h4, h5, h6, h7⟩ := h
  obtain ⟨v, vs', rfl, g1, g2⟩ := h3.uncons
  refine row g1 h1 fun ls' hl' => kk H ls' vs' locs ⟨ρ, G, N, _, hl', ck_all.cons ⟨rfl, g1⟩ (ck_filter _ _ (fun q w hq hkq => ?_) h2 hkn), g2, h4, h5, h6, h7⟩
  rw [← ck_cat hq.2 hkq, hq.1]
theorem cw_store2 {i : Nat} {k : ck_V} (hkn : A.all (fun q => ck_kn q.2) = true) (hn : i + 1 < nL)
    (row : ∀ {H : Heap} {ls : Array Slot} {rest : List Value} {locs : List Loc} {ρ : Nat → Int} {G : Nat → Nat} {N : List Nat} {v : Value} {lv : List (Nat × Value)}, ck_R S ρ G N k v → lv_has ls nL lv → (∀ ls' : Array Slot, lv_has ls' nL ((i, v) :: lv.filter (fun q => !(q.1 == i) && (!(q.1 == i + 1) && !(q.1 + 1 == i && q.2.category == 2)))) → W p l e R s m args below meth c H locs cells slots Q (F0 m pc2 ls' rest)) → W p l e R s m args below meth c H locs cells slots Q (F0 m pc ls (v :: rest)))
    (kk : ck_W p l e R s m args below meth c Q D AC S tab L nL ρ0 G0 N0 H0 pc2 (ck_s2 A i k, st, T) cells slots) : ck_W p l e R s m args below meth c Q D AC S tab L nL ρ0 G0 N0 H0 pc (A, k :: st, T) cells slots := by
  intro H ls vs locs h
  obtain ⟨ρ, G, N, lv, h1, h2, h3, h4, h5, h6, h7⟩ := h
  obtain ⟨v, vs', rfl, g1, g2⟩ := h3.uncons
  refine row g1 h1 fun ls' hl' => kk H ls' vs' locs ⟨ρ, G, N, _, hl', ck_all.cons ⟨rfl, g1⟩ (ck_filter _ _ (fun q w hq hkq => ?_) h2 hkn), g2, h4, h5, h6, h7⟩
  rw [← ck_cat hq.2 hkq, hq.1]
/-- two ints from the stack, one int comes -/
theorem cw_op2 {a b : ck_Q} {r : ck_V} {f : Int32 → Int32 → Int32} (hf : ∀ ρ x y, ck_in ρ a x → ck_in ρ b y → ck_isI ρ r (f x y))
    (row : ∀ {H : Heap} {ls : Array Slot} {rest : List Value} {locs : List Loc} {x y : Int32} {ρ : Nat → Int}, ck_in ρ a x → ck_in ρ b y → W p l e R s m args below meth c H locs cells slots Q (F0 m pc2 ls (.int (f x y) :: rest)) → W p l e R s m args below meth c H locs cells slots Q (F0 m pc ls (.int y :: .int x :: rest)))
    (kk : ck_W p l e R s m args below meth c Q D AC S tab L nL ρ0 G0 N0 H0 pc2 (A, r :: st, T) cells slots) : ck_W p l e R s m args below meth c Q D AC S tab L nL ρ0 G0 N0 H0 pc (A, .inl b :: .inl a :: st, T) cells slots := by
  intro H ls vs locs h
  obtain ⟨ρ, G, N, lv, h1, h2, h3, h4, h5, h6, h7⟩ := h
  obtain ⟨_, vs', rfl, ⟨y, rfl, gy⟩, g2⟩ := h3.uncons
  obtain ⟨_, vs'', rfl, ⟨x, rfl, gx⟩, g3⟩ := g2.uncons
  obtain ⟨q, rfl, hq⟩ := hf ρ x y gx gy
  exact row gx gy (kk H ls _ locs ⟨ρ, G, N, lv, h1, h2, ck_all.cons ⟨_, rfl, hq⟩ g3, h4, h5, h6, h7⟩)
theorem ck_i64 (x : Int64) : -9223372036854775808 ≤ x.toInt ∧ x.toInt ≤ 9223372036854775807 := by
  have h1 := Int64.minValue_le_toInt x
  have h2 := Int64.toInt_lt x
  exact ⟨by simpa using h1, by omega⟩
/-- a long comes of two values: any long -/
theorem cw_opJ {a b : ck_V} {r : Int × Int} {f : Value → Value → Int64} (hf : ∀ S ρ G N v w, ck_R S ρ G N a v → ck_R S ρ G N b w → r.1 ≤ (f v w).toInt ∧ (f v w).toInt ≤ r.2)
    (row : ∀ {H : Heap} {ls : Array Slot} {rest : List Value} {locs : List Loc} {v w : Value} {S : Nat → Nat} {ρ : Nat → Int} {G : Nat → Nat} {N : List Nat}, ck_R S ρ G N a v → ck_R S ρ G N b w → W p l e R s m args below meth c H locs cells slots Q (F0 m pc2 ls (.long (f v w) :: rest)) → W p l e R s m args below meth c H locs cells slots Q (F0 m pc ls (w :: v :: rest)))
    (kk : ck_W p l e R s m args below meth c Q D AC S tab L nL ρ0 G0 N0 H0 pc2 (A, .inr (.inl r) :: st, T) cells slots) : ck_W p l e R s m args below meth c Q D AC S tab L nL ρ0 G0 N0 H0 pc (A, b :: a :: st, T) cells slots := by
  intro H ls vs locs h
  obtain ⟨ρ, G, N, lv, h1, h2, h3, h4, h5, h6, h7⟩ := h
  obtain ⟨w, vs', rfl, gw, g2⟩ := h3.uncons
  obtain ⟨v, vs'', rfl, gv, g3⟩ := g2.uncons
  have := hf S ρ G N v w gv gw
  exact row gv gw (kk H ls _ locs ⟨ρ, G, N, lv, h1, h2, ck_all.cons ⟨_, rfl, this.1, this.2⟩ g3, h4, h5, h6, h7⟩)
/-- a value comes of one -/
theorem cw_op1 {a r : ck_V} {f : Value → Value} (hf : ∀ ρ G N v, ck_R S ρ G N a v → ck_R S ρ G N r (f v))
    (row : ∀ {H : Heap} {ls : Array Slot} {rest : List Value} {locs : List Loc} {v : Value} {ρ : Nat → Int} {G : Nat → Nat} {N : List Nat}, ck_R S ρ G N a v → W p l e R s m args below meth c H locs cells slots Q (F0 m pc2 ls (f v :: rest)) → W p l e R s m args below meth c H locs cells slots Q (F0 m pc ls (v :: rest)))
    (kk : ck_W p l e R s m args below meth c Q D AC S tab L nL ρ0 G0 N0 H0 pc2 (A, r :: st, T) cells slots) : ck_W p l e R s m args below meth c Q D AC S tab L nL ρ0 G0 N0 H0 pc (A, a :: st, T) cells slots := by
  intro H ls vs locs h
  obtain ⟨ρ, G, N, lv, h1, h2, h3, h4, h5, h6, h7⟩ := h
  obtain ⟨v, vs', rfl, gv, g2⟩ := h3.uncons
  exact row gv (kk H ls _ locs ⟨ρ, G, N, lv, h1, h2, ck_all.cons (hf ρ G N v gv) g2, h4, h5, h6, h7⟩)
/-- the stack is changed about -/
theorem cw_stk {st st' : List ck_V} (f : List Value → List Value) (hf : ∀ (S : Nat → Nat) (ρ : Nat → Int) (G : Nat → Nat) (N : List Nat) (vs : List Value), ck_all (ck_R S ρ G N) st vs → ck_all (ck_R S ρ G N) st' (f vs))
    (row : ∀ {H : Heap} {ls : Array Slot} {locs : List Loc} {vs : List Value} {S : Nat → Nat} {ρ : Nat → Int} {G : Nat → Nat} {N : List Nat}, ck_all (ck_R S ρ G N) st vs → W p l e R s m args below meth c H locs cells slots Q (F0 m pc2 ls (f vs)) → W p l e R s m args below meth c H locs cells slots Q (F0 m pc ls vs))
    (kk : ck_W p l e R s m args below meth c Q D AC S tab L nL ρ0 G0 N0 H0 pc2 (A, st', T) cells slots) : ck_W p l e R s m args below meth c Q D AC S tab L nL ρ0 G0 N0 H0 pc (A, st, T) cells slots := by
  intro H ls vs locs h
  obtain ⟨ρ, G, N, lv, h1, h2, h3, h4, h5, h6, h7⟩ := h
  exact row h3 (kk H ls _ locs ⟨ρ, G, N, lv, h1, h2, hf S ρ G N vs h3, h4, h5, h6, h7⟩)
/-! a ghost's bounds are drawn tighter everywhere -/
def ck_tg (g : Nat) (lo hi : Int) : ck_V → ck_V
  | .inl (a, b, some (h, k)) => if g == h then .inl (ck_max a (lo + k), ck_min b (hi + k), some (h, k)) else .inl (a, b, some (h, k))
  | x => x
theorem ck_tg_ok {g : Nat} {lo hi : Int} {S : Nat → Nat} {ρ : Nat → Int} {G : Nat → Nat} {N : List Nat} {k : ck_V} {v : Value} (h1 : lo ≤ ρ g) (h2 : ρ g ≤ hi) (h : ck_R S ρ G N k v) : ck_R S ρ G N (ck_tg g lo hi k) v := by
  match k, h with
  | .inl (a, b, none), h => exact h
  | .inl (a, b, some (q, k)), h =>
    show ck_R S ρ G N (if g == q then .inl (ck_max a (lo + k), ck_min b (hi + k), some (q, k)) else .inl (a, b, some (q, k))) v
    by_cases hg : (g == q) = true
    · rw [if_pos hg]
      have hg : g = q := by simpa using hg
      subst hg
      obtain ⟨x, e, x1, x2, x3⟩ := h
      have := x3 g k rfl
      dsimp only at x1 x2
      exact ⟨x, e, ck_max_le x1 (by omega), ck_le_min x2 (by omega), x3⟩
    · rw [if_neg hg]
      exact h
  | .inr z, h => exact h
def ck_tgA (g : Nat) (lo hi : Int) (A : ck_A) : ck_A := (A.1.map (fun q => (q.1, ck_tg g lo hi q.2)), A.2.1.map (ck_tg g lo hi), A.2.2.map (fun c => (c.1, c.2.map (ck_tg g lo hi))))
theorem ck_all.map {α β : Type} {P Q : α → β → Prop} {l : List α} {m : List β} (f : α → α) (h : ck_all P l m) (hh : ∀ a b, P a b → Q (f a) b) : ck_all Q (l.map f) m := by
  refine ⟨by simp [h.1], fun i x y hx hy => ?_⟩
  rw [List.getElem?_map] at hx
  obtain ⟨z, hz, rfl⟩ := Option.map_eq_some_iff.mp hx
  exact hh z y (h.2 i z y hz hy)
/-- the heap's side, with other abstract contents of the same cells -/
theorem ck_H.mapV {ρ ρ' : Nat → Int} {G : Nat → Nat} {N : List Nat} {T : List ck_C} {H : Heap} (φ : ck_V → ck_V) (h : ck_H D AC S tab L ρ G N T H) (hv : ∀ k v, ck_R S ρ G N k v → ck_R S ρ' G N (φ k) v) : ck_H D AC S tab L ρ' G N (T.map (fun c => (c.1, c.2.map φ))) H := by
  obtain ⟨h1, h2, h3, h4⟩ := h
  have inv : ∀ (i : Nat) (c : ck_C), (T.map (fun c => ((c.1, c.2.map φ) : ck_C)))[i]? = some c → ∃ d, T[i]? = some d ∧ c = (d.1, d.2.map φ) := by
    intro i c hc
    rw [List.getElem?_map] at hc
    obtain ⟨d, hd, rfl⟩ := Option.map_eq_some_iff.mp hc
    exact ⟨d, hd, rfl⟩
  refine ⟨h1, by simp [h2], fun i c a hc ha => ?_, fun i j c d a hc hd o1 o2 n1 n2 => ?_⟩
  · obtain ⟨d, hd, rfl⟩ := inv i c hc
    exact (h3 i d a hd ha).mapV φ (fun _ => rfl) (fun _ => rfl) (fun k v _ hkv => hv k v hkv)
  · obtain ⟨c', hc', rfl⟩ := inv i c hc
    obtain ⟨d', hd', rfl⟩ := inv j d hd
    exact h4 i j c' d' a hc' hd' o1 o2 n1 n2
theorem ck_F.mapV {G0 G : Nat → Nat} {N0 N : List Nat} {T : List ck_C} {H0 H : Heap} (φ : ck_V → ck_V) (h : ck_F G0 N0 H0 G N T H) : ck_F G0 N0 H0 G N (T.map (fun c => (c.1, c.2.map φ))) H := by
  obtain ⟨h1, h2, h3, h4, h5, h6⟩ := h
  refine ⟨h1, h2, h3, h4, h5, fun i c a hc ha ho hi => ?_⟩
  rw [List.getElem?_map] at hc
  obtain ⟨d, hd, rfl⟩ := Option.map_eq_some_iff.mp hc
  exact h6 i d a hd ha ho hi
end CKW
end
section
/-! ===== branches, iinc, goto, switch ===== -/
def ck_tgO (t : Option (Nat × Int)) (lo hi : Int) (A : ck_A) : ck_A := match t with
  | some (g, c) => ck_tgA g (lo - c) (hi - c) A
  | none => A
section CKB
variable {p : Program} {l : Launch} {e : Env} {R : Room} {s : State} {m : MethodId} {args : Array Value} {below : List Frame} {meth : Method} {c : Code} {cells slots : Nat} {Q : State → Prop}
variable {cc : ByteArray} {pc pc2 nL : Nat} {D : va_G} {AC : Nat → ClassId} {S : Nat → Nat} {tab : List ck_D} {L : Heap} {ρ0 : Nat → Int} {G0 : Nat → Nat} {N0 : List Nat} {H0 : Heap}
variable {A : List (Nat × ck_V)} {st : List ck_V} {T : List ck_C}
/-- an abstract state, with its ghosts, types and names shown -/
def ck_sx (D : va_G) (AC : Nat → ClassId) (S : Nat → Nat) (tab : List ck_D) (L : Heap) (nL : Nat) (ρ0 : Nat → Int) (G0 : Nat → Nat) (N0 : List Nat) (H0 : Heap) (A : ck_A) (H : Heap) (ls : Array Slot) (st : List Value) (locs : List Loc) (ρ : Nat → Int) (G : Nat → Nat) (N : List Nat) : Prop :=
  ∃ lv : List (Nat × Value), lv_has ls nL lv ∧ ck_all (ck_RL S ρ G N) A.1 lv ∧ ck_all (ck_R S ρ G N) A.2.1 st ∧ ck_H D AC S tab L ρ G N A.2.2 H ∧ ck_F G0 N0 H0 G N A.2.2 H ∧ (∀ q ∈ locs, L.size ≤ q.base) ∧ ∀ g, 100 ≤ g → g < 200 → ρ g = ρ0 g
theorem ck_sx.out {A : ck_A} {H : Heap} {ls : Array Slot} {st : List Value} {locs : List Loc} {ρ : Nat → Int} {G : Nat → Nat} {N : List Nat} (h : ck_sx D AC S tab L nL ρ0 G0 N0 H0 A H ls st locs ρ G N) : ck_st D AC S tab L nL ρ0 G0 N0 H0 A H ls st locs := ⟨ρ, G, N, h⟩
theorem ck_sx.tg {A : ck_A} {H : Heap} {ls : Array Slot} {st : List Value} {locs : List Loc} {ρ : Nat → Int} {G : Nat → Nat} {N : List Nat} (h : ck_sx D AC S tab L nL ρ0 G0 N0 H0 A H ls st locs ρ G N) {g : Nat} {lo hi : Int} (h1 : lo ≤ ρ g) (h2 : ρ g ≤ hi) : ck_sx D AC S tab L nL ρ0 G0 N0 H0 (ck_tgA g lo hi A) H ls st locs ρ G N := by
  obtain ⟨lv, a1, a2, a3, a4, a5, a6, a7⟩ := h
  exact ⟨lv, a1, a2.map _ (fun q w hq => ⟨hq.1, ck_tg_ok h1 h2 hq.2⟩), a3.map _ (fun q w hq => ck_tg_ok h1 h2 hq), a4.mapV _ (fun k v hk => ck_tg_ok h1 h2 hk), a5.mapV _, a6, a7⟩
theorem ck_sx.tgO {A : ck_A} {H : Heap} {ls : Array Slot} {st : List Value} {locs : List Loc} {ρ : Nat → Int} {G : Nat → Nat} {N : List Nat} (h : ck_sx D AC S tab L nL ρ0 G0 N0 H0 A H ls st locs ρ G N) {q : ck_Q} {x : Int32} (hq : ck_in ρ q x) {lo hi : Int} (h1 : lo ≤ x.toInt) (h2 : x.toInt ≤ hi) : ck_sx D AC S tab L nL ρ0 G0 N0 H0 (ck_tgO q.2.2 lo hi A) H ls st locs ρ G N := by
  unfold ck_tgO
  split
  · rename_i g c hg
    have := hq.2.2 g c hg
    exact h.tg (by omega) (by omega)
  · exact h
/-- two ints are compared -/
theorem cw_cmp (k : ClassFile.Cond) {a b : ck_Q} {tgt : Nat}
    (row : ∀ {H : Heap} {ls : Array Slot} {rest : List Value} {locs : List Loc} {x y : Int32}, (ck_hold k x.toInt y.toInt → W p l e R s m args below meth c H locs cells slots Q (F0 m tgt ls rest)) → (¬ ck_hold k x.toInt y.toInt → W p l e R s m args below meth c H locs cells slots Q (F0 m pc2 ls rest)) → W p l e R s m args below meth c H locs cells slots Q (F0 m pc ls (.int y :: .int x :: rest)))
    (kt : ∀ r, ck_ref k (a.1, a.2.1) (b.1, b.2.1) = some r → ck_W p l e R s m args below meth c Q D AC S tab L nL ρ0 G0 N0 H0 tgt (ck_tgO b.2.2 r.2.1 r.2.2 (ck_tgO a.2.2 r.1.1 r.1.2 (A, st, T))) cells slots)
    (kf : ∀ r, ck_ref (ck_neg k) (a.1, a.2.1) (b.1, b.2.1) = some r → ck_W p l e R s m args below meth c Q D AC S tab L nL ρ0 G0 N0 H0 pc2 (ck_tgO b.2.2 r.2.1 r.2.2 (ck_tgO a.2.2 r.1.1 r.1.2 (A, st, T))) cells slots) :
    ck_W p l e R s m args below meth c Q D AC S tab L nL ρ0 G0 N0 H0 pc (A, .inl b :: .inl a :: st, T) cells slots := by
  intro H ls vs locs h
  obtain ⟨ρ, G, N, lv, h1, h2, h3, h4, h5, h6, h7⟩ := h
  obtain ⟨_, vs', rfl, ⟨y, rfl, gy⟩, g2⟩ := h3.uncons
  obtain ⟨_, vs'', rfl, ⟨x, rfl, gx⟩, g3⟩ := g2.uncons
  have hsx : ck_sx D AC S tab L nL ρ0 G0 N0 H0 (A, st, T) H ls vs'' locs ρ G N := ⟨lv, h1, h2, g3, h4, h5, h6, h7⟩
  refine row (fun hk => ?_) (fun hk => ?_)
  · obtain ⟨r, hr, r1, r2, r3, r4⟩ := ck_ref_ok (x := (a.1, a.2.1)) (y := (b.1, b.2.1)) hk gx.1 gx.2.1 gy.1 gy.2.1
    exact kt r hr H ls vs'' locs ((hsx.tgO gx r1 r2).tgO gy r3 r4).out
  · obtain ⟨r, hr, r1, r2, r3, r4⟩ := ck_ref_ok (x := (a.1, a.2.1)) (y := (b.1, b.2.1)) (ck_neg_ok hk) gx.1 gx.2.1 gy.1 gy.2.1
    exact kf r hr H ls vs'' locs ((hsx.tgO gx r1 r2).tgO gy r3 r4).out
/-- an int is compared with 0 -/
theorem cw_if (k : ClassFile.Cond) {a : ck_Q} {tgt : Nat}
    (row : ∀ {H : Heap} {ls : Array Slot} {rest : List Value} {locs : List Loc} {x : Int32}, (ck_hold k x.toInt 0 → W p l e R s m args below meth c H locs cells slots Q (F0 m tgt ls rest)) → (¬ ck_hold k x.toInt 0 → W p l e R s m args below meth c H locs cells slots Q (F0 m pc2 ls rest)) → W p l e R s m args below meth c H locs cells slots Q (F0 m pc ls (.int x :: rest)))
    (kt : ∀ r, ck_ref k (a.1, a.2.1) (0, 0) = some r → ck_W p l e R s m args below meth c Q D AC S tab L nL ρ0 G0 N0 H0 tgt (ck_tgO a.2.2 r.1.1 r.1.2 (A, st, T)) cells slots)
    (kf : ∀ r, ck_ref (ck_neg k) (a.1, a.2.1) (0, 0) = some r → ck_W p l e R s m args below meth c Q D AC S tab L nL ρ0 G0 N0 H0 pc2 (ck_tgO a.2.2 r.1.1 r.1.2 (A, st, T)) cells slots) :
    ck_W p l e R s m args below meth c Q D AC S tab L nL ρ0 G0 N0 H0 pc (A, .inl a :: st, T) cells slots := by
  intro H ls vs locs h
  obtain ⟨ρ, G, N, lv, h1, h2, h3, h4, h5, h6, h7⟩ := h
  obtain ⟨_, vs'', rfl, ⟨x, rfl, gx⟩, g3⟩ := h3.uncons
  have hsx : ck_sx D AC S tab L nL ρ0 G0 N0 H0 (A, st, T) H ls vs'' locs ρ G N := ⟨lv, h1, h2, g3, h4, h5, h6, h7⟩
  refine row (fun hk => ?_) (fun hk => ?_)
  · obtain ⟨r, hr, r1, r2, -⟩ := ck_ref_ok (x := (a.1, a.2.1)) (y := (0, 0)) hk gx.1 gx.2.1 (Int.le_refl _) (Int.le_refl _)
    exact kt r hr H ls vs'' locs (hsx.tgO gx r1 r2).out
  · obtain ⟨r, hr, r1, r2, -⟩ := ck_ref_ok (x := (a.1, a.2.1)) (y := (0, 0)) (ck_neg_ok hk) gx.1 gx.2.1 (Int.le_refl _) (Int.le_refl _)
    exact kf r hr H ls vs'' locs (hsx.tgO gx r1 r2).out
theorem cw_icmp (hexec : p.tables.exec = Jvm.exec) (hb : c.code = cc) {k : ClassFile.Cond} {a b : ck_Q} {tgt : Nat} {off : Int} (hd : decode cc pc = .ok (.if_icmp k off, 3)) (ht : (pc : Int) + off = (tgt : Int))
    (kt : ∀ r, ck_ref k (a.1, a.2.1) (b.1, b.2.1) = some r → ck_W p l e R s m args below meth c Q D AC S tab L nL ρ0 G0 N0 H0 tgt (ck_tgO b.2.2 r.2.1 r.2.2 (ck_tgO a.2.2 r.1.1 r.1.2 (A, st, T))) cells slots)
    (kf : ∀ r, ck_ref (ck_neg k) (a.1, a.2.1) (b.1, b.2.1) = some r → ck_W p l e R s m args below meth c Q D AC S tab L nL ρ0 G0 N0 H0 (pc + 3) (ck_tgO b.2.2 r.2.1 r.2.2 (ck_tgO a.2.2 r.1.1 r.1.2 (A, st, T))) cells slots) :
    ck_W p l e R s m args below meth c Q D AC S tab L nL ρ0 G0 N0 H0 pc (A, .inl b :: .inl a :: st, T) cells slots := by
  refine cw_cmp k (fun w1 w2 => ?_) kt kf
  cases k with
  | eq => exact lv_icmp_eq hexec hb hd ht (fun h => w1 (by rw [h]; rfl)) (fun h => w2 (fun q => h (Int32.toInt_inj.mp q)))
  | ne => exact lv_icmp_ne hexec hb hd ht (fun h => w1 (fun q => h (Int32.toInt_inj.mp q))) (fun h => w2 (fun q => q (by rw [h])))
  | lt => exact lv_icmp_lt hexec hb hd ht (fun h => w1 (Int32.lt_iff_toInt_lt.mp h)) (fun h => w2 (fun q => h (Int32.lt_iff_toInt_lt.mpr q)))
  | ge => exact lv_icmp_ge hexec hb hd ht (fun h => w1 (Int32.le_iff_toInt_le.mp h)) (fun h => w2 (fun q => h (Int32.le_iff_toInt_le.mpr q)))
  | gt => exact lv_icmp_gt hexec hb hd ht (fun h => w1 (Int32.lt_iff_toInt_lt.mp h)) (fun h => w2 (fun q => h (Int32.lt_iff_toInt_lt.mpr q)))
  | le => exact lv_icmp_le hexec hb hd ht (fun h => w1 (Int32.le_iff_toInt_le.mp h)) (fun h => w2 (fun q => h (Int32.le_iff_toInt_le.mpr q)))
theorem cw_ifc (hexec : p.tables.exec = Jvm.exec) (hb : c.code = cc) {k : ClassFile.Cond} {a : ck_Q} {tgt : Nat} {off : Int} (hd : decode cc pc = .ok (.ifCond k off, 3)) (ht : (pc : Int) + off = (tgt : Int))
    (kt : ∀ r, ck_ref k (a.1, a.2.1) (0, 0) = some r → ck_W p l e R s m args below meth c Q D AC S tab L nL ρ0 G0 N0 H0 tgt (ck_tgO a.2.2 r.1.1 r.1.2 (A, st, T)) cells slots)
    (kf : ∀ r, ck_ref (ck_neg k) (a.1, a.2.1) (0, 0) = some r → ck_W p l e R s m args below meth c Q D AC S tab L nL ρ0 G0 N0 H0 (pc + 3) (ck_tgO a.2.2 r.1.1 r.1.2 (A, st, T)) cells slots) :
    ck_W p l e R s m args below meth c Q D AC S tab L nL ρ0 G0 N0 H0 pc (A, .inl a :: st, T) cells slots := by
  refine cw_if k (fun w1 w2 => ?_) kt kf
  have z : (0 : Int32).toInt = 0 := rfl
  cases k with
  | eq => exact lv_if_eq hexec hb hd ht (fun h => w1 (by rw [h]; rfl)) (fun h => w2 (fun q => h (Int32.toInt_inj.mp q)))
  | ne => exact lv_if_ne hexec hb hd ht (fun h => w1 (fun q => h (Int32.toInt_inj.mp q))) (fun h => w2 (fun q => q (by rw [h]; rfl)))
  | lt => exact lv_if_lt hexec hb hd ht (fun h => w1 (Int32.lt_iff_toInt_lt.mp h)) (fun h => w2 (fun q => h (Int32.lt_iff_toInt_lt.mpr q)))
  | ge => exact lv_if_ge hexec hb hd ht (fun h => w1 (Int32.le_iff_toInt_le.mp h)) (fun h => w2 (fun q => h (Int32.le_iff_toInt_le.mpr q)))
  | gt => exact lv_if_gt hexec hb hd ht (fun h => w1 (Int32.lt_iff_toInt_lt.mp h)) (fun h => w2 (fun q => h (Int32.lt_iff_toInt_lt.mpr q)))
  | le => exact lv_if_le hexec hb hd ht (fun h => w1 (Int32.le_iff_toInt_le.mp h)) (fun h => w2 (fun q => h (Int32.le_iff_toInt_le.mpr q)))
theorem cw_goto (hexec : p.tables.exec = Jvm.exec) (hb : c.code = cc) {tgt : Nat} {off : Int} (hd : decode cc pc = .ok (.goto off, 3)) (ht : (pc : Int) + off = (tgt : Int))
    (k : ck_W p l e R s m args below meth c Q D AC S tab L nL ρ0 G0 N0 H0 tgt (A, st, T) cells slots) : ck_W p l e R s m args below meth c Q D AC S tab L nL ρ0 G0 N0 H0 pc (A, st, T) cells slots :=
  fun H ls vs locs h => lv_goto hexec hb hd ht (k H ls vs locs h)
theorem cw_iinc (hexec : p.tables.exec = Jvm.exec) (hb : c.code = cc) {i : Nat} {n : Int} {q : ck_Q} (hd : decode cc pc = .ok (.iinc i n, 3)) (hq : ck_loc A i = some (.inl q)) (hn : i < nL) (hkn : A.all (fun q => ck_kn q.2) = true) (hr : (Int32.ofInt n).toInt = n)
    (kk : ck_W p l e R s m args below meth c Q D AC S tab L nL ρ0 G0 N0 H0 (pc + 3) (ck_s1 A i (ck_add q (n, n, none)), st, T) cells slots) : ck_W p l e R s m args below meth c Q D AC S tab L nL ρ0 G0 N0 H0 pc (A, st, T) cells slots := by
  intro H ls vs locs h
  obtain ⟨ρ, G, N, lv, h1, h2, h3, h4, h5, h6, h7⟩ := h
  obtain ⟨j, v, g1, ⟨x, rfl, gx⟩⟩ := ck_loc_ok h2 hq
  have hc : ck_in ρ (n, n, none) (Int32.ofInt n) := ⟨by dsimp only; omega, by dsimp only; omega, fun g c q => by cases q⟩
  obtain ⟨q', e', hq'⟩ := ck_add_ok gx hc
  refine lv_iinc hexec hb hd h1 g1 rfl hn rfl fun ls' hl' => kk H ls' vs locs ⟨ρ, G, N, _, hl', ck_all.cons ⟨rfl, by dsimp only; rw [e']; exact ⟨_, rfl, hq'⟩⟩ (ck_filter _ _ (fun q w hq hkq => ?_) h2 hkn), h3, h4, h5, h6, h7⟩
  rw [← ck_cat hq.2 hkq, hq.1]
/-- a switch: the targets of every number that can come, and the last one where another can -/
theorem cw_table (hexec : p.tables.exec = Jvm.exec) (hb : c.code = cc) {a : ck_Q} {dflt lo hi : Int} {offs : Array Int} {len : Nat} (hd : decode cc pc = .ok (.tableswitch dflt lo hi offs, len)) {td : Nat} (htd : (pc : Int) + dflt = (td : Int)) (tg : Nat → Nat)
    (htg : ∀ i : Nat, i < (hi - lo + 1).toNat → ∃ off, offs[i]? = some off ∧ (pc : Int) + off = (tg i : Int))
    (kin : ∀ i : Nat, i < (hi - lo + 1).toNat → a.1 ≤ lo + i → lo + i ≤ a.2.1 → ck_W p l e R s m args below meth c Q D AC S tab L nL ρ0 G0 N0 H0 (tg i) (A, st, T) cells slots)
    (kout : (a.1 < lo ∨ hi < a.2.1) → ck_W p l e R s m args below meth c Q D AC S tab L nL ρ0 G0 N0 H0 td (A, st, T) cells slots) :
    ck_W p l e R s m args below meth c Q D AC S tab L nL ρ0 G0 N0 H0 pc (A, .inl a :: st, T) cells slots := by
  intro H ls vs locs h
  obtain ⟨ρ, G, N, lv, h1, h2, h3, h4, h5, h6, h7⟩ := h
  obtain ⟨_, vs', rfl, ⟨x, rfl, gx⟩, g2⟩ := h3.uncons
  have hst : ck_st D AC S tab L nL ρ0 G0 N0 H0 (A, st, T) H ls vs' locs := ⟨ρ, G, N, lv, h1, h2, g2, h4, h5, h6, h7⟩
  obtain ⟨x1, x2, -⟩ := gx
  by_cases hlo : x.toInt < lo
  · exact lv_tableOut hexec hb hd (Or.inl hlo) htd (kout (Or.inl (by omega)) H ls vs' locs hst)
  · by_cases hhi : hi < x.toInt
    · exact lv_tableOut hexec hb hd (Or.inr hhi) htd (kout (Or.inr (by omega)) H ls vs' locs hst)
    · obtain ⟨off, o1, o2⟩ := htg (x.toInt - lo).toNat (by omega)
      exact lv_tableIn hexec hb hd hlo hhi o1 o2 (kin (x.toInt - lo).toNat (by omega) (by omega) (by omega) H ls vs' locs hst)
end CKB
end
section
/-! ===== fields ===== -/
def ck_tys (AC : Nat → ClassId) : List (ClassId × FieldType) := [(AC 0, .int), (AC 1, .long), (AC 2, .boolean), (AC 3, .object "RatchetDesk$Secret"), (AC 4, .object "RatchetDesk$Person"), (AC 5, .object "RatchetDesk$End"), (AC 6, .object "RatchetDesk$Letter"), (AC 7, .array .int)]
def ck_fit : FieldType → ck_V → Bool
  | .int, .inl _ => true
  | .boolean, .inl (lo, hi, _) => decide (0 ≤ lo) && decide (hi ≤ 1)
  | .long, .inr (.inl _) => true
  | .object _, .inr (.inr (n, _)) => n < 5
  | .array _, .inr (.inr (n, _)) => n < 5
  | _, _ => false
theorem ck_isRef {S : Nat → Nat} {ρ : Nat → Int} {G : Nat → Nat} {N : List Nat} {n k : Nat} {v : Value} (h : ck_R S ρ G N (.inr (.inr (n, k))) v) (hn : n < 5) : v = .null ∨ ∃ a, v = .ref a := by
  match n, h, hn with
  | 0, h, _ => exact Or.inl h
  | 1, h, _ => obtain ⟨a, -, h⟩ := h; exact Or.inr ⟨a, h⟩
  | 2, h, _ => obtain ⟨a, h, -⟩ := h; exact Or.inr ⟨a, h⟩
  | 3, h, _ => exact Or.inr ⟨_, h⟩
  | 4, h, _ => obtain ⟨a, h⟩ := h; exact Or.inr ⟨a, h⟩
theorem ck_bool {x : Int32} (h1 : 0 ≤ x.toInt) (h2 : x.toInt ≤ 1) : x = 0 ∨ x = 1 := by
  by_cases h : x.toInt = 0
  · exact Or.inl (Int32.toInt_inj.mp h)
  · exact Or.inr (Int32.toInt_inj.mp (show x.toInt = 1 by omega))
theorem ck_fit_ok {S : Nat → Nat} {ρ : Nat → Int} {G : Nat → Nat} {N : List Nat} {ty : FieldType} {k : ck_V} {v : Value} (hf : ck_fit ty k = true) (h : ck_R S ρ G N k v) : narrow ty v = v ∧ fits ty v = true := by
  match ty, k, hf, h with
  | .int, .inl _, _, h => obtain ⟨x, rfl, -⟩ := h; exact ⟨rfl, rfl⟩
  | .boolean, .inl (lo, hi, t), hf, h =>
    obtain ⟨x, rfl, x1, x2, -⟩ := h
    simp only [ck_fit, Bool.and_eq_true, decide_eq_true_eq] at hf
    dsimp only at x1 x2
    rcases ck_bool (x := x) (by omega) (by omega) with rfl | rfl <;> exact ⟨rfl, rfl⟩
  | .long, .inr (.inl _), _, h => obtain ⟨x, rfl, -⟩ := h; exact ⟨rfl, rfl⟩
  | .object C, .inr (.inr (n, j)), hf, h =>
    simp only [ck_fit, decide_eq_true_eq] at hf
    rcases ck_isRef h hf with rfl | ⟨a, rfl⟩ <;> exact ⟨rfl, rfl⟩
  | .array C, .inr (.inr (n, j)), hf, h =>
    simp only [ck_fit, decide_eq_true_eq] at hf
    rcases ck_isRef h hf with rfl | ⟨a, rfl⟩ <;> exact ⟨rfl, rfl⟩
  | .int, .inr _, hf, _ => cases hf
  | .boolean, .inr _, hf, _ => cases hf
  | .long, .inl _, hf, _ => cases hf
  | .long, .inr (.inr _), hf, _ => cases hf
  | .object _, .inl _, hf, _ => cases hf
  | .object _, .inr (.inl _), hf, _ => cases hf
  | .array _, .inl _, hf, _ => cases hf
  | .array _, .inr (.inl _), hf, _ => cases hf
  | .byte, _, hf, _ => cases hf
  | .char, _, hf, _ => cases hf
  | .short, _, hf, _ => cases hf
  | .float, _, hf, _ => cases hf
  | .double, _, hf, _ => cases hf
theorem ck_F.put {G0 G : Nat → Nat} {N0 N : List Nat} {T T' : List ck_C} {H0 H H' : Heap} {a : Nat} (hF : ck_F G0 N0 H0 G N T H) (hs : H'.size = H.size) (hq : ∀ q, q ≠ a → H'[q]? = H[q]?) (ha : G a ≠ 0 ∨ ∃ (i : Nat) (c : ck_C), T[i]? = some c ∧ N[i]? = some a ∧ ck_own c = true) (hT : ∀ (i : Nat) (c : ck_C), T'[i]? = some c → ck_own c = true → ∃ c', T[i]? = some c' ∧ ck_own c' = true) : ck_F G0 N0 H0 G N T' H' := by
  obtain ⟨h1, h2, h3, h4, h5, h6⟩ := hF
  refine ⟨by omega, h2, fun q hl hz hn => ?_, h4, h5, fun i c b hc hb ho hi => ?_⟩
  · rw [hq q fun e => ?_]
    · exact h3 q hl hz hn
    · subst e
      rcases ha with g | ⟨i, c, c1, c2, c3⟩
      · exact g (by rw [h2 q hl]; exact hz)
      · by_cases hi : i < N0.length
        · rw [h5 i hi] at c2
          exact hn (List.mem_of_getElem? c2)
        · have := h6 i c q c1 c2 c3 (by omega)
          omega
  · obtain ⟨c', e1, e2⟩ := hT i c hc ho
    exact h6 i c' b e1 hb e2 hi
theorem ck_set_own {T : List ck_C} {i : Nat} {c : ck_C} (hc : ∃ c', T[i]? = some c' ∧ (ck_own c = true → ck_own c' = true)) : ∀ (j : Nat) (d : ck_C), (T.set i c)[j]? = some d → ck_own d = true → ∃ d', T[j]? = some d' ∧ ck_own d' = true := by
  intro j d hd ho
  obtain ⟨c', e1, e2⟩ := hc
  by_cases e : i = j
  · subst e
    rw [List.getElem?_set_self (List.getElem?_eq_some_iff.mp e1).1] at hd
    cases hd
    exact ⟨c', e1, e2 ho⟩
  · rw [List.getElem?_set_ne e] at hd
    exact ⟨d, hd, ho⟩
section CKG
variable {p : Program} {l : Launch} {e : Env} {R : Room} {s : State} {m : MethodId} {args : Array Value} {below : List Frame} {meth : Method} {c : Code} {cells slots : Nat} {Q : State → Prop}
variable {cc : ByteArray} {pc pc2 nL : Nat} {D : va_G} {AC : Nat → ClassId} {S : Nat → Nat} {tab : List ck_D} {L : Heap} {ρ0 : Nat → Int} {G0 : Nat → Nat} {N0 : List Nat} {H0 : Heap}
variable {A : List (Nat × ck_V)} {st : List ck_V} {T : List ck_C} {own : String}
/-- a class's field by its link -/
def ck_lnk (own : String) (idx ci k : Nat) : Prop := ∃ (C : String) (T : u_T) (n : Nat), ck_cl[ci]? = some (C, T, n) ∧ k < n ∧ Cond.fieldLink own idx C (T k).2.1 (T k).2.2.1 ∈ ck_tb
theorem cw_get0 (hexec : p.tables.exec = Jvm.exec) (hb : c.code = cc) (hown : s.vm.findClass own = some m.cls) (hK : va_K D ck_cl (ck_tys AC) s) (hts : ∀ w ∈ ck_tb, w.before args s = true) {H : Heap} {locs : List Loc} {ls : Array Slot} {rest : List Value} {idx ci k a : Nat} {vs : List Value} {v : Value} (hlk : ck_lnk own idx ci k) (hob : ck_ob D ci a H vs) (hv : vs[k]? = some v) (hd : decode cc pc = .ok (.getfield idx, 3))
    (kk : W p l e R s m args below meth c H locs cells slots Q (F0 m (pc + 3) ls (v :: rest))) : W p l e R s m args below meth c H locs cells slots Q (F0 m pc ls (.ref a :: rest)) := by
  obtain ⟨C, T, n, hc, hk, hl⟩ := hlk
  obtain ⟨C', T', hc', hob⟩ := hob
  cases hc.symm.trans hc'
  obtain ⟨w1, w2, w3, w4, w5, w6⟩ := ck_cls hc
  refine va_get (ws := [(a, .inr (ci, vs))]) hexec hb hts w1 hown hK ?_ 0 rfl hc k hk (hts _ hl) (fun x h => by rw [w4 k hk] at h; exact h) hv hd kk
  intro j q hj
  match j, hj with
  | 0, hj => cases hj; exact ⟨_, hc, hob⟩
theorem cw_put0 (hexec : p.tables.exec = Jvm.exec) (hb : c.code = cc) (hown : s.vm.findClass own = some m.cls) (hK : va_K D ck_cl (ck_tys AC) s) (hts : ∀ w ∈ ck_tb, w.before args s = true) {H : Heap} {locs : List Loc} {ls : Array Slot} {rest : List Value} {idx ci k a : Nat} {vs : List Value} {v : Value} (hlk : ck_lnk own idx ci k) (hob : ck_ob D ci a H vs)
    (hfin : ∀ C T n, ck_cl[ci]? = some (C, T, n) → (T k).2.2.2 = false ∨ (own = C ∧ meth.name = "<init>")) (hn : narrow (ck_yy ci k) v = v) (hfit : fits (ck_yy ci k) v = true) (hd : decode cc pc = .ok (.putfield idx, 3))
    (kk : ∀ (H' : Heap) (j : Nat), ck_ob D ci a H' (vs.set k v) → H'.size = H.size → (∀ q, q ≠ a → H'[q]? = H[q]?) → W p l e R s m args below meth c H' (locs ++ [⟨a, j⟩]) cells slots Q (F0 m (pc + 3) ls rest)) : W p l e R s m args below meth c H locs cells slots Q (F0 m pc ls (v :: .ref a :: rest)) := by
  obtain ⟨C, T, n, hc, hk, hl⟩ := hlk
  obtain ⟨C', T', hc', hob⟩ := hob
  cases hc.symm.trans hc'
  obtain ⟨w1, w2, w3, w4, w5, w6⟩ := ck_cls hc
  have hap := va_apart (own := own) hts w1 (ck_yy ci) w2 w3 hK hc
  obtain ⟨cell, q1, q2, q3, q4⟩ := hob
  obtain ⟨hS, hfc, kC, hkC, hkind⟩ := hK.1 ci _ hc
  obtain ⟨cf, kf, fi, f, hi, hsl⟩ := hS k hk
  have hlay := hts _ (w1 _ (u_in_lay hk))
  have hst := (u_facts hfc hkC (u_lays hts w1 hk) hi).1
  have hi' : s.fieldFound? C (T k).2.1 (T k).2.2.1 = some (cf, kf, fi, f) := by have := hi; rw [w4 k hk] at this; exact this
  have out : ∀ H' : Heap, H'[a]? = some (cell.setSlot f.slot v) → H'.size = H.size → (∀ q, q ≠ a → H'[q]? = H[q]?) → W p l e R s m args below meth c H' (locs ++ [⟨a, f.slot⟩]) cells slots Q (F0 m (pc + 3) ls rest) := by
    intro H' e1 e2 e3
    rw [hsl] at e1
    exact kk H' f.slot ⟨C, T, by rw [List.length_set]; exact hc, by rw [List.length_set]; exact t_OB.to (V := updV (vp_V vs) k v) ⟨_, e1, q2, q3, t_set q4 hap hk v⟩ (fun j _ => vp_updV_set hk v j)⟩ e2 e3
  rcases hfin C T _ hc with hnf | ⟨ho, hin⟩
  · unfold u_lay at hlay
    rw [if_neg (by rw [hnf]; decide)] at hlay
    have h6 := u_store hfc hkC hkind hlay hi (w2 k hk) hn hfit
    exact W.putK hexec hb (f := f) ⟨hown, hts _ hl, ⟨_, _, _, hi'⟩, hst⟩ (by rw [q2]; exact h6) q1 q3 (by rw [hsl]; exact k2_hasslot (q4 k hk)) rfl rfl hd out
  · by_cases hnf : (T k).2.2.2 = true
    · unfold u_lay at hlay
      rw [if_pos hnf] at hlay
      have hcf : m.cls = cf := by
        obtain ⟨_, _, c', _, _, _, -, -, hf', -, -, -, hown2, -⟩ := Cond.laysFinal_spec hlay
        have e1 : c' = cf := by have := hi.symm.trans hf'; simp at this; exact this.1.symm
        rw [w4 k hk, ← ho] at hown2
        rw [← e1]; exact Option.some.inj (hown.symm.trans hown2)
      have h6 := u_fits hfc hkC hkind (Or.inr hlay) hi (w2 k hk) hn hfit
      exact W.putFinK hexec hb hown (hts _ hl) hi' hst hcf hin (by rw [q2]; exact h6) q1 q3 (by rw [hsl]; exact k2_hasslot (q4 k hk)) rfl rfl hd out
    · have hnf : (T k).2.2.2 = false := by simpa using hnf
      unfold u_lay at hlay
      rw [if_neg (by rw [hnf]; decide)] at hlay
      have h6 := u_store hfc hkC hkind hlay hi (w2 k hk) hn hfit
      exact W.putK hexec hb (f := f) ⟨hown, hts _ hl, ⟨_, _, _, hi'⟩, hst⟩ (by rw [q2]; exact h6) q1 q3 (by rw [hsl]; exact k2_hasslot (q4 k hk)) rfl rfl hd out
/-- of a named object -/
theorem cw_getNm (hexec : p.tables.exec = Jvm.exec) (hb : c.code = cc) (hown : s.vm.findClass own = some m.cls) (hK : va_K D ck_cl (ck_tys AC) s) (hts : ∀ w ∈ ck_tb, w.before args s = true) {idx ci k i : Nat} {fs : List ck_V} {v : ck_V} {h : Nat × Nat} (hh : h = (0, ci) ∨ ∃ τ ks, h = (3, τ) ∧ tab[τ]? = some (.inr (ci, ks))) (hlk : ck_lnk own idx ci k) (hi : T[i]? = some (h, fs)) (hv : fs[k]? = some v) (hd : decode cc pc = .ok (.getfield idx, 3))
    (kk : ck_W p l e R s m args below meth c Q D AC S tab L nL ρ0 G0 N0 H0 (pc + 3) (A, v :: st, T) cells slots) : ck_W p l e R s m args below meth c Q D AC S tab L nL ρ0 G0 N0 H0 pc (A, .inr (.inr (1, i)) :: st, T) cells slots := by
  intro H ls vs locs h
  obtain ⟨ρ, G, N, lv, h1, h2, h3, h4, h5, h6, h7⟩ := h
  obtain ⟨_, vs', rfl, ⟨a, ha, rfl⟩, g2⟩ := h3.uncons
  have ht := h4.2.2.1 i _ a hi ha
  have key : ∃ ws : List Value, ck_ob D ci a H ws ∧ ck_all (ck_R S ρ G N) fs ws := by
    unfold ck_tc at ht
    rcases hh with rfl | ⟨τ, ks, rfl, hτ⟩
    · obtain ⟨-, -, ws, z1, z2⟩ := ht
      exact ⟨ws, z1, z2⟩
    · obtain ⟨-, -, ci', ks', ws, z0, z1, z2⟩ := ht
      cases hτ.symm.trans z0
      exact ⟨ws, z1, z2⟩
  obtain ⟨ws, z1, z2⟩ := key
  obtain ⟨w, y1, y2⟩ := z2.get hv
  exact cw_get0 hexec hb hown hK hts hlk z1 y1 hd (kk H ls _ locs ⟨ρ, G, N, lv, h1, h2, ck_all.cons y2 g2, h4, h5, h6, h7⟩)
/-- of a typed object -/
theorem cw_getTy (hexec : p.tables.exec = Jvm.exec) (hb : c.code = cc) (hown : s.vm.findClass own = some m.cls) (hK : va_K D ck_cl (ck_tys AC) s) (hts : ∀ w ∈ ck_tb, w.before args s = true) {idx ci k τ : Nat} {ks : List ck_V} {v : ck_V} (hτ : tab[τ]? = some (.inr (ci, ks))) (hlk : ck_lnk own idx ci k) (hv : ks[k]? = some v) (hp : ck_plain v = true) (hd : decode cc pc = .ok (.getfield idx, 3))
    (kk : ck_W p l e R s m args below meth c Q D AC S tab L nL ρ0 G0 N0 H0 (pc + 3) (A, v :: st, T) cells slots) : ck_W p l e R s m args below meth c Q D AC S tab L nL ρ0 G0 N0 H0 pc (A, .inr (.inr (2, τ)) :: st, T) cells slots := by
  intro H ls vs locs h
  obtain ⟨ρ, G, N, lv, h1, h2, h3, h4, h5, h6, h7⟩ := h
  obtain ⟨_, vs', rfl, ⟨a, rfl, ha, hz⟩, g2⟩ := h3.uncons
  have ht := (h4.1.2.2 a (by rw [ha]; exact hz)).2
  rw [ha] at ht
  unfold ck_ty at ht
  rw [hτ] at ht
  obtain ⟨ws, z1, z2⟩ := ht
  obtain ⟨w, y1, y2⟩ := z2.get hv
  exact cw_get0 hexec hb hown hK hts hlk z1 y1 hd (kk H ls _ locs ⟨ρ, G, N, lv, h1, h2, ck_all.cons (y2.plain hp) g2, h4, h5, h6, h7⟩)
/-- into an object of one's own -/
theorem cw_putOwn (hexec : p.tables.exec = Jvm.exec) (hb : c.code = cc) (hown : s.vm.findClass own = some m.cls) (hK : va_K D ck_cl (ck_tys AC) s) (hts : ∀ w ∈ ck_tb, w.before args s = true) {idx ci k i : Nat} {fs : List ck_V} {v : ck_V} (hlk : ck_lnk own idx ci k) (hi : T[i]? = some ((0, ci), fs))
    (hfin : ∀ C T n, ck_cl[ci]? = some (C, T, n) → (T k).2.2.2 = false ∨ (own = C ∧ meth.name = "<init>")) (hf : ck_fit (ck_yy ci k) v = true) (hd : decode cc pc = .ok (.putfield idx, 3))
    (kk : ck_W p l e R s m args below meth c Q D AC S tab L nL ρ0 G0 N0 H0 (pc + 3) (A, st, T.set i ((0, ci), fs.set k v)) cells slots) : ck_W p l e R s m args below meth c Q D AC S tab L nL ρ0 G0 N0 H0 pc (A, v :: .inr (.inr (1, i)) :: st, T) cells slots := by
  intro H ls vs locs h
  obtain ⟨ρ, G, N, lv, h1, h2, h3, h4, h5, h6, h7⟩ := h
  obtain ⟨w, vs', rfl, hw, g2⟩ := h3.uncons
  obtain ⟨_, vs'', rfl, ⟨a, ha, rfl⟩, g3⟩ := g2.uncons
  obtain ⟨f1, f2⟩ := ck_fit_ok hf hw
  have ht := h4.2.2.1 i _ a hi ha
  obtain ⟨l1, l2, ws, z1, z2⟩ := ht
  refine cw_put0 hexec hb hown hK hts hlk z1 hfin f1 f2 hd fun H' j o1 o2 o3 => kk H' ls vs'' _ ⟨ρ, G, N, lv, h1, h2, g3, ?_, ?_, ?_, h7⟩
  · exact h4.putOwn hi ha rfl rfl o2 o3 ⟨l1, l2, _, o1, z2.set k hw⟩
  · exact h5.put o2 o3 (Or.inr ⟨i, _, hi, ha, rfl⟩) (ck_set_own ⟨_, hi, fun _ => rfl⟩)
  · intro q hq
    rcases List.mem_append.mp hq with z | z
    · exact h6 q z
    · rw [List.mem_singleton.mp z]; exact l1
/-- into a typed object by its name -/
theorem cw_putFoc (hexec : p.tables.exec = Jvm.exec) (hb : c.code = cc) (hown : s.vm.findClass own = some m.cls) (hK : va_K D ck_cl (ck_tys AC) s) (hts : ∀ w ∈ ck_tb, w.before args s = true) {idx ci k i τ : Nat} {fs ks : List ck_V} {v kd : ck_V} (hτ : tab[τ]? = some (.inr (ci, ks))) (hlk : ck_lnk own idx ci k) (hi : T[i]? = some ((3, τ), fs)) (hkd : ks[k]? = some kd) (hle : ck_le v kd = true) (hpl : ck_plain kd = true)
    (hfin : ∀ C T n, ck_cl[ci]? = some (C, T, n) → (T k).2.2.2 = false ∨ (own = C ∧ meth.name = "<init>")) (hf : ck_fit (ck_yy ci k) v = true) (hno : ∀ (j : Nat) (d : ck_C), j ≠ i → T[j]? = some d → d.1.1 = 3 → d.1.2 ≠ τ) (hd : decode cc pc = .ok (.putfield idx, 3))
    (kk : ck_W p l e R s m args below meth c Q D AC S tab L nL ρ0 G0 N0 H0 (pc + 3) (A, st, T.set i ((3, τ), fs.set k v)) cells slots) : ck_W p l e R s m args below meth c Q D AC S tab L nL ρ0 G0 N0 H0 pc (A, v :: .inr (.inr (1, i)) :: st, T) cells slots := by
  intro H ls vs locs h
  obtain ⟨ρ, G, N, lv, h1, h2, h3, h4, h5, h6, h7⟩ := h
  obtain ⟨w, vs', rfl, hw, g2⟩ := h3.uncons
  obtain ⟨_, vs'', rfl, ⟨a, ha, rfl⟩, g3⟩ := g2.uncons
  obtain ⟨f1, f2⟩ := ck_fit_ok hf hw
  obtain ⟨t1, t2, ci', ks', ws, z0, z1, z2⟩ := h4.2.2.1 i _ a hi ha
  cases hτ.symm.trans z0
  have hG : G a ≠ 0 := by rw [t1]; exact t2
  have hty := h4.1.2.2 a hG
  rw [t1] at hty
  obtain ⟨l1, hty⟩ := hty
  unfold ck_ty at hty
  rw [hτ] at hty
  obtain ⟨ws', y1, y2⟩ := hty
  have ews : ws' = ws := by
    obtain ⟨_, _, b1, cl1, b2, b3, b4, b5⟩ := y1
    obtain ⟨_, _, e1, cl2, e2, e3, e4, e5⟩ := z1
    cases b2.symm.trans e2
    have hl : ws'.length = ws.length := by have := b1.symm.trans e1; simp at this; exact this.2.2
    apply List.ext_getElem? fun j => ?_
    by_cases hj : j < ws.length
    · have x1 := b5 j (by omega)
      have x2 := e5 j hj
      rw [x1] at x2
      have : vp_V ws' j = vp_V ws j := Option.some.inj x2
      unfold vp_V at this
      rw [List.getD_eq_getElem?_getD, List.getD_eq_getElem?_getD, List.getElem?_eq_getElem (by omega), List.getElem?_eq_getElem hj] at this
      rw [List.getElem?_eq_getElem (by omega), List.getElem?_eq_getElem hj]
      exact congrArg some (by simpa using this)
    · rw [List.getElem?_eq_none (by omega), List.getElem?_eq_none (by omega)]
  subst ews
  refine cw_put0 hexec hb hown hK hts hlk z1 hfin f1 f2 hd fun H' j o1 o2 o3 => kk H' ls vs'' _ ⟨ρ, G, N, lv, h1, h2, g3, ?_, ?_, ?_, h7⟩
  · refine h4.putFoc hi ha o2 o3 ?_ ⟨t1, t2, ci, ks, _, hτ, o1, z2.set k hw⟩ hno
    unfold ck_ty
    rw [hτ]
    have := y2.set k (hw.le hle |>.plain hpl)
    have e : ks.set k kd = ks := by
      apply List.ext_getElem? fun j => ?_
      by_cases ej : k = j
      · subst ej
        rw [List.getElem?_set_self (List.getElem?_eq_some_iff.mp hkd).1, hkd]
      · rw [List.getElem?_set_ne ej]
    rw [e] at this
    exact ⟨_, o1, this⟩
  · exact h5.put o2 o3 (Or.inl hG) (ck_set_own ⟨_, hi, fun h => by cases h⟩)
  · intro q hq
    rcases List.mem_append.mp hq with z | z
    · exact h6 q z
    · rw [List.mem_singleton.mp z]; exact l1
/-- into a typed object -/
theorem cw_putTy (hexec : p.tables.exec = Jvm.exec) (hb : c.code = cc) (hown : s.vm.findClass own = some m.cls) (hK : va_K D ck_cl (ck_tys AC) s) (hts : ∀ w ∈ ck_tb, w.before args s = true) {idx ci k τ : Nat} {ks : List ck_V} {v kd : ck_V} (hτ : tab[τ]? = some (.inr (ci, ks))) (hlk : ck_lnk own idx ci k) (hkd : ks[k]? = some kd) (hle : ck_le v kd = true) (hpl : ck_plain kd = true)
    (hfin : ∀ C T n, ck_cl[ci]? = some (C, T, n) → (T k).2.2.2 = false ∨ (own = C ∧ meth.name = "<init>")) (hf : ck_fit (ck_yy ci k) v = true) (hno : ∀ (j : Nat) (d : ck_C), T[j]? = some d → d.1.1 = 3 → d.1.2 ≠ τ) (hd : decode cc pc = .ok (.putfield idx, 3))
    (kk : ck_W p l e R s m args below meth c Q D AC S tab L nL ρ0 G0 N0 H0 (pc + 3) (A, st, T) cells slots) : ck_W p l e R s m args below meth c Q D AC S tab L nL ρ0 G0 N0 H0 pc (A, v :: .inr (.inr (2, τ)) :: st, T) cells slots := by
  intro H ls vs locs h
  obtain ⟨ρ, G, N, lv, h1, h2, h3, h4, h5, h6, h7⟩ := h
  obtain ⟨w, vs', rfl, hw, g2⟩ := h3.uncons
  obtain ⟨_, vs'', rfl, ⟨a, rfl, ha, hz⟩, g3⟩ := g2.uncons
  obtain ⟨f1, f2⟩ := ck_fit_ok hf hw
  have hG : G a ≠ 0 := by rw [ha]; exact hz
  have hty := h4.1.2.2 a hG
  rw [ha] at hty
  obtain ⟨l1, hty⟩ := hty
  unfold ck_ty at hty
  rw [hτ] at hty
  obtain ⟨ws, y1, y2⟩ := hty
  refine cw_put0 hexec hb hown hK hts hlk y1 hfin f1 f2 hd fun H' j o1 o2 o3 => kk H' ls vs'' _ ⟨ρ, G, N, lv, h1, h2, g3, ?_, ?_, ?_, h7⟩
  · refine h4.putTy hG o2 o3 ?_ (fun i d hi h3 hN => ?_)
    · rw [ha]
      unfold ck_ty
      rw [hτ]
      have := y2.set k (hw.le hle |>.plain hpl)
      have e : ks.set k kd = ks := by
        apply List.ext_getElem? fun j => ?_
        by_cases ej : k = j
        · subst ej
          rw [List.getElem?_set_self (List.getElem?_eq_some_iff.mp hkd).1, hkd]
        · rw [List.getElem?_set_ne ej]
      rw [e] at this
      exact ⟨_, o1, this⟩
    · have := h4.2.2.1 i d a hi hN
      have hne := hno i d hi h3
      unfold ck_tc at this
      obtain ⟨⟨q1, q2⟩, fs⟩ := d
      dsimp only at h3 hne
      subst h3
      exact hne (this.1.symm.trans ha)
  · exact h5.put o2 o3 (Or.inl hG) (fun i c hi ho => ⟨c, hi, ho⟩)
  · intro q hq
    rcases List.mem_append.mp hq with z | z
    · exact h6 q z
    · rw [List.mem_singleton.mp z]; exact l1
end CKG
end
section
/-! ===== arrays: loads, stores, lengths ===== -/
/-- the kind that all places from lo to hi have -/
def ck_rd : List (Nat × ck_V) → Nat → Nat → Option ck_V
  | [], _, _ => none
  | (n, k) :: t, lo, hi => if hi < n then some k else if n ≤ lo then ck_rd t lo hi else none
theorem ck_rd_ok : ∀ {sg : List (Nat × ck_V)} {lo hi : Nat} {k : ck_V}, ck_rd sg lo hi = some k → ∀ j, lo ≤ j → j ≤ hi → ck_kat sg j = k
  | [], _, _, _, h => by cases h
  | (n, k0) :: t, lo, hi, k, h => by
    intro j h1 h2
    unfold ck_rd at h
    unfold ck_kat
    split at h
    · cases h
      rw [if_pos (by omega)]
    · split at h
      · rw [if_neg (by omega)]
        exact ck_rd_ok h j h1 h2
      · cases h
theorem ck_idx {ρ : Nat → Int} {q : ck_Q} {i : Int32} {n : Nat} (h : ck_in ρ q i) (h0 : 0 ≤ q.1) (hn : q.2.1 < (n : Int)) : ∃ j : Nat, i.toInt = (j : Int) ∧ i.toNatClampNeg = j ∧ j < n ∧ q.1 ≤ j ∧ (j : Int) ≤ q.2.1 ∧ vp_in i n := by
  obtain ⟨a, b, -⟩ := h
  refine ⟨i.toInt.toNat, by omega, rfl, by omega, by omega, by omega, vp_in_iff.mpr (by omega)⟩
theorem ck_arrK {AC : Nat → ClassId} {D : va_G} {s : State} (hK : va_K D ck_cl (ck_tys AC) s) {ac : Nat} {ty : FieldType} (h : (ck_tys AC)[ac]? = some (AC ac, ty)) (n : Nat) (f : Nat → Value) : s.isArrayOf (arrV (AC ac) n f) ty := (hK.2 ac _ h).1 n f
def ck_tyK (ac : Nat) : Option FieldType := match ac with
  | 0 => some .int | 1 => some .long | 2 => some .boolean | 3 => some (.object "RatchetDesk$Secret") | 4 => some (.object "RatchetDesk$Person") | 5 => some (.object "RatchetDesk$End") | 6 => some (.object "RatchetDesk$Letter") | 7 => some (.array .int) | _ => none
theorem ck_tyK_ok {AC : Nat → ClassId} {ac : Nat} {ty : FieldType} (h : ck_tyK ac = some ty) : (ck_tys AC)[ac]? = some (AC ac, ty) := by
  match ac, h with
  | 0, h => cases h; rfl
  | 1, h => cases h; rfl
  | 2, h => cases h; rfl
  | 3, h => cases h; rfl
  | 4, h => cases h; rfl
  | 5, h => cases h; rfl
  | 6, h => cases h; rfl
  | 7, h => cases h; rfl
  | n + 8, h => cases h
/-- the load that belongs to an array's class -/
def ck_ldi (ac : Nat) : Instr := if ac == 0 then .iaload else if ac == 1 then .laload else if ac == 2 then .baload else .aaload
section CKR
variable {p : Program} {l : Launch} {e : Env} {R : Room} {s : State} {m : MethodId} {args : Array Value} {below : List Frame} {meth : Method} {c : Code} {cells slots : Nat} {Q : State → Prop}
variable {cc : ByteArray} {pc pc2 nL : Nat} {D : va_G} {AC : Nat → ClassId} {S : Nat → Nat} {tab : List ck_D} {L : Heap} {ρ0 : Nat → Int} {G0 : Nat → Nat} {N0 : List Nat} {H0 : Heap}
variable {A : List (Nat × ck_V)} {st : List ck_V} {T : List ck_C} {own : String}
theorem cw_ld0 (hexec : p.tables.exec = Jvm.exec) (hb : c.code = cc) (hK : va_K D ck_cl (ck_tys AC) s) {H : Heap} {locs : List Loc} {ls : Array Slot} {rest : List Value} {ac n a : Nat} {f : Nat → Value} {i : Int32} {ty : FieldType} (hty : ck_tyK ac = some ty) (hcell : H[a]? = some (arrV (AC ac) n f)) (hin : vp_in i n) (hd : decode cc pc = .ok (ck_ldi ac, 1))
    (kk : W p l e R s m args below meth c H locs cells slots Q (F0 m (pc + 1) ls (f i.toNatClampNeg :: rest))) : W p l e R s m args below meth c H locs cells slots Q (F0 m pc ls (.int i :: .ref a :: rest)) := by
  have hlt : i.toNatClampNeg < n := Nat.not_le.mp fun q => hin (Or.inr q)
  have harr := ck_arrK hK (ck_tyK_ok hty) n f
  have hin' : ¬ (i < 0 ∨ (arrV (AC ac) n f).slots.size ≤ i.toNatClampNeg) := by rw [arrV_size]; exact hin
  have hv : (arrV (AC ac) n f).slots[i.toNatClampNeg]? = some (f i.toNatClampNeg) := arrV_read _ _ hlt
  have hkn : (arrV (AC ac) n f).vm ≠ .unknown := fun q => by cases q
  match ac, hty, hd with
  | 0, hty, hd => cases hty; exact W.iald hexec hb hcell harr hkn hin' hv rfl rfl hd kk
  | 1, hty, hd => cases hty; exact W.lald hexec hb hcell harr hkn hin' hv rfl rfl hd kk
  | 2, hty, hd => cases hty; exact W.zald hexec hb hcell harr hkn hin' hv rfl rfl hd kk
  | 3, hty, hd => cases hty; exact W.aald hexec hb hcell harr rfl hkn hin' hv rfl rfl hd kk
  | 4, hty, hd => cases hty; exact W.aald hexec hb hcell harr rfl hkn hin' hv rfl rfl hd kk
  | 5, hty, hd => cases hty; exact W.aald hexec hb hcell harr rfl hkn hin' hv rfl rfl hd kk
  | 6, hty, hd => cases hty; exact W.aald hexec hb hcell harr rfl hkn hin' hv rfl rfl hd kk
  | 7, hty, hd => cases hty; exact W.aald hexec hb hcell harr rfl hkn hin' hv rfl rfl hd kk
  | n + 8, hty, _ => cases hty
/-- from a typed array -/
theorem cw_ldTy (hexec : p.tables.exec = Jvm.exec) (hb : c.code = cc) (hK : va_K D ck_cl (ck_tys AC) s) {τ ac n : Nat} {sg : List (Nat × ck_V)} {q : ck_Q} {k : ck_V} {ty : FieldType} (hτ : tab[τ]? = some (.inl (ac, n, sg))) (hty : ck_tyK ac = some ty) (h0 : 0 ≤ q.1) (hn : q.2.1 < (n : Int)) (hk : ck_rd sg q.1.toNat q.2.1.toNat = some k) (hp : ck_plain k = true) (hd : decode cc pc = .ok (ck_ldi ac, 1))
    (kk : ck_W p l e R s m args below meth c Q D AC S tab L nL ρ0 G0 N0 H0 (pc + 1) (A, k :: st, T) cells slots) : ck_W p l e R s m args below meth c Q D AC S tab L nL ρ0 G0 N0 H0 pc (A, .inl q :: .inr (.inr (2, τ)) :: st, T) cells slots := by
  intro H ls vs locs h
  obtain ⟨ρ, G, N, lv, h1, h2, h3, h4, h5, h6, h7⟩ := h
  obtain ⟨_, vs', rfl, ⟨i, rfl, gi⟩, g2⟩ := h3.uncons
  obtain ⟨_, vs'', rfl, ⟨a, rfl, ha, hz⟩, g3⟩ := g2.uncons
  obtain ⟨j, j1, j2, j3, j4, j5, j6⟩ := ck_idx gi h0 hn
  have ht := (h4.1.2.2 a (by rw [ha]; exact hz)).2
  rw [ha] at ht
  unfold ck_ty at ht
  rw [hτ] at ht
  obtain ⟨f, z1, z2⟩ := ht
  have y := z2 j j3
  rw [ck_rd_ok hk j (by omega) (by omega)] at y
  refine cw_ld0 hexec hb hK hty z1 j6 hd (kk H ls _ locs ⟨ρ, G, N, lv, h1, h2, ck_all.cons ?_ g3, h4, h5, h6, h7⟩)
  rw [j2]
  exact y.plain hp
/-- from an array of one's own, at a known place -/
theorem cw_ldOwn (hexec : p.tables.exec = Jvm.exec) (hb : c.code = cc) (hK : va_K D ck_cl (ck_tys AC) s) {i ac j : Nat} {es : List ck_V} {q : ck_Q} {k : ck_V} {ty : FieldType} (hi : T[i]? = some ((1, ac), es)) (hty : ck_tyK ac = some ty) (h0 : q.1 = (j : Int)) (hn : q.2.1 = (j : Int)) (hk : es[j]? = some k) (hd : decode cc pc = .ok (ck_ldi ac, 1))
    (kk : ck_W p l e R s m args below meth c Q D AC S tab L nL ρ0 G0 N0 H0 (pc + 1) (A, k :: st, T) cells slots) : ck_W p l e R s m args below meth c Q D AC S tab L nL ρ0 G0 N0 H0 pc (A, .inl q :: .inr (.inr (1, i)) :: st, T) cells slots := by
  intro H ls vs locs h
  obtain ⟨ρ, G, N, lv, h1, h2, h3, h4, h5, h6, h7⟩ := h
  obtain ⟨_, vs', rfl, ⟨x, rfl, gi⟩, g2⟩ := h3.uncons
  obtain ⟨_, vs'', rfl, ⟨a, ha, rfl⟩, g3⟩ := g2.uncons
  have hjl : j < es.length := (List.getElem?_eq_some_iff.mp hk).1
  obtain ⟨j', j1, j2, j3, j4, j5, j6⟩ := ck_idx (n := es.length) gi (by omega) (by omega)
  have ej : j' = j := by omega
  subst ej
  obtain ⟨l1, l2, f, z1, z2⟩ := h4.2.2.1 i _ a hi ha
  refine cw_ld0 hexec hb hK hty z1 j6 hd (kk H ls _ locs ⟨ρ, G, N, lv, h1, h2, ck_all.cons ?_ g3, h4, h5, h6, h7⟩)
  rw [j2]
  exact z2 j' k hk
/-- a static array of ints -/
def ck_sta (S : Nat → Nat) (L : Heap) (s : State) (j n : Nat) : Prop := ∃ cell : Cell, L[S j]? = some cell ∧ S j < L.size ∧ s.isArrayOf cell .int ∧ cell.vm ≠ .unknown ∧ cell.slots.size = n ∧ ∀ k, k < n → ∃ x : Int32, cell.slots[k]? = some (.int x)
theorem cw_ldSt (hexec : p.tables.exec = Jvm.exec) (hb : c.code = cc) {j n : Nat} {q : ck_Q} (hs : ck_sta S L s j n) (h0 : 0 ≤ q.1) (hn : q.2.1 < (n : Int)) (hd : decode cc pc = .ok (.iaload, 1))
    (kk : ck_W p l e R s m args below meth c Q D AC S tab L nL ρ0 G0 N0 H0 (pc + 1) (A, ck_full :: st, T) cells slots) : ck_W p l e R s m args below meth c Q D AC S tab L nL ρ0 G0 N0 H0 pc (A, .inl q :: .inr (.inr (3, j)) :: st, T) cells slots := by
  intro H ls vs locs h
  obtain ⟨ρ, G, N, lv, h1, h2, h3, h4, h5, h6, h7⟩ := h
  obtain ⟨_, vs', rfl, ⟨i, rfl, gi⟩, g2⟩ := h3.uncons
  obtain ⟨_, vs'', rfl, rfl, g3⟩ := g2.uncons
  obtain ⟨j', j1, j2, j3, j4, j5, j6⟩ := ck_idx gi h0 hn
  obtain ⟨cell, c1, c2, c3, c4, c5, c6⟩ := hs
  obtain ⟨x, hx⟩ := c6 j' j3
  refine W.iald hexec hb (v := .int x) (by rw [h4.1.2.1 _ c2]; exact c1) c3 c4 (by rw [c5]; exact j6) (by rw [j2]; exact hx) rfl rfl hd (kk H ls _ locs ⟨ρ, G, N, lv, h1, h2, ck_all.cons ?_ g3, h4, h5, h6, h7⟩)
  exact ⟨x, rfl, (ck_i32 x).1, (ck_i32 x).2, fun g c q => by cases q⟩
/-- a static array by its name, at a known place -/
theorem cw_ldSn (hexec : p.tables.exec = Jvm.exec) (hb : c.code = cc) {i j n k : Nat} {es : List ck_V} {q : ck_Q} {v : ck_V} (hs : ck_sta S L s j n) (hi : T[i]? = some ((5, j), es)) (h0 : q.1 = (k : Int)) (hn : q.2.1 = (k : Int)) (hk : es[k]? = some v) (hkn : k < n) (hd : decode cc pc = .ok (.iaload, 1))
    (kk : ck_W p l e R s m args below meth c Q D AC S tab L nL ρ0 G0 N0 H0 (pc + 1) (A, v :: st, T) cells slots) : ck_W p l e R s m args below meth c Q D AC S tab L nL ρ0 G0 N0 H0 pc (A, .inl q :: .inr (.inr (1, i)) :: st, T) cells slots := by
  intro H ls vs locs h
  obtain ⟨ρ, G, N, lv, h1, h2, h3, h4, h5, h6, h7⟩ := h
  obtain ⟨_, vs', rfl, ⟨x, rfl, gi⟩, g2⟩ := h3.uncons
  obtain ⟨_, vs'', rfl, ⟨a, ha, rfl⟩, g3⟩ := g2.uncons
  obtain ⟨j', j1, j2, j3, j4, j5, j6⟩ := ck_idx (n := n) gi (by omega) (by omega)
  have ej : j' = k := by omega
  subst ej
  obtain ⟨e0, cell', z1, z2, z3⟩ := h4.2.2.1 i _ a hi ha
  subst e0
  obtain ⟨cell, c1, c2, c3, c4, c5, c6⟩ := hs
  cases c1.symm.trans z1
  obtain ⟨w, y1, y2⟩ := z3 j' v hk
  exact W.iald hexec hb (v := w) (by rw [h4.1.2.1 _ c2]; exact c1) c3 c4 (by rw [c5]; exact j6) (by rw [j2]; exact y1) rfl rfl hd (kk H ls _ locs ⟨ρ, G, N, lv, h1, h2, ck_all.cons y2 g3, h4, h5, h6, h7⟩)
/-! lengths -/
theorem cw_len0 (hexec : p.tables.exec = Jvm.exec) (hb : c.code = cc) {H : Heap} {locs : List Loc} {ls : Array Slot} {rest : List Value} {n a : Nat} {cell : Cell} {ty : FieldType} (hcell : H[a]? = some cell) (harr : s.isArrayOf cell ty) (hkn : cell.vm ≠ .unknown) (hsz : cell.slots.size = n) (hd : decode cc pc = .ok (.arraylength, 1))
    (kk : W p l e R s m args below meth c H locs cells slots Q (F0 m (pc + 1) ls (.int (nI n) :: rest))) : W p l e R s m args below meth c H locs cells slots Q (F0 m pc ls (.ref a :: rest)) :=
  W.alen (n := nI n) hexec hb hcell harr (by rw [hsz]; rfl) rfl rfl hd kk
theorem cw_lenTy (hexec : p.tables.exec = Jvm.exec) (hb : c.code = cc) (hK : va_K D ck_cl (ck_tys AC) s) {τ ac n : Nat} {sg : List (Nat × ck_V)} {ty : FieldType} (hτ : tab[τ]? = some (.inl (ac, n, sg))) (hty : ck_tyK ac = some ty) (hn : n < 2147483648) (hd : decode cc pc = .ok (.arraylength, 1))
    (kk : ck_W p l e R s m args below meth c Q D AC S tab L nL ρ0 G0 N0 H0 (pc + 1) (A, .inl ((n : Int), (n : Int), none) :: st, T) cells slots) : ck_W p l e R s m args below meth c Q D AC S tab L nL ρ0 G0 N0 H0 pc (A, .inr (.inr (2, τ)) :: st, T) cells slots := by
  intro H ls vs locs h
  obtain ⟨ρ, G, N, lv, h1, h2, h3, h4, h5, h6, h7⟩ := h
  obtain ⟨_, vs', rfl, ⟨a, rfl, ha, hz⟩, g2⟩ := h3.uncons
  have ht := (h4.1.2.2 a (by rw [ha]; exact hz)).2
  rw [ha] at ht
  unfold ck_ty at ht
  rw [hτ] at ht
  obtain ⟨f, z1, z2⟩ := ht
  have e := nI_toInt (n := n) hn
  exact cw_len0 hexec hb z1 (ck_arrK hK (ck_tyK_ok hty) n f) (fun q => by cases q) (arrV_size _ _ _) hd (kk H ls _ locs ⟨ρ, G, N, lv, h1, h2, ck_all.cons ⟨_, rfl, by rw [e]; exact Int.le_refl _, by rw [e]; exact Int.le_refl _, fun g c q => by cases q⟩ g2, h4, h5, h6, h7⟩)
theorem cw_lenSn (hexec : p.tables.exec = Jvm.exec) (hb : c.code = cc) {i j n : Nat} {es : List ck_V} (hs : ck_sta S L s j n) (hi : T[i]? = some ((5, j), es)) (hn : n < 2147483648) (hd : decode cc pc = .ok (.arraylength, 1))
    (kk : ck_W p l e R s m args below meth c Q D AC S tab L nL ρ0 G0 N0 H0 (pc + 1) (A, .inl ((n : Int), (n : Int), none) :: st, T) cells slots) : ck_W p l e R s m args below meth c Q D AC S tab L nL ρ0 G0 N0 H0 pc (A, .inr (.inr (1, i)) :: st, T) cells slots := by
  intro H ls vs locs h
  obtain ⟨ρ, G, N, lv, h1, h2, h3, h4, h5, h6, h7⟩ := h
  obtain ⟨_, vs', rfl, ⟨a, ha, rfl⟩, g2⟩ := h3.uncons
  obtain ⟨e0, -⟩ := h4.2.2.1 i _ a hi ha
  subst e0
  obtain ⟨cell, c1, c2, c3, c4, c5, c6⟩ := hs
  have e := nI_toInt (n := n) hn
  exact cw_len0 hexec hb (by rw [h4.1.2.1 _ c2]; exact c1) c3 c4 c5 hd (kk H ls _ locs ⟨ρ, G, N, lv, h1, h2, ck_all.cons ⟨_, rfl, by rw [e]; exact Int.le_refl _, by rw [e]; exact Int.le_refl _, fun g c q => by cases q⟩ g2, h4, h5, h6, h7⟩)
/-! stores -/
def ck_sti (ac : Nat) : Instr := if ac == 0 then .iastore else if ac == 1 then .lastore else if ac == 2 then .bastore else .aastore
/-- a value that fits an array of primitives -/
def ck_prim (ac : Nat) (v : ck_V) : Bool := match ac, v with
  | 0, .inl _ => true
  | 1, .inr (.inl _) => true
  | 2, .inl (lo, hi, _) => decide (0 ≤ lo) && decide (hi ≤ 1)
  | _, _ => false
theorem cw_sp0 (hexec : p.tables.exec = Jvm.exec) (hb : c.code = cc) (hK : va_K D ck_cl (ck_tys AC) s) {ρ : Nat → Int} {G : Nat → Nat} {N : List Nat} {H : Heap} {locs : List Loc} {ls : Array Slot} {rest : List Value} {ac n a : Nat} {f : Nat → Value} {i : Int32} {v : ck_V} {w : Value} (hp : ck_prim ac v = true) (hw : ck_R S ρ G N v w) (hcell : H[a]? = some (arrV (AC ac) n f)) (hin : vp_in i n) (hd : decode cc pc = .ok (ck_sti ac, 1))
    (kk : ∀ (H' : Heap) (j : Nat), H'[a]? = some (arrV (AC ac) n (updV f i.toNatClampNeg w)) → H'.size = H.size → (∀ q, q ≠ a → H'[q]? = H[q]?) → W p l e R s m args below meth c H' (locs ++ [⟨a, j⟩]) cells slots Q (F0 m (pc + 1) ls rest)) : W p l e R s m args below meth c H locs cells slots Q (F0 m pc ls (w :: .int i :: .ref a :: rest)) := by
  have hin' : ¬ (i < 0 ∨ (arrV (AC ac) n f).slots.size ≤ i.toNatClampNeg) := by rw [arrV_size]; exact hin
  have hkn : (arrV (AC ac) n f).vm ≠ .unknown := fun q => by cases q
  match ac, v, hp, hw, hd with
  | 0, .inl q, _, hw, hd =>
    obtain ⟨x, rfl, -⟩ := hw
    exact W.iast hexec hb hcell (ck_arrK hK (ac := 0) rfl n f) hkn hin' rfl rfl hd fun H' e1 e2 e3 => kk H' _ (by rw [e1, arrV_store]) e2 e3
  | 1, .inr (.inl q), _, hw, hd =>
    obtain ⟨x, rfl, -⟩ := hw
    exact W.last hexec hb hcell (ck_arrK hK (ac := 1) rfl n f) hkn hin' rfl rfl hd fun H' e1 e2 e3 => kk H' _ (by rw [e1, arrV_store]) e2 e3
  | 2, .inl (lo, hi, t), hp, hw, hd =>
    obtain ⟨h1, h2⟩ := ck_fit_ok (ty := .boolean) (k := .inl (lo, hi, t)) hp hw
    obtain ⟨x, rfl, -⟩ := hw
    exact W.zast hexec hb hcell (ck_arrK hK (ac := 2) rfl n f) hkn hin' rfl rfl hd fun H' e1 e2 e3 => kk H' _ (by rw [e1, h1, arrV_store]) e2 e3
/-- a primitive into a typed array -/
theorem cw_spTy (hexec : p.tables.exec = Jvm.exec) (hb : c.code = cc) (hK : va_K D ck_cl (ck_tys AC) s) {τ ac n : Nat} {sg : List (Nat × ck_V)} {q : ck_Q} {v k : ck_V} (hτ : tab[τ]? = some (.inl (ac, n, sg))) (h0 : 0 ≤ q.1) (hn : q.2.1 < (n : Int)) (hk : ck_rd sg q.1.toNat q.2.1.toNat = some k) (hle : ck_le v k = true) (hpl : ck_plain k = true) (hp : ck_prim ac v = true) (hd : decode cc pc = .ok (ck_sti ac, 1))
    (kk : ck_W p l e R s m args below meth c Q D AC S tab L nL ρ0 G0 N0 H0 (pc + 1) (A, st, T) cells slots) : ck_W p l e R s m args below meth c Q D AC S tab L nL ρ0 G0 N0 H0 pc (A, v :: .inl q :: .inr (.inr (2, τ)) :: st, T) cells slots := by
  intro H ls vs locs h
  obtain ⟨ρ, G, N, lv, h1, h2, h3, h4, h5, h6, h7⟩ := h
  obtain ⟨w, vs', rfl, hw, g1⟩ := h3.uncons
  obtain ⟨_, vs'', rfl, ⟨i, rfl, gi⟩, g2⟩ := g1.uncons
  obtain ⟨_, vs3, rfl, ⟨a, rfl, ha, hz⟩, g3⟩ := g2.uncons
  obtain ⟨j, j1, j2, j3, j4, j5, j6⟩ := ck_idx gi h0 hn
  have hG : G a ≠ 0 := by rw [ha]; exact hz
  obtain ⟨l1, ht⟩ := h4.1.2.2 a hG
  rw [ha] at ht
  unfold ck_ty at ht
  rw [hτ] at ht
  obtain ⟨f, z1, z2⟩ := ht
  refine cw_sp0 hexec hb hK hp hw z1 j6 hd fun H' j' o1 o2 o3 => kk H' ls vs3 _ ⟨ρ, G, N, lv, h1, h2, g3, ?_, ?_, ?_, h7⟩
  · refine h4.putTy hG o2 o3 ?_ (fun i' d hi h3 hN => ?_)
    · rw [ha]
      unfold ck_ty
      rw [hτ]
      refine ⟨_, o1, fun j0 hj0 => ?_⟩
      rw [j2]
      unfold updV
      split
      · rename_i e0
        subst e0
        rw [ck_rd_ok hk j0 (by omega) (by omega)]
        exact (hw.le hle).plain hpl
      · exact z2 j0 hj0
    · have := h4.2.2.1 i' d a hi hN
      unfold ck_tc at this
      obtain ⟨⟨q1, q2⟩, fs⟩ := d
      dsimp only at h3
      subst h3
      obtain ⟨e1, e2, ci, ks, vs9, e3, -⟩ := this
      have e4 : q2 = τ := e1.symm.trans ha
      rw [e4, hτ] at e3
      cases e3
  · exact h5.put o2 o3 (Or.inl hG) (fun i c hi ho => ⟨c, hi, ho⟩)
  · intro q hq
    rcases List.mem_append.mp hq with z | z
    · exact h6 q z
    · rw [List.mem_singleton.mp z]; exact l1
/-- a primitive into an array of one's own, at a known place -/
theorem cw_spOwn (hexec : p.tables.exec = Jvm.exec) (hb : c.code = cc) (hK : va_K D ck_cl (ck_tys AC) s) {i ac j : Nat} {es : List ck_V} {q : ck_Q} {v : ck_V} (hi : T[i]? = some ((1, ac), es)) (h0 : q.1 = (j : Int)) (hn : q.2.1 = (j : Int)) (hj : j < es.length) (hp : ck_prim ac v = true) (hd : decode cc pc = .ok (ck_sti ac, 1))
    (kk : ck_W p l e R s m args below meth c Q D AC S tab L nL ρ0 G0 N0 H0 (pc + 1) (A, st, T.set i ((1, ac), es.set j v)) cells slots) : ck_W p l e R s m args below meth c Q D AC S tab L nL ρ0 G0 N0 H0 pc (A, v :: .inl q :: .inr (.inr (1, i)) :: st, T) cells slots := by
  intro H ls vs locs h
  obtain ⟨ρ, G, N, lv, h1, h2, h3, h4, h5, h6, h7⟩ := h
  obtain ⟨w, vs', rfl, hw, g1⟩ := h3.uncons
  obtain ⟨_, vs'', rfl, ⟨x, rfl, gi⟩, g2⟩ := g1.uncons
  obtain ⟨_, vs3, rfl, ⟨a, ha, rfl⟩, g3⟩ := g2.uncons
  obtain ⟨j', j1, j2, j3, j4, j5, j6⟩ := ck_idx (n := es.length) gi (by omega) (by omega)
  have ej : j' = j := by omega
  subst ej
  obtain ⟨l1, l2, f, z1, z2⟩ := h4.2.2.1 i _ a hi ha
  refine cw_sp0 hexec hb hK hp hw z1 j6 hd fun H' j9 o1 o2 o3 => kk H' ls vs3 _ ⟨ρ, G, N, lv, h1, h2, g3, ?_, ?_, ?_, h7⟩
  · refine h4.putOwn hi ha rfl rfl o2 o3 ⟨l1, l2, _, by rw [List.length_set]; exact o1, fun j0 v0 hv0 => ?_⟩
    rw [j2]
    unfold updV
    by_cases e0 : j' = j0
    · subst e0
      simp only [List.getElem?_set_self hj] at hv0
      cases hv0
      rw [if_pos rfl]
      exact hw
    · simp only [List.getElem?_set_ne e0] at hv0
      rw [if_neg (Ne.symm e0)]
      exact z2 j0 v0 hv0
  · exact h5.put o2 o3 (Or.inr ⟨i, _, hi, ha, rfl⟩) (ck_set_own ⟨_, hi, fun _ => rfl⟩)
  · intro q hq
    rcases List.mem_append.mp hq with z | z
    · exact h6 q z
    · rw [List.mem_singleton.mp z]; exact l1
/-! references into arrays of references -/
/-- the class whose objects an array of references holds -/
def ck_comp (ac : Nat) : Option Nat := match ac with
  | 3 => some 1 | 4 => some 9 | 5 => some 6 | 6 => some 10 | _ => none
theorem cw_sr0 (hexec : p.tables.exec = Jvm.exec) (hb : c.code = cc) (hK : va_K D ck_cl (ck_tys AC) s) {H : Heap} {locs : List Loc} {ls : Array Slot} {rest : List Value} {ac ci n a v : Nat} {f : Nat → Value} {i : Int32} {vs : List Value} (hci : ck_comp ac = some ci) (hob : ck_ob D ci v H vs) (hcell : H[a]? = some (arrV (AC ac) n f)) (hin : vp_in i n) (hd : decode cc pc = .ok (.aastore, 1))
    (kk : ∀ (H' : Heap) (j : Nat), H'[a]? = some (arrV (AC ac) n (updV f i.toNatClampNeg (.ref v))) → H'.size = H.size → (∀ q, q ≠ a → H'[q]? = H[q]?) → W p l e R s m args below meth c H' (locs ++ [⟨a, j⟩]) cells slots Q (F0 m (pc + 1) ls rest)) : W p l e R s m args below meth c H locs cells slots Q (F0 m pc ls (.ref v :: .int i :: .ref a :: rest)) := by
  have hlt : i.toNatClampNeg < n := Nat.not_le.mp fun q => hin (Or.inr q)
  have h0 : ¬ i < 0 := fun q => hin (Or.inl q)
  obtain ⟨C, T, hc, cellV, g1, g2, g3, -⟩ := hob
  have hcls := (hK.1 ci _ hc).2
  have hra : ∃ (kA : Class) (comp : ClassId), s.vm.classes[AC ac]? = some kA ∧ kA.kind = .array comp (.object C) ∧ s.vm.findClass C = some comp := by
    match ac, hci with
    | 3, hci => cases hci; have hC : cn_C1 = C := congrArg (fun o : Option vw_C => (o.getD ("", cn_T1, 0)).1) hc; subst hC; obtain ⟨kA, comp, k1, k2, k3, -⟩ := (hK.2 3 _ rfl).2; exact ⟨kA, comp, k1, k2, k3⟩
    | 4, hci => cases hci; have hC : cn_C9 = C := congrArg (fun o : Option vw_C => (o.getD ("", cn_T1, 0)).1) hc; subst hC; obtain ⟨kA, comp, k1, k2, k3, -⟩ := (hK.2 4 _ rfl).2; exact ⟨kA, comp, k1, k2, k3⟩
    | 5, hci => cases hci; have hC : cn_C6 = C := congrArg (fun o : Option vw_C => (o.getD ("", cn_T1, 0)).1) hc; subst hC; obtain ⟨kA, comp, k1, k2, k3, -⟩ := (hK.2 5 _ rfl).2; exact ⟨kA, comp, k1, k2, k3⟩
    | 6, hci => cases hci; have hC : cn_C10 = C := congrArg (fun o : Option vw_C => (o.getD ("", cn_T1, 0)).1) hc; subst hC; obtain ⟨kA, comp, k1, k2, k3, -⟩ := (hK.2 6 _ rfl).2; exact ⟨kA, comp, k1, k2, k3⟩
    | 0, hci => cases hci
    | 1, hci => cases hci
    | 2, hci => cases hci
    | n + 7, hci => cases hci
  obtain ⟨kA, comp, k1, k2, k3⟩ := hra
  have hcomp : comp = D.1 ci := Option.some.inj (k3.symm.trans hcls.1)
  subst hcomp
  obtain ⟨kC, hkC, -⟩ := hcls.2
  exact W.aast hexec hb hcell (fun q h => by cases h) (fun h => by cases h) k1 k2 rfl hkC ⟨h0, by rw [arrV_size]; exact hlt⟩ g1 (fun q h => by rw [g3] at h; cases h) (by rw [g2]; exact hkC) (by rw [g2]; exact va_assign hcls) rfl rfl hd fun H1 e1 e2 e3 => kk H1 _ (by rw [e1, arrV_store]) e2 e3
/-- an object that a reference leads to -/
theorem ck_obj {ρ : Nat → Int} {G : Nat → Nat} {N : List Nat} {H : Heap} (h4 : ck_H D AC S tab L ρ G N T H) {v : ck_V} {w : Value} (hw : ck_R S ρ G N v w) {ci : Nat}
    (hv : (∃ τ ks, v = .inr (.inr (2, τ)) ∧ tab[τ]? = some (.inr (ci, ks))) ∨ (∃ i fs, v = .inr (.inr (1, i)) ∧ T[i]? = some ((0, ci), fs)) ∨ (∃ i τ ks fs, v = .inr (.inr (1, i)) ∧ T[i]? = some ((3, τ), fs) ∧ tab[τ]? = some (.inr (ci, ks)))) : ∃ a vs, w = .ref a ∧ ck_ob D ci a H vs := by
  rcases hv with ⟨τ, ks, rfl, hτ⟩ | ⟨i, fs, rfl, hi⟩ | ⟨i, τ, ks, fs, rfl, hi, hτ⟩
  · obtain ⟨a, rfl, ha, hz⟩ := hw
    have ht := (h4.1.2.2 a (by rw [ha]; exact hz)).2
    rw [ha] at ht
    unfold ck_ty at ht
    rw [hτ] at ht
    obtain ⟨vs, z1, -⟩ := ht
    exact ⟨a, vs, rfl, z1⟩
  · obtain ⟨a, ha, rfl⟩ := hw
    obtain ⟨-, -, vs, z1, -⟩ := h4.2.2.1 i _ a hi ha
    exact ⟨a, vs, rfl, z1⟩
  · obtain ⟨a, ha, rfl⟩ := hw
    obtain ⟨-, -, ci', ks', vs, z0, z1, -⟩ := h4.2.2.1 i _ a hi ha
    cases hτ.symm.trans z0
    exact ⟨a, vs, rfl, z1⟩
/-- a reference into a typed array -/
theorem cw_srTy (hexec : p.tables.exec = Jvm.exec) (hb : c.code = cc) (hK : va_K D ck_cl (ck_tys AC) s) {τ ac n ci : Nat} {sg : List (Nat × ck_V)} {q : ck_Q} {v k : ck_V} (hτ : tab[τ]? = some (.inl (ac, n, sg))) (h0 : 0 ≤ q.1) (hn : q.2.1 < (n : Int)) (hk : ck_rd sg q.1.toNat q.2.1.toNat = some k) (hle : ck_le v k = true) (hpl : ck_plain k = true) (hci : ck_comp ac = some ci)
    (hv : (∃ τ ks, v = .inr (.inr (2, τ)) ∧ tab[τ]? = some (.inr (ci, ks))) ∨ (∃ i fs, v = .inr (.inr (1, i)) ∧ T[i]? = some ((0, ci), fs)) ∨ (∃ i τ ks fs, v = .inr (.inr (1, i)) ∧ T[i]? = some ((3, τ), fs) ∧ tab[τ]? = some (.inr (ci, ks)))) (hd : decode cc pc = .ok (.aastore, 1))
    (kk : ck_W p l e R s m args below meth c Q D AC S tab L nL ρ0 G0 N0 H0 (pc + 1) (A, st, T) cells slots) : ck_W p l e R s m args below meth c Q D AC S tab L nL ρ0 G0 N0 H0 pc (A, v :: .inl q :: .inr (.inr (2, τ)) :: st, T) cells slots := by
  intro H ls vs locs h
  obtain ⟨ρ, G, N, lv, h1, h2, h3, h4, h5, h6, h7⟩ := h
  obtain ⟨w, vs', rfl, hw, g1⟩ := h3.uncons
  obtain ⟨_, vs'', rfl, ⟨i, rfl, gi⟩, g2⟩ := g1.uncons
  obtain ⟨_, vs3, rfl, ⟨a, rfl, ha, hz⟩, g3⟩ := g2.uncons
  obtain ⟨j, j1, j2, j3, j4, j5, j6⟩ := ck_idx gi h0 hn
  obtain ⟨b, ws, rfl, hob⟩ := ck_obj h4 hw hv
  have hG : G a ≠ 0 := by rw [ha]; exact hz
  obtain ⟨l1, ht⟩ := h4.1.2.2 a hG
  rw [ha] at ht
  unfold ck_ty at ht
  rw [hτ] at ht
  obtain ⟨f, z1, z2⟩ := ht
  refine cw_sr0 hexec hb hK hci hob z1 j6 hd fun H' j' o1 o2 o3 => kk H' ls vs3 _ ⟨ρ, G, N, lv, h1, h2, g3, ?_, ?_, ?_, h7⟩
  · refine h4.putTy hG o2 o3 ?_ (fun i' d hi h3 hN => ?_)
    · rw [ha]
      unfold ck_ty
      rw [hτ]
      refine ⟨_, o1, fun j0 hj0 => ?_⟩
      rw [j2]
      unfold updV
      split
      · rename_i e0
        subst e0
        rw [ck_rd_ok hk j0 (by omega) (by omega)]
        exact (hw.le hle).plain hpl
      · exact z2 j0 hj0
    · have := h4.2.2.1 i' d a hi hN
      unfold ck_tc at this
      obtain ⟨⟨q1, q2⟩, fs⟩ := d
      dsimp only at h3
      subst h3
      obtain ⟨e1, e2, ci, ks, vs9, e3, -⟩ := this
      have e4 : q2 = τ := e1.symm.trans ha
      rw [e4, hτ] at e3
      cases e3
  · exact h5.put o2 o3 (Or.inl hG) (fun i c hi ho => ⟨c, hi, ho⟩)
  · intro q hq
    rcases List.mem_append.mp hq with z | z
    · exact h6 q z
    · rw [List.mem_singleton.mp z]; exact l1
/-- a reference into an array of one's own -/
theorem cw_srOwn (hexec : p.tables.exec = Jvm.exec) (hb : c.code = cc) (hK : va_K D ck_cl (ck_tys AC) s) {i ac j ci : Nat} {es : List ck_V} {q : ck_Q} {v : ck_V} (hi : T[i]? = some ((1, ac), es)) (h0 : q.1 = (j : Int)) (hn : q.2.1 = (j : Int)) (hj : j < es.length) (hci : ck_comp ac = some ci)
    (hv : (∃ τ ks, v = .inr (.inr (2, τ)) ∧ tab[τ]? = some (.inr (ci, ks))) ∨ (∃ i fs, v = .inr (.inr (1, i)) ∧ T[i]? = some ((0, ci), fs)) ∨ (∃ i τ ks fs, v = .inr (.inr (1, i)) ∧ T[i]? = some ((3, τ), fs) ∧ tab[τ]? = some (.inr (ci, ks)))) (hd : decode cc pc = .ok (.aastore, 1))
    (kk : ck_W p l e R s m args below meth c Q D AC S tab L nL ρ0 G0 N0 H0 (pc + 1) (A, st, T.set i ((1, ac), es.set j v)) cells slots) : ck_W p l e R s m args below meth c Q D AC S tab L nL ρ0 G0 N0 H0 pc (A, v :: .inl q :: .inr (.inr (1, i)) :: st, T) cells slots := by
  intro H ls vs locs h
  obtain ⟨ρ, G, N, lv, h1, h2, h3, h4, h5, h6, h7⟩ := h
  obtain ⟨w, vs', rfl, hw, g1⟩ := h3.uncons
  obtain ⟨_, vs'', rfl, ⟨x, rfl, gi⟩, g2⟩ := g1.uncons
  obtain ⟨_, vs3, rfl, ⟨a, ha, rfl⟩, g3⟩ := g2.uncons
  obtain ⟨j', j1, j2, j3, j4, j5, j6⟩ := ck_idx (n := es.length) gi (by omega) (by omega)
  have ej : j' = j := by omega
  subst ej
  obtain ⟨b, ws, rfl, hob⟩ := ck_obj h4 hw hv
  obtain ⟨l1, l2, f, z1, z2⟩ := h4.2.2.1 i _ a hi ha
  refine cw_sr0 hexec hb hK hci hob z1 j6 hd fun H' j9 o1 o2 o3 => kk H' ls vs3 _ ⟨ρ, G, N, lv, h1, h2, g3, ?_, ?_, ?_, h7⟩
  · refine h4.putOwn hi ha rfl rfl o2 o3 ⟨l1, l2, _, by rw [List.length_set]; exact o1, fun j0 v0 hv0 => ?_⟩
    rw [j2]
    unfold updV
    by_cases e0 : j' = j0
    · subst e0
      simp only [List.getElem?_set_self hj] at hv0
      cases hv0
      rw [if_pos rfl]
      exact hw
    · simp only [List.getElem?_set_ne e0] at hv0
      rw [if_neg (Ne.symm e0)]
      exact z2 j0 v0 hv0
  · exact h5.put o2 o3 (Or.inr ⟨i, _, hi, ha, rfl⟩) (ck_set_own ⟨_, hi, fun _ => rfl⟩)
  · intro q hq
    rcases List.mem_append.mp hq with z | z
    · exact h6 q z
    · rw [List.mem_singleton.mp z]; exact l1
end CKR
end
section
/-! ===== new cells, System.arraycopy, getstatic ===== -/
def ck_d0 (ac : Nat) : ck_V := if ac == 1 then .inr (.inl (0, 0)) else if ac == 0 || ac == 2 then .inl (0, 0, none) else .inr (.inr (0, 0))
def ck_at (ac : Nat) : Option ArrayType := match ac with
  | 0 => some .int | 1 => some .long | 2 => some .boolean | _ => none
theorem ck_at_ok {ac : Nat} {t : ArrayType} (h : ck_at ac = some t) : ck_tyK ac = some (newarray.typeOf t) ∧ ∀ (S : Nat → Nat) (ρ : Nat → Int) (G : Nat → Nat) (N : List Nat), ck_R S ρ G N (ck_d0 ac) (defaultValue (newarray.typeOf t)) := by
  match ac, h with
  | 0, h => cases h; exact ⟨rfl, fun _ _ _ _ => ⟨0, rfl, by decide, by decide, fun g c q => by cases q⟩⟩
  | 1, h => cases h; exact ⟨rfl, fun _ _ _ _ => ⟨0, rfl, by decide, by decide⟩⟩
  | 2, h => cases h; exact ⟨rfl, fun _ _ _ _ => ⟨0, rfl, by decide, by decide, fun g c q => by cases q⟩⟩
  | n + 3, h => cases h
theorem ck_kat_all {P : ck_V → Prop} : ∀ {sg : List (Nat × ck_V)}, (∀ q ∈ sg, P q.2) → P (.inr (.inr (8, 0))) → ∀ j, P (ck_kat sg j)
  | [], _, h, _ => h
  | (n, k) :: t, h1, h2, j => by
    unfold ck_kat
    split
    · exact h1 (n, k) List.mem_cons_self
    · exact ck_kat_all (fun q hq => h1 q (List.mem_cons_of_mem _ hq)) h2 j
def ck_dk (ac : Nat) (sg : List (Nat × ck_V)) : Bool := sg.all (fun q => ck_le (ck_d0 ac) q.2 && ck_plain q.2)
def ck_dt : FieldType → ck_V
  | .int => .inl (0, 0, none)
  | .boolean => .inl (0, 0, none)
  | .long => .inr (.inl (0, 0))
  | .object _ => .inr (.inr (0, 0))
  | .array _ => .inr (.inr (0, 0))
  | _ => .inr (.inr (8, 0))
theorem ck_dt_ok (S : Nat → Nat) (ρ : Nat → Int) (G : Nat → Nat) (N : List Nat) (ty : FieldType) : ck_R S ρ G N (ck_dt ty) (defaultValue ty) := by
  cases ty <;> first | exact ⟨0, rfl, by decide, by decide, fun g c q => by cases q⟩ | exact ⟨0, rfl, by decide, by decide⟩ | exact rfl | exact trivial
def ck_words (st : List ck_V) : Nat := (st.map fun v => if ck_lng v then 2 else 1).sum
theorem ck_words_ok {S : Nat → Nat} {ρ : Nat → Int} {G : Nat → Nat} {N : List Nat} : ∀ {st : List ck_V} {vs : List Value}, ck_all (ck_R S ρ G N) st vs → st.all ck_kn = true → (vs.map fun v => v.category).sum = ck_words st
  | [], vs, h, _ => by
    have : vs = [] := by
      have := h.1
      cases vs with
      | nil => rfl
      | cons a b => simp at this
    subst this
    rfl
  | k :: t, vs, h, hk => by
    obtain ⟨v, vs', rfl, h1, h2⟩ := h.uncons
    simp only [List.all_cons, Bool.and_eq_true] at hk
    have ih := ck_words_ok h2 hk.2
    have hc := ck_cat h1 hk.1
    have h12 := lv_cat v
    unfold ck_words at ih ⊢
    rw [List.map_cons, List.map_cons, List.sum_cons, List.sum_cons, ih]
    congr 1
    rw [← hc]
    rcases h12 with z | z <;> rw [z] <;> rfl
theorem ck_F.new {G0 G G' : Nat → Nat} {N0 N N' : List Nat} {T T' : List ck_C} {H0 H H' : Heap} (hF : ck_F G0 N0 H0 G N T H) (hs : H.size ≤ H'.size) (hq : ∀ q, q < H.size → H'[q]? = H[q]?) (hG : ∀ q, q < H.size → G' q = G q) (hN : ∃ M, N' = N ++ M) (hT : ∀ (i : Nat) (c : ck_C) (a : Nat), T'[i]? = some c → N'[i]? = some a → ck_own c = true → (∃ c', T[i]? = some c' ∧ N[i]? = some a ∧ ck_own c' = true) ∨ H.size ≤ a) : ck_F G0 N0 H0 G' N' T' H' := by
  obtain ⟨h1, h2, h3, h4, h5, h6⟩ := hF
  obtain ⟨M, rfl⟩ := hN
  refine ⟨by omega, fun q hl => by rw [hG q (by omega)]; exact h2 q hl, fun q hl hz hn => by rw [hq q (by omega)]; exact h3 q hl hz hn, by simp; omega, fun i hi => by rw [List.getElem?_append_left (by omega)]; exact h5 i hi, fun i c a hc ha ho hi => ?_⟩
  rcases hT i c a hc ha ho with ⟨c', e1, e2, e3⟩ | e
  · exact h6 i c' a e1 e2 e3 hi
  · omega
section CKN
variable {p : Program} {l : Launch} {e : Env} {R : Room} {s : State} {m : MethodId} {args : Array Value} {below : List Frame} {meth : Method} {c : Code} {cells slots : Nat} {Q : State → Prop}
variable {cc : ByteArray} {pc pc2 nL : Nat} {D : va_G} {AC : Nat → ClassId} {S : Nat → Nat} {tab : List ck_D} {L : Heap} {ρ0 : Nat → Int} {G0 : Nat → Nat} {N0 : List Nat} {H0 : Heap}
variable {A : List (Nat × ck_V)} {st : List ck_V} {T : List ck_C} {own : String}
theorem ck_push_other (H : Heap) (x : Cell) : (H.push x)[H.size]? = some x ∧ (H.push x).size = H.size + 1 ∧ ∀ q, q < H.size → (H.push x)[q]? = H[q]? := ⟨by simp, by simp, fun q hq => by rw [Array.getElem?_push, if_neg (Nat.ne_of_lt hq)]⟩
theorem ck_all_grow {G G' : Nat → Nat} {ρ : Nat → Int} {N : List Nat} (hz : ∀ q, G q ≠ 0 → G' q = G q) {ks : List ck_V} {vs : List Value} (h : ck_all (ck_R S ρ G N) ks vs) : ck_all (ck_R S ρ G' N) ks vs := h.mono fun _ _ _ h => h.grow hz
theorem ck_allL_grow {G G' : Nat → Nat} {ρ : Nat → Int} {N : List Nat} (hz : ∀ q, G q ≠ 0 → G' q = G q) {ks : List (Nat × ck_V)} {vs : List (Nat × Value)} (h : ck_all (ck_RL S ρ G N) ks vs) : ck_all (ck_RL S ρ G' N) ks vs := h.mono fun _ _ _ h => ⟨h.1, h.2.grow hz⟩
theorem ck_all_ext {G : Nat → Nat} {ρ : Nat → Int} {N M : List Nat} {ks : List ck_V} {vs : List Value} (h : ck_all (ck_R S ρ G N) ks vs) : ck_all (ck_R S ρ G (N ++ M)) ks vs := h.mono fun _ _ _ h => h.ext M
theorem ck_allL_ext {G : Nat → Nat} {ρ : Nat → Int} {N M : List Nat} {ks : List (Nat × ck_V)} {vs : List (Nat × Value)} (h : ck_all (ck_RL S ρ G N) ks vs) : ck_all (ck_RL S ρ G (N ++ M)) ks vs := h.mono fun _ _ _ h => ⟨h.1, h.2.ext M⟩
/-- a new array of primitives, typed -/
theorem cw_newaTy (hexec : p.tables.exec = Jvm.exec) (hb : c.code = cc) (hK : va_K D ck_cl (ck_tys AC) s) {τ ac n : Nat} {sg : List (Nat × ck_V)} {q : ck_Q} {t : ArrayType} (harr : (Cond.arrayClass (newarray.typeOf t)).before args s = true) (hτ : tab[τ]? = some (.inl (ac, n, sg))) (hz : τ ≠ 0) (hat : ck_at ac = some t) (hq1 : q.1 = (n : Int)) (hq2 : q.2.1 = (n : Int)) (hn : n ≤ 60000) (hdk : ck_dk ac sg = true) (hc : cells + 1 ≤ R.cells) (hs : slots + n ≤ R.slots) (hd : decode cc pc = .ok (.newarray t, 2))
    (kk : ck_W p l e R s m args below meth c Q D AC S tab L nL ρ0 G0 N0 H0 (pc + 2) (A, .inr (.inr (2, τ)) :: st, T) (cells + 1) (slots + n)) : ck_W p l e R s m args below meth c Q D AC S tab L nL ρ0 G0 N0 H0 pc (A, .inl q :: st, T) cells slots := by
  intro H ls vs locs h
  obtain ⟨ρ, G, N, lv, h1, h2, h3, h4, h5, h6, h7⟩ := h
  obtain ⟨_, vs', rfl, ⟨x, rfl, gx⟩, g2⟩ := h3.uncons
  obtain ⟨x1, x2, -⟩ := gx
  have hx : x.toNatClampNeg = n := by show x.toInt.toNat = n; omega
  have hx0 : ¬ x < 0 := fun h => by have := Int32.lt_iff_toInt_lt.mp h; have e0 : (0 : Int32).toInt = 0 := rfl; omega
  obtain ⟨hty, hdef⟩ := ck_at_ok hat
  have hzz : ∀ q, G q ≠ 0 → ck_up G H.size τ q = G q := fun q hne => by
    unfold ck_up
    rw [if_neg (fun e => hne (by rw [e]; exact h4.zero (Nat.le_refl _)))]
  have hcb : componentBytes (newarray.typeOf t) ≤ 8 := by cases t <;> decide
  refine W.newa hexec hb harr rfl hd rfl hx0 (by rw [hx]; have := Nat.mul_le_mul hn hcb; omega) hc (by rw [hx]; exact hs) fun cA kA comp f1 f2 f3 => ?_
  have hAC : cA = AC ac := by
    match ac, hat with
    | 0, hat => cases hat; exact Option.some.inj (f1.symm.trans (hK.2 0 _ rfl).2)
    | 1, hat => cases hat; exact Option.some.inj (f1.symm.trans (hK.2 1 _ rfl).2)
    | 2, hat => cases hat; exact Option.some.inj (f1.symm.trans (hK.2 2 _ rfl).2)
    | n + 3, hat => cases hat
  subst hAC
  rw [hx]
  obtain ⟨p1, p2, p3⟩ := ck_push_other H { cls := AC ac, slots := Array.replicate n (defaultValue (newarray.typeOf t)), vm := .none }
  generalize H.push { cls := AC ac, slots := Array.replicate n (defaultValue (newarray.typeOf t)), vm := .none } = H' at p1 p2 p3
  refine kk H' ls _ locs ⟨ρ, ck_up G H.size τ, N, lv, h1, ck_allL_grow hzz h2, ck_all.cons ⟨H.size, rfl, by unfold ck_up; rw [if_pos rfl], hz⟩ (ck_all_grow hzz g2), h4.newTy p2 p3 ?_, h5.new (by omega) p3 (fun q hl => by unfold ck_up; rw [if_neg (by omega)]) ⟨[], by simp⟩ (fun i c a hc ha ho => Or.inl ⟨c, hc, ha, ho⟩), h6, h7⟩
  unfold ck_ty
  rw [hτ]
  refine ⟨fun _ => defaultValue (newarray.typeOf t), by rw [← arrV_new]; exact p1, fun j _ => ck_kat_all (P := fun k => ck_R S (fun _ => 0) (ck_up G H.size τ) [] k (defaultValue (newarray.typeOf t))) (fun q hq => ?_) trivial j⟩
  have := List.all_eq_true.mp hdk q hq
  simp only [Bool.and_eq_true] at this
  exact (hdef _ _ _ _).le this.1
/-- a new array of primitives of one's own -/
theorem cw_newaOwn (hexec : p.tables.exec = Jvm.exec) (hb : c.code = cc) (hK : va_K D ck_cl (ck_tys AC) s) {ac n : Nat} {q : ck_Q} {t : ArrayType} (harr : (Cond.arrayClass (newarray.typeOf t)).before args s = true) (hat : ck_at ac = some t) (hq1 : q.1 = (n : Int)) (hq2 : q.2.1 = (n : Int)) (hn : n ≤ 60000) (hc : cells + 1 ≤ R.cells) (hs : slots + n ≤ R.slots) (hd : decode cc pc = .ok (.newarray t, 2))
    (kk : ck_W p l e R s m args below meth c Q D AC S tab L nL ρ0 G0 N0 H0 (pc + 2) (A, .inr (.inr (1, T.length)) :: st, T ++ [((1, ac), List.replicate n (ck_d0 ac))]) (cells + 1) (slots + n)) : ck_W p l e R s m args below meth c Q D AC S tab L nL ρ0 G0 N0 H0 pc (A, .inl q :: st, T) cells slots := by
  intro H ls vs locs h
  obtain ⟨ρ, G, N, lv, h1, h2, h3, h4, h5, h6, h7⟩ := h
  obtain ⟨_, vs', rfl, ⟨x, rfl, gx⟩, g2⟩ := h3.uncons
  obtain ⟨x1, x2, -⟩ := gx
  have hx : x.toNatClampNeg = n := by show x.toInt.toNat = n; omega
  have hx0 : ¬ x < 0 := fun h => by have := Int32.lt_iff_toInt_lt.mp h; have e0 : (0 : Int32).toInt = 0 := rfl; omega
  obtain ⟨hty, hdef⟩ := ck_at_ok hat
  have hcb : componentBytes (newarray.typeOf t) ≤ 8 := by cases t <;> decide
  refine W.newa hexec hb harr rfl hd rfl hx0 (by rw [hx]; have := Nat.mul_le_mul hn hcb; omega) hc (by rw [hx]; exact hs) fun cA kA comp f1 f2 f3 => ?_
  have hAC : cA = AC ac := by
    match ac, hat with
    | 0, hat => cases hat; exact Option.some.inj (f1.symm.trans (hK.2 0 _ rfl).2)
    | 1, hat => cases hat; exact Option.some.inj (f1.symm.trans (hK.2 1 _ rfl).2)
    | 2, hat => cases hat; exact Option.some.inj (f1.symm.trans (hK.2 2 _ rfl).2)
    | n + 3, hat => cases hat
  subst hAC
  rw [hx]
  obtain ⟨p1, p2, p3⟩ := ck_push_other H { cls := AC ac, slots := Array.replicate n (defaultValue (newarray.typeOf t)), vm := .none }
  generalize H.push { cls := AC ac, slots := Array.replicate n (defaultValue (newarray.typeOf t)), vm := .none } = H' at p1 p2 p3
  have hlen : N.length = T.length := h4.2.1
  refine kk H' ls _ locs ⟨ρ, G, N ++ [H.size], lv, h1, ck_allL_ext h2, ck_all.cons ⟨H.size, by rw [← hlen]; simp, rfl⟩ (ck_all_ext g2), h4.newNm (by omega) p3 ⟨h4.1.1, h4.zero (Nat.le_refl _), fun _ => defaultValue (newarray.typeOf t), by rw [← arrV_new, List.length_replicate]; exact p1, fun j v hj => ?_⟩, h5.new (by omega) p3 (fun q hl => rfl) ⟨_, rfl⟩ (fun i c a hc ha ho => ?_), h6, h7⟩
  · have := List.eq_of_mem_replicate (List.mem_of_getElem? hj)
    subst this
    exact hdef _ _ _ _
  · by_cases hi : i < T.length
    · rw [List.getElem?_append_left hi] at hc
      rw [List.getElem?_append_left (by omega)] at ha
      exact Or.inl ⟨c, hc, ha, ho⟩
    · rw [List.getElem?_append_right (by omega)] at ha
      have := List.mem_of_getElem? ha
      simp at this
      exact Or.inr (by omega)
/-- a new array of references of one's own -/
theorem cw_anew (hexec : p.tables.exec = Jvm.exec) (hb : c.code = cc) (hown : s.vm.findClass own = some m.cls) (hK : va_K D ck_cl (ck_tys AC) s) {ac n idx : Nat} {q : ck_Q} {C : String} (hty : ck_tyK ac = some (.object C)) (hcl : (Cond.classLink own idx C).before args s = true) (hov : (Cond.arrayOver (.object C)).before args s = true) (hq1 : q.1 = (n : Int)) (hq2 : q.2.1 = (n : Int)) (hn : n ≤ 60000) (hc : cells + 1 ≤ R.cells) (hs : slots + n ≤ R.slots) (hd : decode cc pc = .ok (.anewarray idx, 3))
    (kk : ck_W p l e R s m args below meth c Q D AC S tab L nL ρ0 G0 N0 H0 (pc + 3) (A, .inr (.inr (1, T.length)) :: st, T ++ [((1, ac), List.replicate n (.inr (.inr (0, 0))))]) (cells + 1) (slots + n)) : ck_W p l e R s m args below meth c Q D AC S tab L nL ρ0 G0 N0 H0 pc (A, .inl q :: st, T) cells slots := by
  intro H ls vs locs h
  obtain ⟨ρ, G, N, lv, h1, h2, h3, h4, h5, h6, h7⟩ := h
  obtain ⟨_, vs', rfl, ⟨x, rfl, gx⟩, g2⟩ := h3.uncons
  obtain ⟨x1, x2, -⟩ := gx
  have hx : x.toNatClampNeg = n := by show x.toInt.toNat = n; omega
  have hx0 : ¬ x < 0 := fun h => by have := Int32.lt_iff_toInt_lt.mp h; have e0 : (0 : Int32).toInt = 0 := rfl; omega
  refine W.anew hexec hb hown hcl hov rfl hd rfl hx0 (by rw [hx]; omega) hc (by rw [hx]; exact hs) fun cA kA comp f1 f2 f3 f4 => ?_
  have hAC : cA = AC ac := by
    match ac, hty with
    | 3, hty => cases hty; obtain ⟨_, _, _, _, _, f⟩ := (hK.2 3 _ rfl).2; exact Option.some.inj (f1.symm.trans f)
    | 4, hty => cases hty; obtain ⟨_, _, _, _, _, f⟩ := (hK.2 4 _ rfl).2; exact Option.some.inj (f1.symm.trans f)
    | 5, hty => cases hty; obtain ⟨_, _, _, _, _, f⟩ := (hK.2 5 _ rfl).2; exact Option.some.inj (f1.symm.trans f)
    | 6, hty => cases hty; obtain ⟨_, _, _, _, _, f⟩ := (hK.2 6 _ rfl).2; exact Option.some.inj (f1.symm.trans f)
    | 0, hty => cases hty
    | 1, hty => cases hty
    | 2, hty => cases hty
    | 7, hty => cases hty
    | n + 8, hty => cases hty
  subst hAC
  rw [hx]
  obtain ⟨p1, p2, p3⟩ := ck_push_other H { cls := AC ac, slots := Array.replicate n .null, vm := .none }
  generalize H.push { cls := AC ac, slots := Array.replicate n .null, vm := .none } = H' at p1 p2 p3
  have hlen : N.length = T.length := h4.2.1
  refine kk H' ls _ locs ⟨ρ, G, N ++ [H.size], lv, h1, ck_allL_ext h2, ck_all.cons ⟨H.size, by rw [← hlen]; simp, rfl⟩ (ck_all_ext g2), h4.newNm (by omega) p3 ⟨h4.1.1, h4.zero (Nat.le_refl _), fun _ => .null, by rw [← arrV_new, List.length_replicate]; exact p1, fun j v hj => ?_⟩, h5.new (by omega) p3 (fun q hl => rfl) ⟨_, rfl⟩ (fun i c a hc ha ho => ?_), h6, h7⟩
  · have := List.eq_of_mem_replicate (List.mem_of_getElem? hj)
    subst this
    exact rfl
  · by_cases hi : i < T.length
    · rw [List.getElem?_append_left hi] at hc
      rw [List.getElem?_append_left (by omega)] at ha
      exact Or.inl ⟨c, hc, ha, ho⟩
    · rw [List.getElem?_append_right (by omega)] at ha
      have := List.mem_of_getElem? ha
      simp at this
      exact Or.inr (by omega)
/-- a new object of one's own -/
theorem cw_new (hexec : p.tables.exec = Jvm.exec) (hb : c.code = cc) (hown : s.vm.findClass own = some m.cls) (hK : va_K D ck_cl (ck_tys AC) s) (hts : ∀ w ∈ ck_tb, w.before args s = true) {ci n idx : Nat} {C : String} {TT : u_T} (hcl : ck_cl[ci]? = some (C, TT, n)) (hlk : Cond.classLink own idx C ∈ ck_tb) (hc : cells + 1 ≤ R.cells) (hs : slots + n ≤ R.slots) (hd : decode cc pc = .ok (.new idx, 3))
    (kk : ck_W p l e R s m args below meth c Q D AC S tab L nL ρ0 G0 N0 H0 (pc + 3) (A, .inr (.inr (1, T.length)) :: st, T ++ [((0, ci), (List.range n).map (fun k => ck_dt (ck_yy ci k)))]) (cells + 1) (slots + n)) : ck_W p l e R s m args below meth c Q D AC S tab L nL ρ0 G0 N0 H0 pc (A, st, T) cells slots := by
  intro H ls vs locs h
  obtain ⟨ρ, G, N, lv, h1, h2, h3, h4, h5, h6, h7⟩ := h
  obtain ⟨w1, w2, w3, w4, w5, w6⟩ := ck_cls hcl
  have hKn := hK.1 ci _ hcl
  refine W.newcK hexec hb hown (hts _ hlk) (hts _ w5) (hts _ w6) rfl hd hc hs hKn.2.1 rfl fun H' kC k1 k2 k3 k4 => ?_
  have hlen : N.length = T.length := h4.2.1
  have hob := u_born (ck_yy ci) hts w1 hKn k1 k2 w2
  refine kk H' ls _ locs ⟨ρ, G, N ++ [H.size], lv, h1, ck_allL_ext h2, ck_all.cons ⟨H.size, by rw [← hlen]; simp, rfl⟩ (ck_all_ext h3), h4.newNm (by omega) k4 ⟨h4.1.1, h4.zero (Nat.le_refl _), (List.range n).map (fun k => defaultValue (ck_yy ci k)), ⟨C, TT, by simpa using hcl, ?_⟩, ?_⟩, h5.new (by omega) k4 (fun q hl => rfl) ⟨_, rfl⟩ (fun i c a hc ha ho => ?_), h6, h7⟩
  · simp only [List.length_map, List.length_range]
    exact hob.to (fun k hk => by simp [vp_V, List.getD_eq_getElem?_getD, hk])
  · refine ⟨by simp, fun i a b ha hb => ?_⟩
    simp only [List.getElem?_map] at ha hb
    obtain ⟨z, hz, rfl⟩ := Option.map_eq_some_iff.mp ha
    rw [hz] at hb
    cases hb
    exact ck_dt_ok _ _ _ _ _
  · by_cases hi : i < T.length
    · rw [List.getElem?_append_left hi] at hc
      rw [List.getElem?_append_left (by omega)] at ha
      exact Or.inl ⟨c, hc, ha, ho⟩
    · rw [List.getElem?_append_right (by omega)] at ha
      have := List.mem_of_getElem? ha
      simp at this
      exact Or.inr (by omega)
/-! System.arraycopy -/
theorem ck_copied (cs : Cell) (c1 : ClassId) {n1 sp dp n : Nat} (g : Nat → Value) : (arrV c1 n1 g).storeRun dp (cs.stretch sp n) = arrV c1 n1 (fun k => if dp ≤ k ∧ k < dp + n then cs.slots.getD (sp + (k - dp)) .null else g k) := by
  rw [Cell.storeRun, va_pairs]
  congr 1
  funext k
  unfold Cell.stretch
  simp only [List.length_map, List.length_range, Nat.add_zero]
  by_cases h : dp ≤ k ∧ k < dp + n
  · rw [if_pos h, if_pos h, List.getD_eq_getElem?_getD, List.getElem?_map, List.getElem?_range (by omega)]
    rfl
  · rw [if_neg h, if_neg h]
theorem cw_copy0 (hexec : p.tables.exec = Jvm.exec) (hb : c.code = cc) (hown : s.vm.findClass own = some m.cls) (hK : va_K D ck_cl (ck_tys AC) s) {idx : Nat} (hlink : (Cond.methodLink own idx arraycopyName).before args s = true) (hnat : (Cond.native arraycopyName).before args s = true) (hstat : (Cond.static arraycopyName).before args s = true) (hini : (Cond.initialized "java/lang/System").before args s = true)
    {H : Heap} {locs : List Loc} {ls : Array Slot} {rest : List Value} (hml : c.maxLocals = ls.size) {ac n1 a0 a : Nat} {cs : Cell} {g : Nat → Value} {ty : FieldType} (hty : ck_tyK ac = some ty) (hpr : ac = 0 ∨ ac = 1) (hcs : H[a0]? = some cs) (hsa : s.isArrayOf cs ty) (hkn : cs.vm ≠ .unknown) (hcd : H[a]? = some (arrV (AC ac) n1 g))
    {sp dp n : Int32} {sp' dp' n' : Nat} (e1 : sp.toInt = (sp' : Int)) (e2 : dp.toInt = (dp' : Int)) (e3 : n.toInt = (n' : Int)) (b1 : sp' + n' ≤ cs.slots.size) (b2 : dp' + n' ≤ n1) (hfit : ∀ i, i < n' → fits ty (cs.slots.getD (sp' + i) .null) = true)
    (hframes : 1 ≤ R.frames) (hlocals : (rest.map fun v => v.category).sum + (nativeFrameWords "java/lang/System" "arraycopy" 5 + 11) ≤ R.locals) (hd : decode cc pc = .ok (.invokestatic idx, 3))
    (kk : ∀ (H' : Heap) (M : List Loc), (∀ q ∈ M, q.base = a) → H'[a]? = some (arrV (AC ac) n1 (fun k => if dp' ≤ k ∧ k < dp' + n' then cs.slots.getD (sp' + (k - dp')) .null else g k)) → H'.size = H.size → (∀ q, q ≠ a → H'[q]? = H[q]?) → W p l e R s m args below meth c H' (locs ++ M) cells slots Q (F0 m (pc + 3) ls rest)) : W p l e R s m args below meth c H locs cells slots Q (F0 m pc ls (.int n :: .int dp :: .ref a :: .int sp :: .ref a0 :: rest)) := by
  intro T hT X
  have z0 : (0 : Int32).toInt = 0 := rfl
  have c1 : sp.toNatClampNeg = sp' := by show sp.toInt.toNat = sp'; omega
  have c2 : dp.toNatClampNeg = dp' := by show dp.toInt.toNat = dp'; omega
  have c3 : n.toNatClampNeg = n' := by show n.toInt.toNat = n'; omega
  obtain ⟨s0, k0, hk0, cm0, hkk0⟩ := hsa
  obtain ⟨-, k1, hk1, cm1, hkk1⟩ := ck_arrK hK (ck_tyK_ok hty) n1 g
  have hrk : refKind ty = false := by rcases hpr with rfl | rfl <;> (cases hty; rfl)
  obtain ⟨vm', X', step⟩ := X.arraycopy hexec hown hlink hnat hstat hini (src := a0) (dst := a) (cs := cs) (cd := arrV (AC ac) n1 g) (srcPos := sp) (destPos := dp) (n := n) (by rw [hT]; exact hcs) (by rw [hT]; exact hcd)
    s0 (fun _ h => by cases h) hkn (fun h => by cases h) hk0 hk1 hkk0 hkk1 (by simp [hrk]) (fun h => by have := Int32.lt_iff_toInt_lt.mp h; omega) (fun h => by have := Int32.lt_iff_toInt_lt.mp h; omega) (fun h => by have := Int32.lt_iff_toInt_lt.mp h; omega)
    (by omega) (by rw [arrV_size]; omega)
    (fun vm₁ _ i hi => by
      rw [c1]
      rw [c3] at hi
      have hf := hfit i hi
      refine ⟨hf, ?_⟩
      generalize cs.slots.getD (sp' + i) .null = w at hf
      rcases hpr with rfl | rfl
      · cases hty
        cases w <;> first | exact trivial | (simp [fits] at hf)
      · cases hty
        cases w <;> first | exact trivial | (simp [fits] at hf))
    (g := F0 m pc ls (.int n :: .int dp :: .ref a :: .int sp :: .ref a0 :: rest)) rfl (by rw [hml]) (rest := rest) rfl (by rw [hb]; exact hd) hframes (by show 2 * 0 + _ + _ ≤ _; omega)
  have e9 : copied cs (arrV (AC ac) n1 g) sp dp n = arrV (AC ac) n1 (fun k => if dp' ≤ k ∧ k < dp' + n' then cs.slots.getD (sp' + (k - dp')) .null else g k) := by
    unfold copied
    rw [c1, c2, c3]
    exact ck_copied cs (AC ac) g
  rw [e9] at X' step
  have hl : a < H.size := (Array.getElem?_eq_some_iff.mp hcd).1
  generalize hnc : arrV (AC ac) n1 (fun k => if dp' ≤ k ∧ k < dp' + n' then cs.slots.getD (sp' + (k - dp')) .null else g k) = nc at X' step kk
  have hheap : ((T.setVm vm').setCell a nc).heap = H.setIfInBounds a nc := by rw [← hT]; rfl
  obtain ⟨t, a1, b1⟩ := kk (H.setIfInBounds a nc) _ (fun q hq => by obtain ⟨z, -, hz⟩ := List.mem_map.mp hq; rw [← hz]) (by simp [Array.getElem?_setIfInBounds, hl]) (by simp) (fun q hq => by simp [Array.getElem?_setIfInBounds, Ne.symm hq]) _ hheap X'
  exact ⟨t, step t a1, b1⟩
/-- copying into a typed array, out of a typed or a static one -/
theorem cw_copy (hexec : p.tables.exec = Jvm.exec) (hb : c.code = cc) (hown : s.vm.findClass own = some m.cls) (hK : va_K D ck_cl (ck_tys AC) s) {idx : Nat} (hlink : (Cond.methodLink own idx arraycopyName).before args s = true) (hnat : (Cond.native arraycopyName).before args s = true) (hstat : (Cond.static arraycopyName).before args s = true) (hini : (Cond.initialized "java/lang/System").before args s = true)
    (hml : c.maxLocals = nL) {v : ck_V} {τ ac n0 n1 sp dp n : Nat} {sg : List (Nat × ck_V)} {kd ks : ck_V} {ty : FieldType} (hty : ck_tyK ac = some ty) (hpr : ac = 0 ∨ ac = 1) (hτ : tab[τ]? = some (.inl (ac, n1, sg))) (hn : 0 < n) (hkd : ck_rd sg dp (dp + n - 1) = some kd) (hkp : ck_plain kd = true) (hle : ck_le ks kd = true) (hks : ck_plain ks = true) (hpk : ck_prim ac ks = true)
    (hv : (∃ σ sg0, v = .inr (.inr (2, σ)) ∧ tab[σ]? = some (.inl (ac, n0, sg0)) ∧ ck_rd sg0 sp (sp + n - 1) = some ks) ∨ (∃ j, v = .inr (.inr (3, j)) ∧ ac = 0 ∧ ck_sta S L s j n0 ∧ ks = ck_full))
    (b1 : sp + n ≤ n0) (b2 : dp + n ≤ n1) {qs qd qn : ck_Q} (e1 : qs.1 = (sp : Int) ∧ qs.2.1 = (sp : Int)) (e2 : qd.1 = (dp : Int) ∧ qd.2.1 = (dp : Int)) (e3 : qn.1 = (n : Int) ∧ qn.2.1 = (n : Int))
    (hst : st.all ck_kn = true) (hframes : 1 ≤ R.frames) (hlocals : ck_words st + (nativeFrameWords "java/lang/System" "arraycopy" 5 + 11) ≤ R.locals) (hd : decode cc pc = .ok (.invokestatic idx, 3))
    (kk : ck_W p l e R s m args below meth c Q D AC S tab L nL ρ0 G0 N0 H0 (pc + 3) (A, st, T) cells slots) : ck_W p l e R s m args below meth c Q D AC S tab L nL ρ0 G0 N0 H0 pc (A, .inl qn :: .inl qd :: .inr (.inr (2, τ)) :: .inl qs :: v :: st, T) cells slots := by
  intro H ls vs locs h
  obtain ⟨ρ, G, N, lv, h1, h2, h3, h4, h5, h6, h7⟩ := h
  obtain ⟨_, _, rfl, ⟨xn, rfl, gn⟩, g1⟩ := h3.uncons
  obtain ⟨_, _, rfl, ⟨xd, rfl, gd⟩, g2⟩ := g1.uncons
  obtain ⟨_, _, rfl, ⟨a, rfl, ha, hz⟩, g3⟩ := g2.uncons
  obtain ⟨_, _, rfl, ⟨xs, rfl, gs⟩, g4⟩ := g3.uncons
  obtain ⟨w, vs', rfl, hw, g5⟩ := g4.uncons
  have hG : G a ≠ 0 := by rw [ha]; exact hz
  obtain ⟨l1, ht⟩ := h4.1.2.2 a hG
  rw [ha] at ht
  unfold ck_ty at ht
  rw [hτ] at ht
  obtain ⟨g, z1, z2⟩ := ht
  have key : ∃ (a0 : Nat) (cs : Cell), w = .ref a0 ∧ H[a0]? = some cs ∧ s.isArrayOf cs ty ∧ cs.vm ≠ .unknown ∧ cs.slots.size = n0 ∧ ∀ j, sp ≤ j → j < sp + n → ck_R S (fun _ => 0) G [] ks (cs.slots.getD j .null) := by
    rcases hv with ⟨σ, sg0, rfl, hσ, hr⟩ | ⟨j, rfl, rfl, hs, rfl⟩
    · obtain ⟨a0, rfl, hb0, hz0⟩ := hw
      have ht := (h4.1.2.2 a0 (by rw [hb0]; exact hz0)).2
      rw [hb0] at ht
      unfold ck_ty at ht
      rw [hσ] at ht
      obtain ⟨f, y1, y2⟩ := ht
      refine ⟨a0, _, rfl, y1, ck_arrK hK (ck_tyK_ok hty) n0 f, (fun q => by cases q), arrV_size _ _ _, fun j j1 j2 => ?_⟩
      rw [Array.getD_eq_getD_getElem?, arrV_read _ _ (by omega)]
      have := y2 j (by omega)
      rw [ck_rd_ok hr j j1 (by omega)] at this
      exact this
    · cases hw
      obtain ⟨cell, c1, c2, c3, c4, c5, c6⟩ := hs
      cases hty
      refine ⟨S j, cell, rfl, by rw [h4.1.2.1 _ c2]; exact c1, c3, c4, c5, fun j' j1 j2 => ?_⟩
      obtain ⟨x, hx⟩ := c6 j' (by omega)
      rw [Array.getD_eq_getD_getElem?, hx]
      exact ⟨x, rfl, (ck_i32 x).1, (ck_i32 x).2, fun g c q => by cases q⟩
  obtain ⟨a0, cs, rfl, k1, k2, k3, k4, k5⟩ := key
  refine cw_copy0 hexec hb hown hK hlink hnat hstat hini (by rw [hml]; exact h1.1.symm) hty hpr k1 k2 k3 z1 (sp' := sp) (dp' := dp) (n' := n) (by have := gs.1; have := gs.2.1; omega) (by have := gd.1; have := gd.2.1; omega) (by have := gn.1; have := gn.2.1; omega) (by omega) b2 (fun i hi => ?_) hframes (by rw [ck_words_ok g5 hst]; exact hlocals) hd fun H' M hM o1 o2 o3 => kk H' ls vs' _ ⟨ρ, G, N, lv, h1, h2, g5, ?_, ?_, ?_, h7⟩
  · have y := k5 (sp + i) (by omega) (by omega)
    rcases hpr with rfl | rfl
    · cases hty
      match ks, hpk, y with
      | .inl q, _, y => obtain ⟨x, hx, -⟩ := y; rw [hx]; rfl
    · cases hty
      match ks, hpk, y with
      | .inr (.inl q), _, y => obtain ⟨x, hx, -⟩ := y; rw [hx]; rfl
  · refine h4.putTy hG o2 o3 ?_ (fun i' d hi h3 hN => ?_)
    · rw [ha]
      unfold ck_ty
      rw [hτ]
      refine ⟨_, o1, fun j0 hj0 => ?_⟩
      split
      · rename_i hin
        rw [ck_rd_ok hkd j0 hin.1 (by omega)]
        exact (k5 (sp + (j0 - dp)) (by omega) (by omega)).le hle
      · exact z2 j0 hj0
    · have := h4.2.2.1 i' d a hi hN
      unfold ck_tc at this
      obtain ⟨⟨q1, q2⟩, fs⟩ := d
      dsimp only at h3
      subst h3
      obtain ⟨x1, x2, ci, ks', vs9, x3, -⟩ := this
      have x4 : q2 = τ := x1.symm.trans ha
      rw [x4, hτ] at x3
      cases x3
  · exact h5.put o2 o3 (Or.inl hG) (fun i c hi ho => ⟨c, hi, ho⟩)
  · intro q hq
    rcases List.mem_append.mp hq with z | z
    · exact h6 q z
    · rw [hM q z]; exact l1
/-- a static field that holds a static array -/
theorem cw_gets (hexec : p.tables.exec = Jvm.exec) (hb : c.code = cc) (hown : s.vm.findClass own = some m.cls) {idx j : Nat} {C nm ds : String} (hZ : va_Z C nm ds (.ref (S j)) (fun q => L.size ≤ q) s L) (hlink : (Cond.fieldLink own idx C nm ds).before args s = true) (hd : decode cc pc = .ok (.getstatic idx, 3))
    (kk : ck_W p l e R s m args below meth c Q D AC S tab L nL ρ0 G0 N0 H0 (pc + 3) (A, .inr (.inr (3, j)) :: st, T) cells slots) : ck_W p l e R s m args below meth c Q D AC S tab L nL ρ0 G0 N0 H0 pc (A, st, T) cells slots := by
  intro H ls vs locs h
  obtain ⟨ρ, G, N, lv, h1, h2, h3, h4, h5, h6, h7⟩ := h
  obtain ⟨cf, kf, fi, f, a, cell, y1, y2, y3, y4, y5, y6, y7, y8⟩ := hZ
  have hal : a < L.size := by omega
  exact W.gets hexec hb hown hlink y1 y2 y3 y4 (by rw [h4.1.2.1 a hal]; exact y5) (fun e => by rw [e] at y6; cases y6) y7 rfl hd (kk H ls _ locs ⟨ρ, G, N, lv, h1, h2, ck_all.cons rfl h3, h4, h5, h6, h7⟩)
end CKN
end
section
/-! ===== an array of arrays; names given up to a type; a typed object named; ghosts ===== -/
section CKO
variable {p : Program} {l : Launch} {e : Env} {R : Room} {s : State} {m : MethodId} {args : Array Value} {below : List Frame} {meth : Method} {c : Code} {cells slots : Nat} {Q : State → Prop}
variable {cc : ByteArray} {pc pc2 nL : Nat} {D : va_G} {AC : Nat → ClassId} {S : Nat → Nat} {tab : List ck_D} {L : Heap} {ρ0 : Nat → Int} {G0 : Nat → Nat} {N0 : List Nat} {H0 : Heap}
variable {A : List (Nat × ck_V)} {st : List ck_V} {T : List ck_C} {own : String}
/-- many new typed cells at once -/
theorem ck_H.newMany {ρ : Nat → Int} {G G' : Nat → Nat} {N : List Nat} {H H' : Heap} (h : ck_H D AC S tab L ρ G N T H) (hs : H.size ≤ H'.size) (hq : ∀ q, q < H.size → H'[q]? = H[q]?) (hG : ∀ q, q < H.size → G' q = G q) (hc : ∀ q, H.size ≤ q → G' q ≠ 0 → ck_ty D AC S tab G' (G' q) q H') : ck_H D AC S tab L ρ G' N T H' := by
  have hz : ∀ q, G q ≠ 0 → G' q = G q := fun q hne => by
    by_cases hl : q < H.size
    · exact hG q hl
    · exact absurd (h.zero (by omega)) hne
  have hnm := @ck_H.named D AC S tab L ρ G N T H h
  obtain ⟨⟨k1, k2, k3⟩, hlen, hT, hnd⟩ := h
  refine ⟨⟨by omega, fun q hl => by rw [hq q (by omega)]; exact k2 q hl, fun b hb => ?_⟩, hlen, fun j d b hj hb => ?_, hnd⟩
  · by_cases hl : b < H.size
    · have hb' : G b ≠ 0 := by rw [← hG b hl]; exact hb
      have := k3 b hb'
      refine ⟨this.1, ?_⟩
      rw [hG b hl]
      exact (this.2.grow hz).kept (hq b hl)
    · exact ⟨by omega, hc b (by omega) hb⟩
  · have hh := hT j d b hj hb
    have key : ck_own d = true ∨ d.1.1 = 3 → b < H.size := fun hk => hnm hj hb hk
    have h1 : ck_tc D AC S tab L ρ G' N H d b := by
      have := hh.mapV (ρ' := ρ) (G' := G') (N' := N) id (fun o => hG b (key (Or.inl o))) (fun o => hG b (key (Or.inr o))) (fun k v _ hv => hv.grow hz)
      simpa using this
    refine h1.kept fun hk => hq b (key ?_)
    rcases hk with z | z | z
    · exact Or.inl (by simp [ck_own, z])
    · exact Or.inl (by simp [ck_own, z])
    · exact Or.inr z
/-- new int[n][k], typed -/
theorem cw_multi (hexec : p.tables.exec = Jvm.exec) (hb : c.code = cc) (hown : s.vm.findClass own = some m.cls) (hK : va_K D ck_cl (ck_tys AC) s) {idx τo τi n k : Nat} {sgo sgi : List (Nat × ck_V)} {qn qk : ck_Q} (hclk : (Cond.classLink own idx "[[I").before args s = true) (hover : (Cond.arrayOver (.array .int)).before args s = true) (harr : (Cond.arrayClass .int).before args s = true)
    (ho : tab[τo]? = some (.inl (7, n, sgo))) (hi : tab[τi]? = some (.inl (0, k, sgi))) (zo : τo ≠ 0) (zi : τi ≠ 0) (hso : sgo.all (fun q => ck_le (.inr (.inr (2, τi))) q.2) = true) (hsi : ck_dk 0 sgi = true) (hn : qn.1 = (n : Int) ∧ qn.2.1 = (n : Int)) (hk : qk.1 = (k : Int) ∧ qk.2.1 = (k : Int)) (hn6 : n ≤ 60000) (hk6 : k ≤ 60000)
    (hc : cells + (1 + n) ≤ R.cells) (hs : slots + (n + n * k) ≤ R.slots) (hd : decode cc pc = .ok (.multianewarray idx 2, 4))
    (kk : ck_W p l e R s m args below meth c Q D AC S tab L nL ρ0 G0 N0 H0 (pc + 4) (A, .inr (.inr (2, τo)) :: st, T) (cells + 1 + n) (slots + n + n * k)) : ck_W p l e R s m args below meth c Q D AC S tab L nL ρ0 G0 N0 H0 pc (A, .inl qk :: .inl qn :: st, T) cells slots := by
  intro H ls vs locs h
  obtain ⟨ρ, G, N, lv, h1, h2, h3, h4, h5, h6, h7⟩ := h
  obtain ⟨_, _, rfl, ⟨xk, rfl, gk⟩, g1⟩ := h3.uncons
  obtain ⟨_, vs', rfl, ⟨xn, rfl, gn⟩, g2⟩ := g1.uncons
  have z0 : (0 : Int32).toInt = 0 := rfl
  have cn : xn.toNatClampNeg = n := by show xn.toInt.toNat = n; have := gn.1; have := gn.2.1; omega
  have ck : xk.toNatClampNeg = k := by show xk.toInt.toNat = k; have := gk.1; have := gk.2.1; omega
  intro U hU X
  obtain ⟨vm₁, cA, comp, -, fA, fC, hO, -, X', step⟩ := X.multianewarray2F hexec hown (ty := .int) hclk hover harr (g := F0 m pc ls (.int xk :: .int xn :: vs')) rfl (by rw [hb]; exact hd) rfl (fun h => by have := Int32.lt_iff_toInt_lt.mp h; have := gn.1; have := gn.2.1; omega) (fun h => by have := Int32.lt_iff_toInt_lt.mp h; have := gk.1; have := gk.2.1; omega) (by rw [cn]; omega) (by rw [ck]; show k * 4 ≤ _; omega) (by rw [ck]; omega) rfl rfl (by rw [cn]; exact hc) (by rw [cn, ck]; exact hs)
  have eI : comp = AC 0 := Option.some.inj (fC.symm.trans (hK.2 0 _ rfl).2)
  have eO : cA = AC 7 := Option.some.inj (fA.symm.trans (hK.2 7 _ rfl).2)
  subst eI
  subst eO
  rw [cn, ck] at X' step
  generalize hF : Jvm.Free.Multi.fill (U.setVm vm₁) (AC 7) (AC 0) n k (defaultValue .int) n = F at X' step
  have hTh : (U.setVm vm₁).heap = H := hU
  obtain ⟨f1, f2, -, -⟩ := Jvm.Free.Multi.fill_facts (U.setVm vm₁) (AC 7) (AC 0) n k (defaultValue .int) n
  rw [hF, hTh] at f1 f2
  have hold : ∀ x : Nat, x < H.size → F.heap[x]? = H[x]? := fun x hx => by
    have := Jvm.Free.Multi.fill_old (U.setVm vm₁) (AC 7) (AC 0) n k (defaultValue .int) (a := x) (by rw [hTh]; exact hx) n
    rw [hF, hTh] at this
    exact this
  have hrow : ∀ j : Nat, j < n → F.heap[H.size + 1 + j]? = some (arrV (AC 0) k (fun _ => .int 0)) := fun j hj => by
    have := Jvm.Free.Multi.fill_inner (U.setVm vm₁) (AC 7) (AC 0) n k (defaultValue .int) n j hj
    rw [hF, hTh] at this
    rw [this, ← arrV_new]
    rfl
  have hout : ∀ (N h0 i : Nat), Jvm.Free.Multi.outerC (AC 7) N h0 i = arrV (AC 7) N (fun j => if j < i then .ref (h0 + 1 + j) else .null) := by
    intro N h0 i
    induction i with
    | zero =>
      show ({ cls := AC 7, slots := Array.replicate N .null, vm := .none } : Cell) = _
      rw [arrV_new]
      exact congrArg (arrV (AC 7) N) (funext fun j => by simp)
    | succ i ih =>
      show (Jvm.Free.Multi.outerC (AC 7) N h0 i).setSlot i (.ref (h0 + 1 + i)) = _
      rw [ih, arrV_store]
      refine congrArg (arrV (AC 7) N) (funext fun j => ?_)
      by_cases e : j = i
      · subst e
        simp [updV]
      · by_cases h : j < i
        · simp [updV, e, h, Nat.lt_succ_of_lt h]
        · simp [updV, e, h, show ¬ j < i + 1 by omega]
  rw [hout] at f2
  have hG' : ∀ q, q < H.size → (fun q => if q = H.size then τo else if H.size < q ∧ q < H.size + 1 + n then τi else G q) q = G q := fun q hq => by
    show (if q = H.size then τo else if H.size < q ∧ q < H.size + 1 + n then τi else G q) = G q
    rw [if_neg (by omega), if_neg (by omega)]
  generalize hGe : (fun q => if q = H.size then τo else if H.size < q ∧ q < H.size + 1 + n then τi else G q) = G' at hG'
  have ge : ∀ q, G' q = if q = H.size then τo else if H.size < q ∧ q < H.size + 1 + n then τi else G q := fun q => by rw [← hGe]
  have hzz : ∀ q, G q ≠ 0 → G' q = G q := fun q hne => by
    by_cases hl : q < H.size
    · exact hG' q hl
    · exact absurd (h4.zero (by omega)) hne
  have hH : ck_H D AC S tab L ρ G' N T F.heap := by
    refine h4.newMany (by omega) hold hG' (fun q hq hne => ?_)
    by_cases e1 : q = H.size
    · subst e1
      have e2 : G' H.size = τo := by rw [ge, if_pos rfl]
      rw [e2]
      unfold ck_ty
      rw [ho]
      refine ⟨_, f2, fun j hj => ?_⟩
      rw [if_pos hj]
      refine ck_kat_all (P := fun kd => ck_R S (fun _ => 0) G' [] kd (.ref (H.size + 1 + j))) (fun q hq => ?_) trivial j
      have := List.all_eq_true.mp hso q hq
      refine ck_R.le this ⟨H.size + 1 + j, rfl, ?_, zi⟩
      rw [ge, if_neg (by omega), if_pos (by omega)]
    · by_cases e2 : H.size < q ∧ q < H.size + 1 + n
      · have e3 : G' q = τi := by rw [ge, if_neg e1, if_pos e2]
        rw [e3]
        unfold ck_ty
        rw [hi]
        have := hrow (q - H.size - 1) (by omega)
        rw [show H.size + 1 + (q - H.size - 1) = q by omega] at this
        refine ⟨_, this, fun j hj => ?_⟩
        refine ck_kat_all (P := fun kd => ck_R S (fun _ => 0) G' [] kd (.int 0)) (fun q hq => ?_) trivial j
        have := List.all_eq_true.mp hsi q hq
        simp only [Bool.and_eq_true] at this
        exact ck_R.le this.1 ⟨0, rfl, by decide, by decide, fun g c q => by cases q⟩
      · exfalso
        apply hne
        rw [ge, if_neg e1, if_neg e2]
        exact h4.zero hq
  obtain ⟨t, a1, b1⟩ := kk F.heap ls (.ref H.size :: vs') locs ⟨ρ, G', N, lv, h1, ck_allL_grow hzz h2, ck_all.cons ⟨H.size, rfl, by rw [ge, if_pos rfl], zo⟩ (ck_all_grow hzz g2), hH, h5.new (by omega) hold hG' ⟨[], by simp⟩ (fun i c a hc ha ho => Or.inl ⟨c, hc, ha, ho⟩), h6, h7⟩ F rfl X'
  refine ⟨t, step t ?_, b1⟩
  have e : U.heap.size = H.size := by rw [hU]
  rw [e]
  exact a1
/-! a cell of one's own is given up to a type -/
def ck_cv (i τ : Nat) : ck_V → ck_V
  | .inr (.inr (1, j)) => if i == j then .inr (.inr (2, τ)) else .inr (.inr (1, j))
  | x => x
def ck_clo (i τ : Nat) (A : ck_A) : ck_A := (A.1.map (fun q => (q.1, ck_cv i τ q.2)), A.2.1.map (ck_cv i τ), (A.2.2.set i ((2, 0), [])).map (fun c => (c.1, c.2.map (ck_cv i τ))))
theorem ck_cv_ok {i τ a : Nat} {ρ : Nat → Int} {G : Nat → Nat} {N : List Nat} {k : ck_V} {v : Value} (hi : N[i]? = some a) (ha : G a = 0) (hz : τ ≠ 0) (h : ck_R S ρ G N k v) : ck_R S ρ (ck_up G a τ) N (ck_cv i τ k) v := by
  have hg : ∀ q, G q ≠ 0 → ck_up G a τ q = G q := fun q hne => by
    unfold ck_up
    rw [if_neg (fun e => hne (by rw [e]; exact ha))]
  match k, h with
  | .inl q, h => exact h
  | .inr (.inl q), h => exact h
  | .inr (.inr (0, _)), h => exact h
  | .inr (.inr (1, j)), h =>
    obtain ⟨b, h1, h2⟩ := h
    show ck_R S ρ (ck_up G a τ) N (if i == j then .inr (.inr (2, τ)) else .inr (.inr (1, j))) v
    by_cases e : (i == j) = true
    · rw [if_pos e]
      have e : i = j := by simpa using e
      subst e
      cases hi.symm.trans h1
      exact ⟨a, h2, by unfold ck_up; rw [if_pos rfl], hz⟩
    · rw [if_neg e]
      exact ⟨b, h1, h2⟩
  | .inr (.inr (2, τ')), h => exact h.grow hg
  | .inr (.inr (3, j)), h => exact h
  | .inr (.inr (4, _)), h => exact h
  | .inr (.inr (n + 5, _)), h => exact h
/-- does a cell of one's own fit a type? -/
def ck_fitsT (tab : List ck_D) (i τ : Nat) (c : ck_C) : Bool := match tab[τ]?, c.1 with
  | some (.inr (ci, ks)), (0, cj) => ci == cj && ks.length == c.2.length && (ks.zip c.2).all (fun q => ck_le (ck_cv i τ q.2) q.1 && ck_plain q.1)
  | some (.inl (ac, n, sg)), (1, ad) => ac == ad && n == c.2.length && (c.2.zipIdx).all (fun q => ck_le (ck_cv i τ q.1) (ck_kat sg q.2) && ck_plain (ck_kat sg q.2))
  | _, _ => false
theorem ck_fitsT_ok {i τ a : Nat} {c : ck_C} {ρ : Nat → Int} {G : Nat → Nat} {N : List Nat} {H : Heap} (hf : ck_fitsT tab i τ c = true) (ht : ck_tc D AC S tab L ρ G N H c a) (hi : N[i]? = some a) (hz : τ ≠ 0) : ck_ty D AC S tab (ck_up G a τ) τ a H ∧ ck_own c = true := by
  unfold ck_fitsT at hf
  obtain ⟨⟨k, n⟩, fs⟩ := c
  split at hf
  · rename_i ci ks cj h1 h2
    cases h2
    obtain ⟨l1, l2, vs, z1, z2⟩ := ht
    simp only [Bool.and_eq_true, beq_iff_eq] at hf
    obtain ⟨⟨e1, e2⟩, e3⟩ := hf
    subst e1
    refine ⟨?_, rfl⟩
    unfold ck_ty
    rw [h1]
    refine ⟨vs, z1, by rw [e2]; exact z2.1, fun j kd v hk hv => ?_⟩
    have hj : j < fs.length := by rw [← e2]; exact (List.getElem?_eq_some_iff.mp hk).1
    have hfj : fs[j]? = some fs[j] := List.getElem?_eq_getElem hj
    have hm : (kd, fs[j]) ∈ ks.zip fs := List.mem_of_getElem? (i := j) (by rw [List.getElem?_zip_eq_some]; exact ⟨hk, hfj⟩)
    have := List.all_eq_true.mp e3 _ hm
    simp only [Bool.and_eq_true] at this
    exact ((ck_cv_ok hi l2 hz (z2.2 j _ _ hfj hv)).le this.1).plain this.2
  · rename_i ac n' sg ad h1 h2
    cases h2
    obtain ⟨l1, l2, f, z1, z2⟩ := ht
    simp only [Bool.and_eq_true, beq_iff_eq] at hf
    obtain ⟨⟨e1, e2⟩, e3⟩ := hf
    subst e1
    subst e2
    refine ⟨?_, rfl⟩
    unfold ck_ty
    rw [h1]
    refine ⟨f, z1, fun j hj => ?_⟩
    have hfj : fs[j]? = some fs[j] := List.getElem?_eq_getElem hj
    have hm : (fs[j], j) ∈ fs.zipIdx := List.mem_of_getElem? (i := j) (by rw [List.getElem?_zipIdx, hfj]; simp)
    have := List.all_eq_true.mp e3 _ hm
    simp only [Bool.and_eq_true] at this
    exact ((ck_cv_ok hi l2 hz (z2 j _ hfj)).le this.1).plain this.2
  · cases hf
theorem cw_close {B : ck_A} {i τ : Nat} {d : ck_C} (hi : B.2.2[i]? = some d) (hf : ck_fitsT tab i τ d = true) (hz : τ ≠ 0) (hn : N0.length ≤ i)
    (kk : ck_W p l e R s m args below meth c Q D AC S tab L nL ρ0 G0 N0 H0 pc (ck_clo i τ B) cells slots) : ck_W p l e R s m args below meth c Q D AC S tab L nL ρ0 G0 N0 H0 pc B cells slots := by
  intro H ls vs locs h
  obtain ⟨ρ, G, N, lv, h1, h2, h3, h4, h5, h6, h7⟩ := h
  obtain ⟨⟨k1, k2, k3⟩, hlen, hT, hnd⟩ := id h4
  have hil : i < B.2.2.length := (List.getElem?_eq_some_iff.mp hi).1
  have ha : N[i]? = some N[i] := List.getElem?_eq_getElem (by omega)
  generalize N[i] = a at ha
  have htc := hT i d a hi ha
  obtain ⟨hty, hod⟩ := ck_fitsT_ok hf htc ha hz
  obtain ⟨a1, a2, a3⟩ := htc.own hod
  have hzz : ∀ q, G q ≠ 0 → ck_up G a τ q = G q := fun q hne => by
    unfold ck_up
    rw [if_neg (fun e => hne (by rw [e]; exact a2))]
  have hdi : ∀ (j : Nat) (d' : ck_C) (b : Nat), (B.2.2.set i ((2, 0), []))[j]? = some d' → N[j]? = some b → (j = i ∧ d' = ((2, 0), [])) ∨ (j ≠ i ∧ B.2.2[j]? = some d' ∧ (ck_own d' = true ∨ d'.1.1 = 3 → b ≠ a)) := by
    intro j d' b hj hb
    by_cases ej : i = j
    · subst ej
      rw [List.getElem?_set_self hil] at hj
      cases hj
      exact Or.inl ⟨rfl, rfl⟩
    · rw [List.getElem?_set_ne ej] at hj
      refine Or.inr ⟨Ne.symm ej, hj, fun hk eb => ?_⟩
      subst eb
      rcases hk with o | o
      · exact ej (hnd i j d d' b hi hj hod o ha hb)
      · have := hT j d' b hj hb
        unfold ck_tc at this
        obtain ⟨⟨q1, q2⟩, fs⟩ := d'
        dsimp only at o
        subst o
        exact this.2.1 (this.1.symm.trans a2)
  refine kk H ls vs locs ⟨ρ, ck_up G a τ, N, lv, h1, h2.map _ (fun q w hq => ⟨hq.1, ck_cv_ok ha a2 hz hq.2⟩), h3.map _ (fun q w hq => ck_cv_ok ha a2 hz hq), ⟨⟨k1, k2, fun b hb => ?_⟩, by simp [ck_clo, hlen], fun j d' b hj hb => ?_, fun j1 j2 d1 d2 b e1 e2 o1 o2 n1 n2 => ?_⟩, ?_, h6, h7⟩
  · by_cases e : b = a
    · subst e
      have : ck_up G b τ b = τ := by unfold ck_up; rw [if_pos rfl]
      rw [this]
      exact ⟨a1, hty⟩
    · have e2 : ck_up G a τ b = G b := by unfold ck_up; rw [if_neg e]
      rw [e2] at hb ⊢
      exact ⟨(k3 b hb).1, (k3 b hb).2.grow hzz⟩
  · simp only [ck_clo, List.getElem?_map] at hj
    obtain ⟨d0, hd0, rfl⟩ := Option.map_eq_some_iff.mp hj
    rcases hdi j d0 b hd0 hb with ⟨-, rfl⟩ | ⟨-, hj', hne⟩
    · exact trivial
    · exact (hT j d0 b hj' hb).mapV (ck_cv i τ) (fun o => by unfold ck_up; rw [if_neg (hne (Or.inl o))]) (fun o => by unfold ck_up; rw [if_neg (hne (Or.inr o))]) (fun k v _ hv => ck_cv_ok ha a2 hz hv)
  · simp only [ck_clo, List.getElem?_map] at e1 e2
    obtain ⟨d1', hd1, rfl⟩ := Option.map_eq_some_iff.mp e1
    obtain ⟨d2', hd2, rfl⟩ := Option.map_eq_some_iff.mp e2
    rcases hdi j1 d1' b hd1 n1 with ⟨-, rfl⟩ | ⟨-, x1, -⟩
    · simp [ck_own] at o1
    · rcases hdi j2 d2' b hd2 n2 with ⟨-, rfl⟩ | ⟨-, x2, -⟩
      · simp [ck_own] at o2
      · exact hnd j1 j2 d1' d2' b x1 x2 o1 o2 n1 n2
  · obtain ⟨f1, f2, f3, f4, f5, f6⟩ := h5
    have hia := f6 i d a hi ha hod hn
    refine ⟨f1, fun q hq => ?_, f3, f4, f5, fun j d' b hj hb ho hn' => ?_⟩
    · unfold ck_up
      rw [if_neg (by omega)]
      exact f2 q hq
    · simp only [ck_clo, List.getElem?_map] at hj
      obtain ⟨d0, hd0, rfl⟩ := Option.map_eq_some_iff.mp hj
      rcases hdi j d0 b hd0 hb with ⟨-, rfl⟩ | ⟨-, x1, -⟩
      · simp [ck_own] at ho
      · exact f6 j d0 b x1 hb ho hn'
/-! ghosts: one that nobody uses is set -/
def ck_ug (g : Nat) : ck_V → Bool
  | .inl (_, _, some (h, _)) => g == h
  | _ => false
def ck_ugA (g : Nat) (A : ck_A) : Bool := A.1.any (fun q => ck_ug g q.2) || A.2.1.any (ck_ug g) || A.2.2.any (fun c => c.2.any (ck_ug g))
theorem ck_R.ghost {ρ ρ' : Nat → Int} {G : Nat → Nat} {N : List Nat} {k : ck_V} {v : Value} {g : Nat} (hg : ∀ h, h ≠ g → ρ' h = ρ h) (hk : ck_ug g k = false) (h : ck_R S ρ G N k v) : ck_R S ρ' G N k v := by
  match k, hk, h with
  | .inl (a, b, none), _, h =>
    obtain ⟨x, e, x1, x2, -⟩ := h
    exact ⟨x, e, x1, x2, fun g c q => by cases q⟩
  | .inl (a, b, some (t, n)), hk, h =>
    obtain ⟨x, e, x1, x2, x3⟩ := h
    refine ⟨x, e, x1, x2, fun g' c' q => ?_⟩
    cases q
    have hne : ¬ g = t := by simpa [ck_ug] using hk
    rw [hg t (Ne.symm hne)]
    exact x3 t n rfl
  | .inr (.inl q), _, h => exact h
  | .inr (.inr (0, _)), _, h => exact h
  | .inr (.inr (1, i)), _, h => exact h
  | .inr (.inr (2, τ)), _, h => exact h
  | .inr (.inr (3, j)), _, h => exact h
  | .inr (.inr (4, _)), _, h => exact h
  | .inr (.inr (n + 5, _)), _, h => exact h
end CKO
end
section
/-! ===== what holds at every method's beginning; contracts ===== -/
theorem ck_AOA {A A' : Array Value} {t : FieldType} {u U : State} (hvm : u.vm.Alike U.vm) (h : (Cond.arrayOver (.array t)).before A u = true) : (Cond.arrayOver (.array t)).before A' U = true := by
  obtain ⟨comp, c, k, h1, h2, h3, h4, h5⟩ := arrayOverA_spec h
  obtain ⟨k', hk', he⟩ := hvm.2.2 _ _ h3
  have hi : (U.vm.classes.findIdx? fun (x : Class) => match x.kind with | .array component _ => component == comp | _ => false) = some c := by
    rw [hvm.findIdx?_eq _ (fun _ => rfl)]
    exact h2
  have hkind : k'.kind = .array comp (.array t) := by rw [he]; exact h4
  have f1 : U.vm.findClass (FieldType.array t).toString = some comp := by rw [hvm.findClass]; exact h1
  have f2 : U.vm.findClass ("[" ++ (FieldType.array t).toString) = some c := by rw [hvm.findClass]; exact h5
  unfold Cond.before Cond.holds
  simp only [Cond.value]
  rw [f1, Option.bind_some]
  refine (congrArg (fun o : Option Nat => (o.bind (fun c => (U.vm.classes[c]?).map fun (k : Class) => match k.kind with | .array _ ty => decide (ty = FieldType.array t) && decide (U.vm.findClass ("[" ++ (FieldType.array t).toString) = some c) | _ => false) == some true)) hi).trans ?_
  simp [hk', hkind, f2]
theorem ck_move {args args' : Array Value} {s U : State} {w : Cond} (hm : ck_mv w = true) (hW : s.WarmedH U.vm) (h : w.before args s = true) : w.before args' U = true := by
  unfold ck_mv at hm
  split at hm
  · exact va_Nw.use rfl (va_Nw.warmM hW (va_Nw.of rfl h))
  · exact word_at hW (Or.inr ⟨_, rfl⟩) h
  · exact va_AO.use (va_AO.moved hW.alike (va_AO.of h))
  · exact ck_AOA hW.alike h
  · simp only [Bool.and_eq_true, Bool.or_eq_true] at hm
    rcases hm.2 with k | k
    · exact word_at hW (Or.inl (by simp [hm.1, k])) h
    · have h1 := Cond.before_shiftedFace (args := args) (State.Shifted.of_warmed hW) _ k h
      exact va_tabs hm.1 (rfl : (s.setVm U.vm).vm = U.vm) h1
/-- a static field that holds a reference: all that is asked of it -/
def ck_ls (o n d : String) (L : Heap) (s : State) : Prop := ∃ (c : ClassId) (k : Class) (i : Nat) (f : Field) (a : Nat) (cell : Cell) (v : Value), s.vm.findClass o = some c ∧ s.fieldFound? o n d = some (c, k, i, f) ∧ f.isStatic = true ∧ k.statics = some a ∧ L[a]? = some cell ∧ cell.vm.isStatics = true ∧ cell.cls = c ∧ f.slot < cell.slots.size ∧ k.staticTypes[f.slot]? = some f.type ∧ cell.slots[f.slot]? = some v ∧ (v = .null ∨ ∃ t, v = .ref t)
theorem ck_ls.moved {o n d : String} {L : Heap} {u U : State} (hvm : u.vm.Alike U.vm) (h : ck_ls o n d L u) : ck_ls o n d L U := by
  obtain ⟨c, k, i, f, a, cell, v, h1, h2, h3, h4, h5, h6, h7, h8, h9, h10, h11⟩ := h
  obtain ⟨k', hi', he⟩ := State.fieldFound?_setVm hvm h2
  exact ⟨c, k', i, f, a, cell, v, by rw [hvm.findClass]; exact h1, hi', h3, by rw [he]; exact h4, h5, h6, h7, h8, by rw [he]; exact h9, h10, h11⟩
theorem ck_ls.of {o n d : String} {args : Array Value} {s : State} (hl : (Cond.laysStatic o n d).before args s = true) (hr : (Cond.isRef (.static o n d)).before args s = true) : ck_ls o n d s.heap s := by
  obtain ⟨c, k, i, f, a, cell, h1, h2, h3, h4, h5, h6, h7, h8, h9⟩ := Cond.laysStatic_spec hl
  cases hv : (Term.static o n d).eval args s none [] s with
  | none => simp [Cond.before, Cond.holds, Cond.value, hv] at hr
  | some w =>
    obtain ⟨-, a', cell', ha', hcell', -, hslot⟩ := Term.static_spec h2 hv
    cases h4.symm.trans ha'
    cases h5.symm.trans hcell'
    refine ⟨c, k, i, f, a, cell, w, h1, h2, h3, h4, h5, h6, h7, h8, h9, hslot, ?_⟩
    simp only [Cond.before, Cond.holds, Cond.value, hv] at hr
    cases w with
    | null => exact Or.inl rfl
    | ref t => exact Or.inr ⟨t, rfl⟩
    | _ => simp at hr
theorem ck_ls.lays {o n d : String} {L : Heap} {args : Array Value} {s : State} (h : ck_ls o n d L s) (hq : ∀ q, q < L.size → s.heap[q]? = L[q]?) : (Cond.laysStatic o n d).before args s = true := by
  obtain ⟨c, k, i, f, a, cell, v, h1, h2, h3, h4, h5, h6, h7, h8, h9, h10, h11⟩ := h
  have h5' : s.heap[a]? = some cell := by rw [hq a (Array.getElem?_eq_some_iff.mp h5).1]; exact h5
  simp [Cond.before, Cond.holds, Cond.value, h1, h2, h3, h4, h5', h6, h7, h8, h9]
theorem ck_ls.isref {o n d : String} {L : Heap} {args : Array Value} {s : State} (h : ck_ls o n d L s) (hq : ∀ q, q < L.size → s.heap[q]? = L[q]?) : (Cond.isRef (.static o n d)).before args s = true := by
  obtain ⟨c, k, i, f, a, cell, v, h1, h2, h3, h4, h5, h6, h7, h8, h9, h10, h11⟩ := h
  have h5' : s.heap[a]? = some cell := by rw [hq a (Array.getElem?_eq_some_iff.mp h5).1]; exact h5
  have hn : s.fieldNamed? o n d true = some (c, k, f.slot) := by
    unfold State.fieldNamed?
    simp [h2, h3]
  have hev : (Term.static o n d).eval args s none [] s = some v := by
    simp [Term.eval, hn, h4, h5', h6, h10]
  rcases h11 with rfl | ⟨t, rfl⟩ <;> simp [Cond.before, Cond.holds, Cond.value, hev]
def ck_strs : List (String × Nat × String) := [("RatchetDesk", 274, "there is no such thing"), ("RatchetDesk", 279, "there is no room for one more"), ("RatchetDesk", 132, "nobody begins with himself"), ("RatchetDesk", 189, "not a byte")]
def ck_xn (x : Nat) : String := if x == 0 then "java/lang/IndexOutOfBoundsException" else if x == 1 then "java/lang/IllegalStateException" else "java/lang/IllegalArgumentException"
def ck_tN : String := "java/lang/Throwable"
def ck_Kf (D : va_G) (AC : Nat → ClassId) (S : Nat → Nat) (L : Heap) (s : State) (nS : Nat) : Prop :=
  va_K D ck_cl (ck_tys AC) s ∧ (∀ w ∈ ck_tb, w.before #[] s = true) ∧ va_Z "RatchetDesk$Hash" "SQUARE_ROOTS" "[I" (.ref (S 0)) (fun q => L.size ≤ q) s L ∧ ck_sta S L s 0 8 ∧ va_Z "RatchetDesk$Hash" "CUBE_ROOTS" "[I" (.ref (S 1)) (fun q => L.size ≤ q) s L ∧ ck_sta S L s 1 64 ∧ ck_sta S L s 2 nS ∧
  ck_ls "java/lang/Throwable" "UNASSIGNED_STACK" "[Ljava/lang/StackTraceElement;" L s ∧ ck_ls "java/lang/Throwable" "SUPPRESSED_SENTINEL" "Ljava/util/List;" L s ∧ (∀ q ∈ ck_strs, ∃ a, vk_R q.1 q.2.1 q.2.2 a s) ∧ ∀ x y : Nat, x < 3 → y < 3 → x ≠ y → va_Nc (ck_xn x) (ck_xn y) s
theorem ck_sta.moved {S : Nat → Nat} {L : Heap} {u U : State} {j n : Nat} (hvm : u.vm.Alike U.vm) (h : ck_sta S L u j n) : ck_sta S L U j n := by
  obtain ⟨cell, h1, h2, h3, h4⟩ := h
  exact ⟨cell, h1, h2, State.isArrayOf_alike hvm h3, h4⟩
theorem ck_Kf.moved {D : va_G} {AC : Nat → ClassId} {S : Nat → Nat} {L : Heap} {s U : State} {nS : Nat} (hW : s.WarmedH U.vm) (h : ck_Kf D AC S L s nS) : ck_Kf D AC S L U nS := by
  obtain ⟨h1, h2, h3, h4, h5, h6, h7, h8, h9, h10, h11⟩ := h
  exact ⟨h1.moved hW.alike, fun w hw => ck_move (List.mem_filter.mp hw).2 hW (h2 w hw), h3.moved hW.alike, h4.moved hW.alike, h5.moved hW.alike, h6.moved hW.alike, h7.moved hW.alike, h8.moved hW.alike, h9.moved hW.alike, fun q hq => by
    obtain ⟨a, ha⟩ := h10 q hq
    exact ⟨a, ha.warm hW⟩, fun x y hx hy hne => (h11 x y hx hy hne).moved hW.alike⟩
theorem ck_Kf.ts {D : va_G} {AC : Nat → ClassId} {S : Nat → Nat} {L : Heap} {s : State} {nS : Nat} (h : ck_Kf D AC S L s nS) {args : Array Value} : ∀ w ∈ ck_tb, w.before args s = true := fun w hw => ck_move (List.mem_filter.mp hw).2 (State.WarmedH.refl s) (h.2.1 w hw)
/-! contracts: arguments; named cells before and behind; the answer, or the exception; frames, words, cells, slots -/
abbrev ck_Ct : Type := List ck_V × List ck_C × List ck_C × (Option ck_V ⊕ Nat) × (Nat × Nat × Nat × Nat)
abbrev ck_M : Type := MethodName × ByteArray × Nat × Option FieldType × List (Nat × Nat × Nat × Nat)
def ck_tagF (b : Nat) : List ck_V → Nat → List ck_V
  | [], _ => []
  | .inl (lo, hi, _) :: t, k => .inl (lo, hi, some (b + k, 0)) :: ck_tagF b t (k + 1)
  | x :: t, k => x :: ck_tagF b t (k + 1)
def ck_etag : List ck_C → List ck_C
  | [] => []
  | (h, fs) :: t => (h, ck_tagF 100 fs 0) :: t
def ck_Ps (D : va_G) (AC : Nat → ClassId) (S : Nat → Nat) (tab : List ck_D) (L : Heap) (ρ0 : Nat → Int) (G0 : Nat → Nat) (N0 : List Nat) (H0 : Heap) (s : State) (K : ck_Ct) (o : Outcome) (H : Heap) : Prop :=
  ∃ (ρ : Nat → Int) (G : Nat → Nat) (N : List Nat), ck_H D AC S tab L ρ G N K.2.2.1 H ∧ ck_F G0 N0 H0 G N K.2.2.1 H ∧ (∀ g, 100 ≤ g → g < 200 → ρ g = ρ0 g) ∧ match K.2.2.2.1 with
    | .inl none => o = .returned none
    | .inl (some k) => ∃ w, o = .returned (some w) ∧ ck_R S ρ G N k w
    | .inr x => ∃ (a : Nat) (cell : Cell), o = .threw a ∧ H[a]? = some cell ∧ cell.vm.isStatics = false ∧ s.vm.findClass (ck_xn x) = some cell.cls
def ck_Fin (D : va_G) (AC : Nat → ClassId) (S : Nat → Nat) (tab : List ck_D) (L : Heap) (ρ0 : Nat → Int) (G0 : Nat → Nat) (N0 : List Nat) (K : ck_Ct) (below : List Frame) (s : State) : State → Prop := fun t =>
  ∃ o, t.status = .running ∧ Ended t below o ∧ s.WarmedH t.vm ∧ (∃ Ls : List Loc, s.sameButNew ({ t with vm := s.vm } : State) Ls K.2.2.2.2.2.2.1 K.2.2.2.2.2.2.2 ∧ ∀ q ∈ Ls, L.size ≤ q.base) ∧ ck_Ps D AC S tab L ρ0 G0 N0 s.heap s K o t.heap
def ck_B (p : Program) (s : State) (m : MethodId) (meth : Method) (c : Code) (M : ck_M) : Prop :=
  p.tables.exec = Jvm.exec ∧ c.code = M.2.1 ∧ c.maxLocals = M.2.2.1 ∧ meth.sig.returnType = M.2.2.2.1 ∧ meth.locks = false ∧ s.vm.findClass M.1.cls = some m.cls ∧ c.exceptionTable.toList.map (fun h => (h.startPc, h.endPc, h.handlerPc, h.catchType)) = M.2.2.2.2 ∧ meth.name = M.1.name
def ck_Ok (l : Launch) (tab : List ck_D) (nS : Nat) (M : ck_M) (K : ck_Ct) : Prop :=
  ∀ (p : Program) (e : Env) (R : Room) (s : State) (m : MethodId) (args : Array Value) (below : List Frame) (meth : Method) (c : Code) (D : va_G) (AC : Nat → ClassId) (S : Nat → Nat) (L : Heap) (ρ0 : Nat → Int) (G0 : Nat → Nat) (N0 : List Nat) (vs : List Value),
    ck_B p s m meth c M → e.platform.stackTraces = false → K.2.2.2.2.1 ≤ R.frames → K.2.2.2.2.2.1 ≤ R.locals → K.2.2.2.2.2.2.1 ≤ R.cells → K.2.2.2.2.2.2.2 ≤ R.slots → ck_Kf D AC S L s nS → args = vs.toArray → ck_all (ck_R S ρ0 G0 N0) K.1 vs → ck_H D AC S tab L ρ0 G0 N0 (ck_etag K.2.1) s.heap →
    W p l e R s m args below meth c s.heap [] 0 0 (ck_Fin D AC S tab L ρ0 G0 N0 K below s) (entryFrame m args M.2.2.1)
/-! entering and leaving a called method -/
theorem ck_weaken {tb : Tables} {e : Env} {mid below : List Frame} {a b : State} (h : Steps tb e (mid ++ below) a b) : Steps tb e below a b := by
  obtain ⟨n, h1, h2⟩ := h
  exact ⟨n, h1, fun k hk => (h2 k hk).weaken⟩
section CKI
variable {p : Program} {l : Launch} {e : Env} {R : Room} {s : State} {m : MethodId} {args : Array Value} {below : List Frame} {meth : Method} {c : Code} {T : State} {locs : List Loc} {cells slots : Nat}
def ck_Inv (p : Program) (l : Launch) (e : Env) (R : Room) (s : State) (m : MethodId) (args : Array Value) (below : List Frame) (meth : Method) (c : Code) (locs : List Loc) (cells slots : Nat) (T : State) (y : MethodName) (g : JFrame) (rest : List Value) (a : Array Value) : Prop :=
  ∃ (vm₁ : Vm) (mk : MethodId), s.WarmedH vm₁ ∧ Stand p l e R s m args below meth c (T.setVm vm₁) locs cells slots ∧ s.methodNamed? y = some mk ∧ ∀ target, Steps p.tables e below (doInvoke e ((T.setVm vm₁).setTop { g with stack := rest }) [] mk a).1 target → Steps p.tables e below (T.setTop g) target
/-- a method is called, and either comes back, or its exception does -/
theorem ck_call {tab : List ck_D} {nS : Nat} {M : ck_M} {K : ck_Ct} (hO : ck_Ok l tab nS M K) {g : JFrame} {rest : List Value} {a : Array Value} (hinv : ck_Inv p l e R s m args below meth c locs cells slots T M.1 g rest a) (hexec : p.tables.exec = Jvm.exec) (hg : g.method = m) (hsize : g.locals.size = c.maxLocals) {ig : Instr} (hdg : decode c.code g.pc = .ok (ig, 3))
    (hcode : (Cond.codeWith M.1 M.2.1 M.2.2.1 M.2.2.2.1 M.2.2.2.2).before args s = true) (hplain : plainName M.1.cls = true) (htr : e.platform.stackTraces = false) (hfr : K.2.2.2.2.1 + 1 ≤ R.frames) (hlo : 2 * g.monitorRoom + (rest.map fun v => v.category).sum + (M.2.2.1 + 11) + K.2.2.2.2.2.1 ≤ R.locals) (hce : cells + K.2.2.2.2.2.2.1 ≤ R.cells) (hsl : slots + K.2.2.2.2.2.2.2 ≤ R.slots)
    {D : va_G} {AC : Nat → ClassId} {S : Nat → Nat} {L : Heap} {ρ0 : Nat → Int} {G0 : Nat → Nat} {N0 : List Nat} {vs : List Value} (hK : ck_Kf D AC S L s nS) (ha : a = vs.toArray) (hv : ck_all (ck_R S ρ0 G0 N0) K.1 vs) (hH : ck_H D AC S tab L ρ0 G0 N0 (ck_etag K.2.1) T.heap) :
    ∃ (T' : State) (Ls : List Loc) (o : Outcome) (U : State), Stand p l e R s m args below meth c T' (locs ++ Ls) (cells + K.2.2.2.2.2.2.1) (slots + K.2.2.2.2.2.2.2) ∧ (∀ q ∈ Ls, L.size ≤ q.base) ∧ s.WarmedH U.vm ∧ ck_Ps D AC S tab L ρ0 G0 N0 T.heap U K o T'.heap ∧
      (∀ v, o = .returned v → ∀ target, Steps p.tables e below (T'.setTop { g with pc := g.pc + 3, stack := v.toList ++ rest }) target → Steps p.tables e below (T.setTop g) target) ∧
      (∀ x, o = .threw x → ∀ target, Steps p.tables e below ((T'.setTop { g with stack := rest }).pushFrame (.throwing x)) target → Steps p.tables e below (T.setTop g) target) := by
  obtain ⟨vm₁, mk, hW₁, X, hn, hstep⟩ := hinv
  obtain ⟨m9, methk, ck, hn9, hm9, hc9, hb9, hl9, ht9, hr9, hk9, -⟩ := Cond.codeWith_spec hcode
  cases hn.symm.trans hn9
  have hmk : (T.setVm vm₁).vm.method? mk = some methk := by
    show vm₁.method? mk = some methk
    rw [hW₁.alike.method?]; exact hm9
  have hnT : (T.setVm vm₁).methodNamed? M.1 = some mk := X.named hn
  have hpk : (T.setVm vm₁).plainMethod mk := State.plainMethod.of_name (fun k hk => by
    obtain ⟨k', hk', hnm⟩ := className_of_methodNamed hnT
    cases hk.symm.trans hk'
    rw [hnm]; exact hplain)
  obtain ⟨Y, hent⟩ := X.into (g := { g with stack := rest }) hg hsize hdg a (R' := { frames := K.2.2.2.2.1, locals := K.2.2.2.2.2.1, cells := K.2.2.2.2.2.2.1, slots := K.2.2.2.2.2.2.2 }) hmk hc9 hk9 hpk hfr (by rw [hl9]; exact hlo) hce hsl
  have hclass : ((T.setVm vm₁).calling { g with stack := rest } mk a).vm.findClass M.1.cls = some mk.cls := findClass_of_methodNamed (s := (T.setVm vm₁)) hnT
  have hname : methk.name = M.1.name := (name_of_methodNamed hn hm9).1
  have hWc : s.WarmedH ((T.setVm vm₁).calling { g with stack := rest } mk a).vm := hW₁
  have w := hO p e { frames := K.2.2.2.2.1, locals := K.2.2.2.2.2.1, cells := K.2.2.2.2.2.2.1, slots := K.2.2.2.2.2.2.2 } ((T.setVm vm₁).calling { g with stack := rest } mk a) mk a (.java { g with stack := rest } :: below) methk ck D AC S L ρ0 G0 N0 vs ⟨hexec, hb9, hl9, hr9, hk9, hclass, ht9, hname⟩ htr (Nat.le_refl _) (Nat.le_refl _) (Nat.le_refl _) (Nat.le_refl _) (hK.moved hWc) ha hv hH
  obtain ⟨t, st, o, hrun, hend, hWt, ⟨Ls, hsame, hLs⟩, hps⟩ := w (((T.setVm vm₁).setTop { g with stack := rest }).pushFrame (.java (entryFrame mk a ck.maxLocals))) rfl Y
  have st2 : Steps p.tables e below (doInvoke e ((T.setVm vm₁).setTop { g with stack := rest }) [] mk a).1 t := by
    rw [hent []]
    rw [hl9] at st ⊢
    exact ck_weaken (mid := [.java { g with stack := rest }]) st
  cases o with
  | returned v =>
    obtain ⟨T', X', hWT, hsm, et⟩ := X.outOf (g := { g with stack := rest }) hg hdg hend hWt hsame
    refine ⟨T', Ls, .returned v, (T.setVm vm₁).calling { g with stack := rest } mk a, X', hLs, hWc, ?_, ?_, ?_⟩
    · have : t.heap = T'.heap := by rw [et]; rfl
      rw [← this]
      exact hps
    · intro v' hv' target htg
      cases hv'
      refine hstep target (st2.trans ?_)
      rw [et]
      exact htg
    · intro x hx
      cases hx
  | threw x =>
    obtain ⟨T', X', hWT, hsm, et⟩ := X.outOfThrown (g := { g with stack := rest }) hg hend hWt hsame
    refine ⟨T', Ls, .threw x, (T.setVm vm₁).calling { g with stack := rest } mk a, X', hLs, hWc, ?_, ?_, ?_⟩
    · have : t.heap = T'.heap := by rw [et]; rfl
      rw [← this]
      exact hps
    · intro v' hv'
      cases hv'
    · intro x' hx target htg
      cases hx
      refine hstep target (st2.trans ?_)
      rw [et]
      exact htg
end CKI
end
section
/-! ===== a call, abstractly: what the called one asks, what it leaves ===== -/
def ck_unf (T : List ck_C) : ck_V → ck_V
  | .inr (.inr (1, i)) => match T[i]? with
    | some ((3, τ), _) => .inr (.inr (2, τ))
    | _ => .inr (.inr (1, i))
  | x => x
def ck_la (T : List ck_C) (μ : List Nat) (k : ck_V) : ck_V → Bool
  | .inr (.inr (1, j)) => match μ[j]? with
    | some i => decide (k = .inr (.inr (1, i)))
    | none => false
  | k' => ck_le (ck_unf T k) k' && ck_plain k'
def ck_lc (T : List ck_C) (μ : List Nat) (c c' : ck_C) : Bool := c.1 == c'.1 && (c.1.1 == 0 || c.1.1 == 1 || c.1.1 == 5) && c.2.length == c'.2.length && (c.2.zip c'.2).all (fun q => ck_la T μ q.1 q.2)
def ck_cpre (T : List ck_C) (μ : List Nat) (pre : List ck_C) : Bool := μ.length == pre.length && (μ.zip pre).all (fun q => match T[q.1]? with
    | some c => ck_lc T μ c q.2
    | none => false) && decide μ.Nodup
def ck_pv (f0 : List ck_V) (μ : List Nat) : ck_V → ck_V
  | .inl (lo, hi, some (g, d)) => if 100 ≤ g ∧ g < 200 then (match f0[g - 100]? with
    | some (.inl q) => ck_add q (d, d, none)
    | _ => .inl (lo, hi, none)) else .inl (lo, hi, none)
  | .inr (.inr (1, j)) => match μ[j]? with
    | some i => .inr (.inr (1, i))
    | none => .inr (.inr (8, 0))
  | x => x
def ck_rst (tab : List ck_D) (c : ck_C) : ck_C := match c.1 with
  | (3, τ) => match tab[τ]? with
    | some (.inr (_, ks)) => if ks.all ck_plain then ((3, τ), ks) else ((2, 0), [])
    | _ => ((2, 0), [])
  | _ => c
def ck_f0 (T : List ck_C) (μ : List Nat) : List ck_V := match μ with
  | [] => []
  | i :: _ => match T[i]? with
    | some c => c.2
    | none => []
def ck_mu (T : List ck_C) (μ : List Nat) (post : List ck_C) : List Nat := μ ++ (List.range (post.length - μ.length)).map (fun k => T.length + k)
def ck_cp1 (tab : List ck_D) (f0 : List ck_V) (μ μ' : List Nat) (post : List ck_C) (i : Nat) (c : ck_C) : ck_C := match μ.findIdx? (fun k => k == i) with
  | some j => match post[j]? with
    | some d => (d.1, d.2.map (ck_pv f0 μ'))
    | none => ((2, 0), [])
  | none => ck_rst tab c
def ck_cpost (tab : List ck_D) (T : List ck_C) (μ : List Nat) (post : List ck_C) : List ck_C :=
  (T.mapIdx (fun i c => ck_cp1 tab (ck_f0 T μ) μ (ck_mu T μ post) post i c)) ++ (post.drop μ.length).map (fun d => (d.1, d.2.map (ck_pv (ck_f0 T μ) (ck_mu T μ post))))
section CKC
variable {D : va_G} {AC : Nat → ClassId} {S : Nat → Nat} {tab : List ck_D} {L : Heap} {ρ : Nat → Int} {G : Nat → Nat} {N : List Nat} {T : List ck_C} {H H' : Heap}
theorem ck_unf_ok (h4 : ck_H D AC S tab L ρ G N T H) {k : ck_V} {v : Value} (h : ck_R S ρ G N k v) : ck_R S ρ G N (ck_unf T k) v := by
  match k, h with
  | .inl q, h => exact h
  | .inr (.inl q), h => exact h
  | .inr (.inr (0, _)), h => exact h
  | .inr (.inr (1, i)), h =>
    show ck_R S ρ G N (match T[i]? with | some ((3, τ), _) => .inr (.inr (2, τ)) | _ => .inr (.inr (1, i))) v
    split
    · rename_i τ fs hi
      obtain ⟨a, ha, rfl⟩ := h
      obtain ⟨e1, e2, -⟩ := h4.2.2.1 i _ a hi ha
      exact ⟨a, rfl, e1, e2⟩
    · exact h
  | .inr (.inr (2, τ)), h => exact h
  | .inr (.inr (3, j)), h => exact h
  | .inr (.inr (4, _)), h => exact h
  | .inr (.inr (n + 5, _)), h => exact h
/-- an argument, or a field, as the called one sees it -/
theorem ck_la_ok (h4 : ck_H D AC S tab L ρ G N T H) {μ : List Nat} {ρ0 : Nat → Int} {N0 : List Nat} (hN : ∀ (j i : Nat), μ[j]? = some i → N0[j]? = N[i]?) {k k' : ck_V} {v : Value} (hl : ck_la T μ k k' = true) (h : ck_R S ρ G N k v) : ck_R S ρ0 G N0 k' v := by
  have key : ∀ k' : ck_V, (ck_le (ck_unf T k) k' && ck_plain k') = true → ck_R S ρ0 G N0 k' v := by
    intro k' hl
    simp only [Bool.and_eq_true] at hl
    exact ((ck_unf_ok h4 h).le hl.1).plain hl.2
  match k', hl with
  | .inl q, hl => exact key _ hl
  | .inr (.inl q), hl => exact key _ hl
  | .inr (.inr (0, n)), hl => exact key _ hl
  | .inr (.inr (1, j)), hl =>
    have hl : (match μ[j]? with | some i => decide (k = .inr (.inr (1, i))) | none => false) = true := hl
    split at hl
    · rename_i i hi
      have e : k = .inr (.inr (1, i)) := by simpa using hl
      subst e
      obtain ⟨a, ha, rfl⟩ := h
      exact ⟨a, by rw [hN j i hi]; exact ha, rfl⟩
    · cases hl
  | .inr (.inr (2, τ)), hl => exact key _ hl
  | .inr (.inr (3, n)), hl => exact key _ hl
  | .inr (.inr (4, n)), hl => exact key _ hl
  | .inr (.inr (n + 5, n')), hl => exact key _ hl
theorem ck_tagF_get (b : Nat) : ∀ (fs : List ck_V) (k0 k : Nat), (ck_tagF b fs k0)[k]? = (fs[k]?).map (fun v => match v with | .inl (lo, hi, _) => .inl (lo, hi, some (b + (k0 + k), 0)) | x => x)
  | [], k0, k => by simp [ck_tagF]
  | .inl (lo, hi, t) :: r, k0, k => by
    cases k with
    | zero => simp [ck_tagF]
    | succ k =>
      show (ck_tagF b r (k0 + 1))[k]? = _
      rw [ck_tagF_get b r (k0 + 1) k]
      simp [Nat.add_comm, Nat.add_left_comm]
  | .inr x :: r, k0, k => by
    cases k with
    | zero => simp [ck_tagF]
    | succ k =>
      show (ck_tagF b r (k0 + 1))[k]? = _
      rw [ck_tagF_get b r (k0 + 1) k]
      simp [Nat.add_comm, Nat.add_left_comm]
theorem ck_tagF_len (b : Nat) : ∀ (fs : List ck_V) (k0 : Nat), (ck_tagF b fs k0).length = fs.length
  | [], _ => rfl
  | .inl (lo, hi, t) :: r, k0 => by simp [ck_tagF, ck_tagF_len b r]
  | .inr x :: r, k0 => by simp [ck_tagF, ck_tagF_len b r]
def ck_iv (v : Option Value) : Int := match v with
  | some (.int x) => x.toInt
  | _ => 0
/-- the values of a cell's fields -/
theorem ck_vals {c : ck_C} {a : Nat} (h : ck_tc D AC S tab L ρ G N H c a) (hk : c.1.1 = 0 ∨ c.1.1 = 1 ∨ c.1.1 = 5) : ∃ f : Nat → Value, (∀ (j : Nat) (v : ck_V), c.2[j]? = some v → ck_R S ρ G N v (f j)) ∧ ∀ (ρ' : Nat → Int) (N' : List Nat) (c' : ck_C), c'.1 = c.1 → c'.2.length = c.2.length → (∀ (j : Nat) (v : ck_V), c'.2[j]? = some v → ck_R S ρ' G N' v (f j)) → ck_tc D AC S tab L ρ' G N' H c' a := by
  obtain ⟨⟨k, n⟩, fs⟩ := c
  dsimp only at hk
  rcases hk with rfl | rfl | rfl
  · obtain ⟨l1, l2, vs, z1, z2⟩ := h
    refine ⟨fun j => vs.getD j .null, fun j v hj => ?_, fun ρ' N' c' e1 e2 hc => ?_⟩
    · obtain ⟨b, y1, y2⟩ := z2.get hj
      show ck_R S ρ G N v (vs.getD j .null)
      rw [List.getD_eq_getElem?_getD, y1]
      exact y2
    · obtain ⟨⟨k', n'⟩, fs'⟩ := c'
      cases e1
      refine ⟨l1, l2, vs, z1, by rw [e2]; exact z2.1, fun j x y hx hy => ?_⟩
      have : ck_R S ρ' G N' x (vs.getD j .null) := hc j x hx
      rw [List.getD_eq_getElem?_getD, hy] at this
      exact this
  · obtain ⟨l1, l2, f, z1, z2⟩ := h
    refine ⟨f, z2, fun ρ' N' c' e1 e2 hc => ?_⟩
    obtain ⟨⟨k', n'⟩, fs'⟩ := c'
    cases e1
    exact ⟨l1, l2, f, by rw [e2]; exact z1, hc⟩
  · obtain ⟨l1, cell, l2, l3, z2⟩ := h
    refine ⟨fun j => cell.slots.getD j .null, fun j v hj => ?_, fun ρ' N' c' e1 e2 hc => ?_⟩
    · obtain ⟨w, y1, y2⟩ := z2 j v hj
      show ck_R S ρ G N v (cell.slots.getD j .null)
      rw [Array.getD_eq_getD_getElem?, y1]
      exact y2
    · obtain ⟨⟨k', n'⟩, fs'⟩ := c'
      cases e1
      refine ⟨l1, cell, l2, l3, fun j v hj => ?_⟩
      have h9 : j < fs.length := by rw [← e2]; exact (List.getElem?_eq_some_iff.mp hj).1
      obtain ⟨w, y1, -⟩ := z2 j _ (List.getElem?_eq_getElem h9)
      have : ck_R S ρ' G N' v (cell.slots.getD j .null) := hc j v hj
      rw [Array.getD_eq_getD_getElem?, y1] at this
      exact ⟨w, y1, this⟩
/-- what the called one asks of the heap -/
theorem ck_H.pre (h4 : ck_H D AC S tab L ρ G N T H) {μ : List Nat} {pre : List ck_C} (hp : ck_cpre T μ pre = true) :
    ∃ (ρ0 : Nat → Int) (N0 : List Nat), (∀ (j i : Nat), μ[j]? = some i → N0[j]? = N[i]? ∧ ∃ a, N[i]? = some a) ∧ N0.length = μ.length ∧ ck_H D AC S tab L ρ0 G N0 (ck_etag pre) H ∧ (∀ (k : Nat) (v : ck_V), (ck_f0 T μ)[k]? = some v → k < 100 → ∃ w : Value, ck_R S ρ G N v w ∧ ρ0 (100 + k) = ck_iv (some w)) ∧ μ.Nodup ∧ (∀ i ∈ μ, ∃ c, T[i]? = some c ∧ (ck_own c = true ∨ c.1.1 = 5)) := by
  unfold ck_cpre at hp
  simp only [Bool.and_eq_true, beq_iff_eq, decide_eq_true_eq] at hp
  obtain ⟨⟨hl, hz⟩, hnd⟩ := hp
  have hcell : ∀ (j i : Nat), μ[j]? = some i → ∃ c c' a, T[i]? = some c ∧ pre[j]? = some c' ∧ N[i]? = some a ∧ ck_lc T μ c c' = true := by
    intro j i hj
    have hjp : j < pre.length := by rw [← hl]; exact (List.getElem?_eq_some_iff.mp hj).1
    have hm : (i, pre[j]) ∈ μ.zip pre := List.mem_of_getElem? (i := j) (by rw [List.getElem?_zip_eq_some]; exact ⟨hj, List.getElem?_eq_getElem hjp⟩)
    have := List.all_eq_true.mp hz _ hm
    dsimp only at this
    split at this
    · rename_i c hc
      have hil : i < T.length := (List.getElem?_eq_some_iff.mp hc).1
      exact ⟨c, pre[j], N[i]'(by rw [h4.2.1]; exact hil), hc, List.getElem?_eq_getElem hjp, List.getElem?_eq_getElem _, this⟩
    · cases this
  have hN0 : ∀ (j i : Nat), μ[j]? = some i → (μ.map (fun i => N.getD i 0))[j]? = N[i]? := by
    intro j i hj
    obtain ⟨c, c', a, -, -, ha, -⟩ := hcell j i hj
    rw [List.getElem?_map, hj, ha]
    simp [List.getD_eq_getElem?_getD, ha]
  have hval : ∃ f : Nat → Value, ∀ i, μ[0]? = some i → ∀ c, T[i]? = some c → (∀ (j : Nat) (v : ck_V), c.2[j]? = some v → ck_R S ρ G N v (f j)) ∧ ∀ a, N[i]? = some a → ∀ (ρ' : Nat → Int) (N' : List Nat) (c' : ck_C), c'.1 = c.1 → c'.2.length = c.2.length → (∀ (j : Nat) (v : ck_V), c'.2[j]? = some v → ck_R S ρ' G N' v (f j)) → ck_tc D AC S tab L ρ' G N' H c' a := by
    cases hμ : μ[0]? with
    | none => exact ⟨fun _ => .null, fun i hi => by cases hi⟩
    | some i =>
      obtain ⟨c, c', a, h1, h2, h3, h5⟩ := hcell 0 i hμ
      have hk : c.1.1 = 0 ∨ c.1.1 = 1 ∨ c.1.1 = 5 := by
        unfold ck_lc at h5
        simp only [Bool.and_eq_true, Bool.or_eq_true, beq_iff_eq] at h5
        obtain ⟨⟨⟨-, k⟩, -⟩, -⟩ := h5
        rcases k with (k | k) | k
        · exact Or.inl k
        · exact Or.inr (Or.inl k)
        · exact Or.inr (Or.inr k)
      obtain ⟨f, f1, f2⟩ := ck_vals (h4.2.2.1 i c a h1 h3) hk
      refine ⟨f, fun i' hi' c0 hc0 => ?_⟩
      cases hi'
      cases h1.symm.trans hc0
      refine ⟨f1, fun a' ha' => ?_⟩
      cases h3.symm.trans ha'
      exact f2
  obtain ⟨f, hf⟩ := hval
  refine ⟨fun g => ck_iv (some (f (g - 100))), μ.map (fun i => N.getD i 0), fun j i hj => ⟨hN0 j i hj, ?_⟩, by simp, ⟨h4.1, ?_, fun j d b hj hb => ?_, ?_⟩, fun k v hv hk => ?_, hnd, fun i hi => ?_⟩
  · obtain ⟨c, c', a, -, -, ha, -⟩ := hcell j i hj
    exact ⟨a, ha⟩
  · cases pre with
    | nil => simp [ck_etag, hl]
    | cons x t => simp [ck_etag, hl]
  · have hjμ : j < μ.length := by
      have := (List.getElem?_eq_some_iff.mp hb).1
      simpa using this
    have hji : μ[j]? = some μ[j] := List.getElem?_eq_getElem hjμ
    obtain ⟨c, c', a, h1, h2, h3, h5⟩ := hcell j _ hji
    have eb : b = a := by
      rw [hN0 j _ hji, h3] at hb
      exact (Option.some.inj hb).symm
    subst eb
    unfold ck_lc at h5
    simp only [Bool.and_eq_true, Bool.or_eq_true, beq_iff_eq] at h5
    obtain ⟨⟨⟨e1, hk⟩, e2⟩, e3⟩ := h5
    have hk : c.1.1 = 0 ∨ c.1.1 = 1 ∨ c.1.1 = 5 := by
      rcases hk with (k | k) | k
      · exact Or.inl k
      · exact Or.inr (Or.inl k)
      · exact Or.inr (Or.inr k)
    have hfld : ∀ (q : Nat) (v' : ck_V), c'.2[q]? = some v' → ∃ v, c.2[q]? = some v ∧ ck_la T μ v v' = true := by
      intro q v' hq
      have hql : q < c.2.length := by rw [e2]; exact (List.getElem?_eq_some_iff.mp hq).1
      refine ⟨c.2[q], List.getElem?_eq_getElem hql, ?_⟩
      exact List.all_eq_true.mp e3 (c.2[q], v') (List.mem_of_getElem? (i := q) (by rw [List.getElem?_zip_eq_some]; exact ⟨List.getElem?_eq_getElem hql, hq⟩))
    cases j with
    | zero =>
      obtain ⟨f1, f2⟩ := hf _ hji c h1
      cases pre with
      | nil => simp at h2
      | cons x t =>
        simp at h2
        subst h2
        simp only [ck_etag, List.getElem?_cons_zero, Option.some.injEq] at hj
        subst hj
        refine f2 _ h3 _ _ _ e1.symm (by rw [ck_tagF_len]; exact e2.symm) (fun q v hq => ?_)
        rw [ck_tagF_get] at hq
        obtain ⟨v', hv', rfl⟩ := Option.map_eq_some_iff.mp hq
        obtain ⟨v0, hv0, hla⟩ := hfld q v' hv'
        have hr := ck_la_ok (ρ0 := fun g => ck_iv (some (f (g - 100)))) (N0 := μ.map (fun i => N.getD i 0)) h4 hN0 hla (f1 q v0 hv0)
        match v', hr with
        | .inl (lo, hi, t'), hr =>
          obtain ⟨x', ex, x1, x2, -⟩ := hr
          refine ⟨x', ex, x1, x2, fun g c9 hg => ?_⟩
          cases hg
          show x'.toInt = ck_iv (some (f (100 + (0 + q) - 100))) + 0
          rw [show 100 + (0 + q) - 100 = q by omega, ex]
          show x'.toInt = x'.toInt + 0
          omega
        | .inr z, hr => exact hr
    | succ j =>
      cases pre with
      | nil => simp at h2
      | cons x t =>
        simp only [List.getElem?_cons_succ] at h2
        simp only [ck_etag, List.getElem?_cons_succ] at hj
        cases h2.symm.trans hj
        obtain ⟨f', f1, f2⟩ := ck_vals (h4.2.2.1 _ c b h1 h3) hk
        refine f2 _ _ _ e1.symm e2.symm (fun q v hq => ?_)
        obtain ⟨v0, hv0, hla⟩ := hfld q v hq
        exact ck_la_ok h4 hN0 hla (f1 q v0 hv0)
  · intro j1 j2 d1 d2 b h1 h2 o1 o2 n1 n2
    have key : ∀ (j : Nat) (d : ck_C), (ck_etag pre)[j]? = some d → ck_own d = true → (μ.map (fun i => N.getD i 0))[j]? = some b → ∃ i c, μ[j]? = some i ∧ T[i]? = some c ∧ ck_own c = true ∧ N[i]? = some b := by
      intro j d hd ho hb
      have hjμ : j < μ.length := by
        have := (List.getElem?_eq_some_iff.mp hb).1
        simpa using this
      have hji : μ[j]? = some μ[j] := List.getElem?_eq_getElem hjμ
      obtain ⟨c, c', a, k1, k2, k3, k5⟩ := hcell j _ hji
      refine ⟨_, c, hji, k1, ?_, by rw [← hN0 j _ hji]; exact hb⟩
      unfold ck_lc at k5
      simp only [Bool.and_eq_true, beq_iff_eq] at k5
      have e1 := k5.1.1.1
      have ed : d.1 = c'.1 := by
        cases pre with
        | nil => simp at k2
        | cons x t =>
          cases j with
          | zero => simp [ck_etag] at hd k2; rw [← hd, k2]
          | succ j => simp [ck_etag] at hd k2; rw [hd] at k2; cases k2; rfl
      unfold ck_own at ho ⊢
      rw [e1, ← ed]
      exact ho
    obtain ⟨i1, c1, x1, x2, x3, x4⟩ := key j1 d1 h1 o1 n1
    obtain ⟨i2, c2, y1, y2, y3, y4⟩ := key j2 d2 h2 o2 n2
    have ei := h4.2.2.2 i1 i2 c1 c2 b x2 y2 x3 y3 x4 y4
    subst ei
    have hl1 := (List.getElem?_eq_some_iff.mp x1).1
    have hl2 := (List.getElem?_eq_some_iff.mp y1).1
    exact (List.getElem?_inj hl1 hnd).mp (x1.trans y1.symm)
  · cases hμ : μ with
    | nil => rw [hμ] at hv; simp [ck_f0] at hv
    | cons i t =>
      rw [hμ] at hv
      have h0 : μ[0]? = some i := by rw [hμ]; rfl
      obtain ⟨c, c', a, k1, k2, k3, k5⟩ := hcell 0 i h0
      simp only [ck_f0, k1] at hv
      obtain ⟨f1, -⟩ := hf i h0 c k1
      exact ⟨f k, f1 k v hv, by show ck_iv (some (f (100 + k - 100))) = _; rw [show 100 + k - 100 = k by omega]⟩
  · obtain ⟨j, hj⟩ := List.getElem?_of_mem hi
    obtain ⟨c, c', a, k1, k2, k3, k5⟩ := hcell j i hj
    refine ⟨c, k1, ?_⟩
    unfold ck_lc at k5
    simp only [Bool.and_eq_true, Bool.or_eq_true, beq_iff_eq] at k5
    obtain ⟨⟨⟨-, k⟩, -⟩, -⟩ := k5
    rcases k with (k | k) | k
    · exact Or.inl (by simp [ck_own, k])
    · exact Or.inl (by simp [ck_own, k])
    · exact Or.inr k
end CKC
end
section
/-! ===== behind a call: the caller's state again ===== -/
section CKP
variable {D : va_G} {AC : Nat → ClassId} {S : Nat → Nat} {tab : List ck_D} {L : Heap} {ρ : Nat → Int} {G : Nat → Nat} {N : List Nat} {T : List ck_C} {H H' : Heap}
theorem ck_mu_lo {T : List ck_C} {μ : List Nat} {post : List ck_C} {j i : Nat} (h : μ[j]? = some i) : (ck_mu T μ post)[j]? = some i := by
  unfold ck_mu
  rw [List.getElem?_append_left (List.getElem?_eq_some_iff.mp h).1]
  exact h
theorem ck_mu_hi {T : List ck_C} {μ : List Nat} {post : List ck_C} {j : Nat} (h1 : μ.length ≤ j) (h2 : j < post.length) : (ck_mu T μ post)[j]? = some (T.length + (j - μ.length)) := by
  unfold ck_mu
  rw [List.getElem?_append_right h1, List.getElem?_map, List.getElem?_range (by omega)]
  rfl
/-- a value that the called one leaves, as the caller sees it -/
theorem ck_pv_ok {ρ1 : Nat → Int} {G1 : Nat → Nat} {N1 N' : List Nat} {f0 : List ck_V} {μ : List Nat} (hN : ∀ (j a : Nat), N1[j]? = some a → ∃ i, μ[j]? = some i ∧ N'[i]? = some a) (hf : ∀ (k : Nat) (v : ck_V), f0[k]? = some v → k < 100 → ∃ w : Value, ck_R S ρ G N v w ∧ ρ1 (100 + k) = ck_iv (some w)) {k : ck_V} {v : Value} (h : ck_R S ρ1 G1 N1 k v) : ck_R S ρ G1 N' (ck_pv f0 μ k) v := by
  match k, h with
  | .inl (lo, hi, none), h => exact ck_R.plain (ρ := ρ1) (N := N1) rfl h
  | .inl (lo, hi, some (g, d)), h =>
    have hs : ck_R S ρ G1 N' (.inl (lo, hi, none)) v := ck_R.plain (ρ := ρ1) (N := N1) rfl (ck_R.strip h)
    show ck_R S ρ G1 N' (if 100 ≤ g ∧ g < 200 then (match f0[g - 100]? with | some (.inl q) => ck_add q (d, d, none) | _ => .inl (lo, hi, none)) else .inl (lo, hi, none)) v
    split
    · rename_i hg
      split
      · rename_i q hq
        obtain ⟨x, rfl, x1, x2, x3⟩ := h
        obtain ⟨w, ⟨y, rfl, y1, y2, y3⟩, hw2⟩ := hf (g - 100) _ hq (by omega)
        have e := x3 g d rfl
        rw [show 100 + (g - 100) = g by omega] at hw2
        have hw2 : ρ1 g = y.toInt := hw2
        have hx := ck_i32 x
        unfold ck_add
        split
        · rename_i hok
          obtain ⟨o1, o2⟩ := ck_iok_of hok
          refine ⟨x, rfl, by dsimp only at o1 o2 ⊢; omega, by dsimp only at o1 o2 ⊢; omega, fun g' c' hg' => ?_⟩
          have hg' : ck_tagA q (d, d, none) = some (g', c') := hg'
          unfold ck_tagA at hg'
          split at hg'
          · rename_i g1 k1 hq1
            simp at hg'
            obtain ⟨rfl, rfl⟩ := hg'
            have := y3 g1 k1 hq1
            omega
          · cases hg'
        · exact ⟨x, rfl, hx.1, hx.2, fun g c q => by cases q⟩
      · exact hs
    · exact hs
  | .inr (.inl q), h => exact h
  | .inr (.inr (0, _)), h => exact h
  | .inr (.inr (1, j)), h =>
    obtain ⟨a, ha, rfl⟩ := h
    obtain ⟨i, hi, hN'⟩ := hN j a ha
    show ck_R S ρ G1 N' (match μ[j]? with | some i => .inr (.inr (1, i)) | none => .inr (.inr (8, 0))) (.ref a)
    rw [hi]
    exact ⟨a, hN', rfl⟩
  | .inr (.inr (2, τ)), h => exact h
  | .inr (.inr (3, j)), h => exact h
  | .inr (.inr (4, _)), h => exact h
  | .inr (.inr (n + 5, _)), h => exact h
theorem ck_find_some {μ : List Nat} {i j : Nat} (h : μ.findIdx? (fun k => k == i) = some j) : μ[j]? = some i := by
  obtain ⟨hl, hp, -⟩ := List.findIdx?_eq_some_iff_getElem.mp h
  rw [List.getElem?_eq_getElem hl]
  simpa using hp
theorem ck_find_none {μ : List Nat} {i : Nat} (h : μ.findIdx? (fun k => k == i) = none) : i ∉ μ := by
  intro hm
  have := List.findIdx?_eq_none_iff.mp h i hm
  simp at this
/-- all of the caller's side behind a call -/
theorem ck_H.post {μ : List Nat} {post : List ck_C} {ρ0 ρ1 : Nat → Int} {G1 : Nat → Nat} {N0 N1 : List Nat} (h4 : ck_H D AC S tab L ρ G N T H) (hN0 : ∀ (j i : Nat), μ[j]? = some i → N0[j]? = N[i]? ∧ ∃ a, N[i]? = some a) (hlen0 : N0.length = μ.length) (hnd : μ.Nodup) (hμT : ∀ i ∈ μ, ∃ c, T[i]? = some c ∧ (ck_own c = true ∨ c.1.1 = 5))
    (hf : ∀ (k : Nat) (v : ck_V), (ck_f0 T μ)[k]? = some v → k < 100 → ∃ w : Value, ck_R S ρ G N v w ∧ ρ0 (100 + k) = ck_iv (some w)) (hρ : ∀ g, 100 ≤ g → g < 200 → ρ1 g = ρ0 g)
    (h1 : ck_H D AC S tab L ρ1 G1 N1 post H') (hF : ck_F G N0 H G1 N1 post H') :
    ∃ N', (∃ M, N' = N ++ M) ∧ (∀ q, G q ≠ 0 → G1 q = G q) ∧ ck_H D AC S tab L ρ G1 N' (ck_cpost tab T μ post) H' ∧ (∀ (k : ck_V) (v : Value), ck_R S ρ1 G1 N1 k v → ck_R S ρ G1 N' (ck_pv (ck_f0 T μ) (ck_mu T μ post) k) v) ∧
      ∀ {G00 : Nat → Nat} {N00 : List Nat} {H00 : Heap}, ck_F G00 N00 H00 G N T H → ck_F G00 N00 H00 G1 N' (ck_cpost tab T μ post) H' := by
  obtain ⟨f1, f2, f3, f4, f5, f6⟩ := hF
  have hgrow : ∀ q, G q ≠ 0 → G1 q = G q := fun q hne => by
    by_cases hl : q < H.size
    · exact f2 q hl
    · exact absurd (h4.zero (by omega)) hne
  have hlp : N1.length = post.length := h1.2.1
  have hlN : N.length = T.length := h4.2.1
  have hmp : μ.length ≤ post.length := by omega
  have hN' : ∀ (j a : Nat), N1[j]? = some a → ∃ i, (ck_mu T μ post)[j]? = some i ∧ (N ++ N1.drop μ.length)[i]? = some a := by
    intro j a ha
    have hjl : j < N1.length := (List.getElem?_eq_some_iff.mp ha).1
    by_cases hj : j < μ.length
    · have hji : μ[j]? = some μ[j] := List.getElem?_eq_getElem hj
      refine ⟨_, ck_mu_lo hji, ?_⟩
      obtain ⟨e1, a', e2⟩ := hN0 j _ hji
      have hil : μ[j] < N.length := (List.getElem?_eq_some_iff.mp e2).1
      rw [List.getElem?_append_left hil, ← e1, ← f5 j (by omega)]
      exact ha
    · refine ⟨_, ck_mu_hi (by omega) (by omega), ?_⟩
      rw [← hlN, List.getElem?_append_right (by omega), List.getElem?_drop]
      rw [show μ.length + (N.length + (j - μ.length) - N.length) = j by omega]
      exact ha
  have hpv : ∀ (k : ck_V) (v : Value), ck_R S ρ1 G1 N1 k v → ck_R S ρ G1 (N ++ N1.drop μ.length) (ck_pv (ck_f0 T μ) (ck_mu T μ post) k) v := fun k v h =>
    ck_pv_ok (ρ := ρ) (G := G) (N := N) hN' (fun k v hv hk => by
      obtain ⟨w, w1, w2⟩ := hf k v hv hk
      exact ⟨w, w1, by rw [hρ _ (by omega) (by omega)]; exact w2⟩) h
  -- the cells behind the call, by their places
  have hcell : ∀ (i : Nat) (d : ck_C) (a : Nat), (ck_cpost tab T μ post)[i]? = some d → (N ++ N1.drop μ.length)[i]? = some a →
      (∃ (j : Nat) (x : ck_C), post[j]? = some x ∧ d = (x.1, x.2.map (ck_pv (ck_f0 T μ) (ck_mu T μ post))) ∧ N1[j]? = some a ∧ ((j < μ.length ∧ μ[j]? = some i) ∨ (μ.length ≤ j ∧ i = T.length + (j - μ.length)))) ∨ (∃ c, T[i]? = some c ∧ N[i]? = some a ∧ d = ck_rst tab c ∧ i ∉ μ) := by
    intro i d a hd ha
    unfold ck_cpost at hd
    by_cases hi : i < T.length
    · rw [List.getElem?_append_left (by simpa using hi), List.getElem?_mapIdx, List.getElem?_eq_getElem hi] at hd
      rw [List.getElem?_append_left (by omega)] at ha
      simp only [Option.map_some, Option.some.injEq] at hd
      unfold ck_cp1 at hd
      split at hd
      · rename_i j hj
        have hji := ck_find_some hj
        have hjl : j < μ.length := (List.getElem?_eq_some_iff.mp hji).1
        split at hd
        · rename_i x hx
          refine Or.inl ⟨j, x, hx, hd.symm, ?_, Or.inl ⟨hjl, hji⟩⟩
          rw [f5 j (by omega), (hN0 j i hji).1]
          exact ha
        · rename_i hx
          rw [List.getElem?_eq_getElem (by omega)] at hx
          cases hx
      · rename_i hj
        exact Or.inr ⟨T[i], List.getElem?_eq_getElem hi, ha, hd.symm, ck_find_none hj⟩
    · rw [List.getElem?_append_right (by simpa using hi)] at hd
      rw [List.getElem?_append_right (by omega), List.getElem?_drop] at ha
      simp only [List.length_mapIdx, List.getElem?_map, List.getElem?_drop] at hd
      obtain ⟨x, hx, rfl⟩ := Option.map_eq_some_iff.mp hd
      rw [hlN] at ha
      exact Or.inl ⟨μ.length + (i - T.length), x, hx, rfl, ha, Or.inr ⟨by omega, by omega⟩⟩
  have hrstown : ∀ c, ck_own (ck_rst tab c) = true → ck_own c = true ∧ ck_rst tab c = c := by
    intro c ho
    obtain ⟨⟨k, n⟩, fs⟩ := c
    unfold ck_rst at ho ⊢
    split at ho
    · split at ho
      · split at ho
        · simp [ck_own] at ho
        · simp [ck_own] at ho
      · simp [ck_own] at ho
    · exact ⟨ho, rfl⟩
  refine ⟨N ++ N1.drop μ.length, ⟨_, rfl⟩, hgrow, ⟨h1.1, ?_, fun i d a hd ha => ?_, fun i1 i2 d1 d2 a k1 k2 o1 o2 n1 n2 => ?_⟩, hpv, ?_⟩
  · simp [ck_cpost, hlN, hlp]
  · rcases hcell i d a hd ha with ⟨j, x, hx, rfl, hN1, -⟩ | ⟨c, hc, hNa, rfl, hμ⟩
    · exact (h1.2.2.1 j x a hx hN1).mapV _ (fun _ => rfl) (fun _ => rfl) (fun k v _ h => hpv k v h)
    · have htc := h4.2.2.1 i c a hc hNa
      obtain ⟨⟨k, n⟩, fs⟩ := c
      unfold ck_rst
      split
      · rename_i τ heq
        dsimp only at heq
        cases heq
        obtain ⟨e1, e2, ci, ks, vs, e3, e4, e5⟩ := htc
        split
        · rename_i ci' ks' hτ
          rw [e3] at hτ
          cases hτ
          split
          · rename_i hpl
            have hG1 : G1 a = n := by rw [hgrow a (by rw [e1]; exact e2)]; exact e1
            have hty := (h1.1.2.2 a (by rw [hG1]; exact e2)).2
            rw [hG1] at hty
            unfold ck_ty at hty
            rw [e3] at hty
            obtain ⟨vs', y1, y2⟩ := hty
            exact ⟨hG1, e2, ci, ks, vs', e3, y1, y2.mono fun k v hk h => ck_R.plain (List.all_eq_true.mp hpl k hk) h⟩
          · exact trivial
        · exact trivial
      · rename_i hne
        have hk3 : ¬ k = 3 := fun e => hne n (by rw [e])
        have base : ck_tc D AC S tab L ρ G1 (N ++ N1.drop μ.length) H ((k, n), fs) a := by
          have := htc.mapV (ρ' := ρ) (G' := G1) (N' := N ++ N1.drop μ.length) id (fun o => f2 a (htc.own o).2.2) (fun o => absurd o hk3) (fun k v _ h => (h.grow hgrow).ext _)
          simpa using this
        refine base.kept fun hk => ?_
        have ho : ck_own ((k, n), fs) = true := by
          simp only [ck_own, Bool.or_eq_true, beq_iff_eq]
          dsimp only at hk
          omega
        obtain ⟨a1, a2, a3⟩ := htc.own ho
        refine f3 a a3 a2 fun hm => ?_
        obtain ⟨j, hj⟩ := List.getElem?_of_mem hm
        have hjl : j < μ.length := by have := (List.getElem?_eq_some_iff.mp hj).1; omega
        have hji : μ[j]? = some μ[j] := List.getElem?_eq_getElem hjl
        rw [(hN0 j _ hji).1] at hj
        obtain ⟨cj, hdj, hoj⟩ := hμT _ (List.getElem_mem hjl)
        have this : ck_own cj = true := by
          rcases hoj with o | o
          · exact o
          · exfalso
            have ht2 := h4.2.2.1 _ _ a hdj hj
            unfold ck_tc at ht2
            obtain ⟨⟨k', n'⟩, fs'⟩ := cj
            dsimp only at o
            subst o
            obtain ⟨-, cell, -, h9, -⟩ := ht2
            omega
        have ei := h4.2.2.2 i μ[j] _ _ a hc hdj ho this hNa hj
        exact hμ (by rw [ei]; exact List.getElem_mem hjl)
  · -- apart
    have key : ∀ (i : Nat) (d : ck_C), (ck_cpost tab T μ post)[i]? = some d → ck_own d = true → (N ++ N1.drop μ.length)[i]? = some a → (∃ (j : Nat) (x : ck_C), post[j]? = some x ∧ ck_own x = true ∧ N1[j]? = some a ∧ ((j < μ.length ∧ μ[j]? = some i) ∨ (μ.length ≤ j ∧ i = T.length + (j - μ.length)))) ∨ (∃ c, T[i]? = some c ∧ ck_own c = true ∧ N[i]? = some a ∧ i ∉ μ) := by
      intro i d hd ho ha
      rcases hcell i d a hd ha with ⟨j, x, hx, rfl, hN1, hj⟩ | ⟨c, hc, hNa, rfl, hμ⟩
      · exact Or.inl ⟨j, x, hx, ho, hN1, hj⟩
      · exact Or.inr ⟨c, hc, (hrstown c ho).1, hNa, hμ⟩
    have mixed : ∀ (i i' j : Nat) (x c : ck_C), post[j]? = some x → ck_own x = true → N1[j]? = some a → ((j < μ.length ∧ μ[j]? = some i) ∨ (μ.length ≤ j ∧ i = T.length + (j - μ.length))) → T[i']? = some c → ck_own c = true → N[i']? = some a → i' ∉ μ → False := by
      intro i i' j x c hx ho hN1 hj hc hoc hNa hμ
      have hlt := h4.named hc hNa (Or.inl hoc)
      rcases hj with ⟨j1, j2⟩ | ⟨j1, j2⟩
      · obtain ⟨cj, hdj, hoj⟩ := hμT i (List.mem_of_getElem? j2)
        have hNi : N[i]? = some a := by rw [← (hN0 j i j2).1, ← f5 j (by omega)]; exact hN1
        have this : ck_own cj = true := by
          rcases hoj with o | o
          · exact o
          · exfalso
            have ht2 := h4.2.2.1 _ _ a hdj hNi
            have l9 := ((h4.2.2.1 _ _ a hc hNa).own hoc).1
            unfold ck_tc at ht2
            obtain ⟨⟨k', n'⟩, fs'⟩ := cj
            dsimp only at o
            subst o
            obtain ⟨-, cell, -, h9, -⟩ := ht2
            omega
        have ei := h4.2.2.2 i i' cj c a hdj hc this hoc hNi hNa
        exact hμ (by rw [← ei]; exact List.mem_of_getElem? j2)
      · have := f6 j x a hx hN1 ho (by omega)
        omega
    rcases key i1 d1 k1 o1 n1 with ⟨j1, x1, p1, p2, p3, p4⟩ | ⟨c1, p1, p2, p3, p4⟩ <;> rcases key i2 d2 k2 o2 n2 with ⟨j2, x2, q1, q2, q3, q4⟩ | ⟨c2, q1, q2, q3, q4⟩
    · have ej := h1.2.2.2 j1 j2 x1 x2 a p1 q1 p2 q2 p3 q3
      subst ej
      rcases p4 with ⟨u1, u2⟩ | ⟨u1, u2⟩ <;> rcases q4 with ⟨v1, v2⟩ | ⟨v1, v2⟩
      · exact Option.some.inj (u2.symm.trans v2)
      · omega
      · omega
      · omega
    · exact (mixed i1 i2 j1 x1 c2 p1 p2 p3 p4 q1 q2 q3 q4).elim
    · exact (mixed i2 i1 j2 x2 c1 q1 q2 q3 q4 p1 p2 p3 p4).elim
    · exact h4.2.2.2 i1 i2 c1 c2 a p1 q1 p2 q2 p3 q3
  · intro G00 N00 H00 hF0
    obtain ⟨g1, g2, g3, g4, g5, g6⟩ := hF0
    refine ⟨by omega, fun q hq => by rw [f2 q (by omega)]; exact g2 q hq, fun q hq hz hn => ?_, by simp; omega, fun i hi => by rw [List.getElem?_append_left (by omega)]; exact g5 i hi, fun i d a hd ha ho hi => ?_⟩
    · by_cases hL : q < L.size
      · rw [h1.1.2.1 q hL, ← h4.1.2.1 q hL]
        exact g3 q hq hz hn
      rw [f3 q (by omega) (by rw [g2 q hq]; exact hz) (fun hm => ?_)]
      · exact g3 q hq hz hn
      · obtain ⟨j, hj⟩ := List.getElem?_of_mem hm
        have hjl : j < μ.length := by have := (List.getElem?_eq_some_iff.mp hj).1; omega
        have hji : μ[j]? = some μ[j] := List.getElem?_eq_getElem hjl
        rw [(hN0 j _ hji).1] at hj
        obtain ⟨cj, hdj, hoj⟩ := hμT _ (List.getElem_mem hjl)
        by_cases hlt : μ[j] < N00.length
        · rw [g5 _ hlt] at hj
          exact hn (List.mem_of_getElem? hj)
        · rcases hoj with o | o
          · have := g6 _ cj q hdj hj o (by omega)
            omega
          · have ht2 := h4.2.2.1 _ _ q hdj hj
            unfold ck_tc at ht2
            obtain ⟨⟨k', n'⟩, fs'⟩ := cj
            dsimp only at o
            subst o
            obtain ⟨-, cell, -, h9, -⟩ := ht2
            exact hL h9
    · rcases hcell i d a hd ha with ⟨j, x, hx, rfl, hN1, hj⟩ | ⟨c, hc, hNa, rfl, hμ⟩
      · rcases hj with ⟨j1, j2⟩ | ⟨j1, j2⟩
        · obtain ⟨cj, hdj, hoj⟩ := hμT i (List.mem_of_getElem? j2)
          have hNi : N[i]? = some a := by rw [← (hN0 j i j2).1, ← f5 j (by omega)]; exact hN1
          rcases hoj with o | o
          · exact g6 i cj a hdj hNi o hi
          · exfalso
            have l9 := ((h1.2.2.1 j x a hx hN1).own ho).1
            have ht2 := h4.2.2.1 _ _ a hdj hNi
            unfold ck_tc at ht2
            obtain ⟨⟨k', n'⟩, fs'⟩ := cj
            dsimp only at o
            subst o
            obtain ⟨-, cell, -, h9, -⟩ := ht2
            omega
        · have := f6 j x a hx hN1 ho (by omega)
          omega
      · exact g6 i c a hc hNa (hrstown c ho).1 hi
end CKP
end
section
/-! ===== returns; calls that come back; calls that throw ===== -/
def ck_leC (c c' : ck_C) : Bool := c'.1.1 == 2 || (decide (c.1 = c'.1) && c.2.length == c'.2.length && (c.2.zip c'.2).all (fun q => ck_le q.1 q.2))
def ck_leT (T T' : List ck_C) : Bool := T.length == T'.length && (T.zip T').all (fun q => ck_leC q.1 q.2)
section CKT
variable {D : va_G} {AC : Nat → ClassId} {S : Nat → Nat} {tab : List ck_D} {L : Heap} {ρ : Nat → Int} {G : Nat → Nat} {N : List Nat} {T T' : List ck_C} {H : Heap}
theorem ck_leT_get (h : ck_leT T T' = true) {i : Nat} {c' : ck_C} (hi : T'[i]? = some c') : ∃ c, T[i]? = some c ∧ ck_leC c c' = true := by
  unfold ck_leT at h
  simp only [Bool.and_eq_true, beq_iff_eq] at h
  have hil : i < T.length := by rw [h.1]; exact (List.getElem?_eq_some_iff.mp hi).1
  exact ⟨T[i], List.getElem?_eq_getElem hil, List.all_eq_true.mp h.2 (T[i], c') (List.mem_of_getElem? (i := i) (by rw [List.getElem?_zip_eq_some]; exact ⟨List.getElem?_eq_getElem hil, hi⟩))⟩
theorem ck_leC_own {c c' : ck_C} (h : ck_leC c c' = true) (ho : ck_own c' = true) : ck_own c = true := by
  unfold ck_leC at h
  simp only [Bool.or_eq_true, Bool.and_eq_true, decide_eq_true_eq, beq_iff_eq] at h
  unfold ck_own at ho ⊢
  rcases h with k | ⟨⟨k, -⟩, -⟩
  · rw [k] at ho; simp at ho
  · rw [k]; exact ho
theorem ck_tc.leC {c c' : ck_C} {a : Nat} (h : ck_leC c c' = true) (ht : ck_tc D AC S tab L ρ G N H c a) : ck_tc D AC S tab L ρ G N H c' a := by
  unfold ck_leC at h
  simp only [Bool.or_eq_true, Bool.and_eq_true, decide_eq_true_eq, beq_iff_eq] at h
  rcases h with k | ⟨⟨k, e2⟩, e3⟩
  · obtain ⟨⟨k', n'⟩, fs'⟩ := c'
    dsimp only at k
    subst k
    exact trivial
  · have hfld : ∀ (q : Nat) (v' : ck_V), c'.2[q]? = some v' → ∃ v, c.2[q]? = some v ∧ ck_le v v' = true := by
      intro q v' hq
      have hql : q < c.2.length := by rw [e2]; exact (List.getElem?_eq_some_iff.mp hq).1
      exact ⟨c.2[q], List.getElem?_eq_getElem hql, List.all_eq_true.mp e3 (c.2[q], v') (List.mem_of_getElem? (i := q) (by rw [List.getElem?_zip_eq_some]; exact ⟨List.getElem?_eq_getElem hql, hq⟩))⟩
    have hall : ∀ {vs : List Value}, ck_all (ck_R S ρ G N) c.2 vs → ck_all (ck_R S ρ G N) c'.2 vs := by
      intro vs hv
      refine ⟨by rw [← e2]; exact hv.1, fun q x y hx hy => ?_⟩
      obtain ⟨v, h1, h2⟩ := hfld q x hx
      exact (hv.2 q v y h1 hy).le h2
    obtain ⟨⟨k1, n1⟩, fs⟩ := c
    obtain ⟨⟨k2, n2⟩, fs'⟩ := c'
    cases k
    unfold ck_tc at ht ⊢
    match k1, ht with
    | 0, ht => obtain ⟨h1, h2, vs, h3, h4⟩ := ht; exact ⟨h1, h2, vs, h3, hall h4⟩
    | 1, ht =>
      obtain ⟨h1, h2, f, h3, h4⟩ := ht
      refine ⟨h1, h2, f, by dsimp only at e2 h3 ⊢; rw [← e2]; exact h3, fun j v hj => ?_⟩
      obtain ⟨v0, y1, y2⟩ := hfld j v hj
      exact (h4 j v0 y1).le y2
    | 2, ht => exact trivial
    | 3, ht => obtain ⟨h1, h2, ci, ks, vs, h3, h4, h5⟩ := ht; exact ⟨h1, h2, ci, ks, vs, h3, h4, hall h5⟩
    | 4, ht => exact trivial
    | 5, ht =>
      obtain ⟨h1, cell, h2, h3, h4⟩ := ht
      refine ⟨h1, cell, h2, h3, fun j v hj => ?_⟩
      obtain ⟨v0, y1, y2⟩ := hfld j v hj
      obtain ⟨w, w1, w2⟩ := h4 j v0 y1
      exact ⟨w, w1, w2.le y2⟩
    | n + 6, ht => exact trivial
theorem ck_H.leT (h : ck_H D AC S tab L ρ G N T H) (hl : ck_leT T T' = true) : ck_H D AC S tab L ρ G N T' H := by
  obtain ⟨h1, h2, h3, h4⟩ := h
  refine ⟨h1, ?_, fun i c' a hi ha => ?_, fun i j c d a hi hj o1 o2 n1 n2 => ?_⟩
  · unfold ck_leT at hl
    simp only [Bool.and_eq_true, beq_iff_eq] at hl
    rw [h2, hl.1]
  · obtain ⟨c, e1, e2⟩ := ck_leT_get hl hi
    exact (h3 i c a e1 ha).leC e2
  · obtain ⟨c0, e1, e2⟩ := ck_leT_get hl hi
    obtain ⟨d0, e3, e4⟩ := ck_leT_get hl hj
    exact h4 i j c0 d0 a e1 e3 (ck_leC_own e2 o1) (ck_leC_own e4 o2) n1 n2
theorem ck_F.leT {G0 : Nat → Nat} {N0 : List Nat} {H0 : Heap} (h : ck_F G0 N0 H0 G N T H) (hl : ck_leT T T' = true) : ck_F G0 N0 H0 G N T' H := by
  obtain ⟨h1, h2, h3, h4, h5, h6⟩ := h
  refine ⟨h1, h2, h3, h4, h5, fun i c' a hi ha ho hn => ?_⟩
  obtain ⟨c, e1, e2⟩ := ck_leT_get hl hi
  exact h6 i c a e1 ha (ck_leC_own e2 ho) hn
end CKT
theorem ck_all.split {α β : Type} {P : α → β → Prop} {l1 l2 : List α} {m : List β} (h : ck_all P (l1 ++ l2) m) : ∃ m1 m2, m = m1 ++ m2 ∧ ck_all P l1 m1 ∧ ck_all P l2 m2 := by
  induction l1 generalizing m with
  | nil => exact ⟨[], m, rfl, ck_all.nil, h⟩
  | cons a t ih =>
    obtain ⟨b, m', rfl, h1, h2⟩ := ck_all.uncons h
    obtain ⟨m1, m2, rfl, h3, h4⟩ := ih h2
    exact ⟨b :: m1, m2, rfl, ck_all.cons h1 h3, h4⟩
theorem ck_all.rev {α β : Type} {P : α → β → Prop} {l : List α} {m : List β} (h : ck_all P l.reverse m) : ck_all P l m.reverse := by
  refine ⟨by simpa using h.1, fun i a b ha hb => ?_⟩
  have hil : i < l.length := (List.getElem?_eq_some_iff.mp ha).1
  have hml : m.length = l.length := by simpa using h.1.symm
  refine h.2 (l.length - 1 - i) a b ?_ ?_
  · rw [List.getElem?_reverse (by omega), show l.length - 1 - (l.length - 1 - i) = i by omega]
    exact ha
  · rw [List.getElem?_reverse (by omega)] at hb
    rw [← hml]
    exact hb
section CKL
variable {p : Program} {l : Launch} {e : Env} {R : Room} {s : State} {m : MethodId} {args : Array Value} {below : List Frame} {meth : Method} {c : Code} {cells slots : Nat}
variable {cc : ByteArray} {pc pc2 nL : Nat} {D : va_G} {AC : Nat → ClassId} {S : Nat → Nat} {tab : List ck_D} {L : Heap} {ρ0 : Nat → Int} {G0 : Nat → Nat} {N0 : List Nat}
variable {A : List (Nat × ck_V)} {st : List ck_V} {T : List ck_C} {K : ck_Ct}
theorem ck_mono {Q Q' : State → Prop} {H : Heap} {locs : List Loc} {g : JFrame} (h : ∀ t, Q t → Q' t) (w : W p l e R s m args below meth c H locs cells slots Q g) : W p l e R s m args below meth c H locs cells slots Q' g := fun U hU X => by
  obtain ⟨t, a, b⟩ := w U hU X
  exact ⟨t, a, h t b⟩
theorem ck_MQ {t : State} (h : MQ below (fun _ s o t => ck_Ps D AC S tab L ρ0 G0 N0 s.heap s K o t.heap) args s K.2.2.2.2.2.2.1 K.2.2.2.2.2.2.2 (fun q => L.size ≤ q) t) : ck_Fin D AC S tab L ρ0 G0 N0 K below s t := by
  obtain ⟨o, h1, h2, h3, Ls, ⟨h4, h5, h6⟩, h7⟩ := h
  exact ⟨o, h1, h2, h5, ⟨Ls, h6, h7⟩, h3⟩
/-- the method returns nothing -/
theorem cw_vret (hexec : p.tables.exec = Jvm.exec) (hb : c.code = cc) (hlk : meth.locks = false) (hr : meth.sig.returnType = none) (hK : K.2.2.2.1 = .inl none) (hT : ck_leT T K.2.2.1 = true) (hc : cells ≤ K.2.2.2.2.2.2.1) (hs : slots ≤ K.2.2.2.2.2.2.2) (hd : decode cc pc = .ok (.return_, 1)) : ck_W p l e R s m args below meth c (ck_Fin D AC S tab L ρ0 G0 N0 K below s) D AC S tab L nL ρ0 G0 N0 s.heap pc (A, [], T) cells slots := by
  intro H ls vs locs h
  obtain ⟨ρ, G, N, lv, h1, h2, h3, h4, h5, h6, h7⟩ := h
  have : vs = [] := by
    have := h3.1
    cases vs with
    | nil => rfl
    | cons a b => simp at this
  subst this
  refine W.widen hc hs (ck_mono (fun t => ck_MQ (args := args)) (W.vret hexec hb hr (fun t ht hW => ?_) h6 hd hlk))
  refine ⟨ρ, G, N, by rw [ht]; exact h4.leT hT, by rw [ht]; exact h5.leT hT, h7, ?_⟩
  rw [hK]
/-- the method returns an int -/
theorem cw_iret (hexec : p.tables.exec = Jvm.exec) (hb : c.code = cc) (hlk : meth.locks = false) {q : ck_Q} {r : ck_V} {ty : FieldType} (hr : meth.sig.returnType = some ty) (hty : ck_fit ty (.inl q) = true) (hK : K.2.2.2.1 = .inl (some r)) (hle : ck_le (.inl q) r = true) (hT : ck_leT T K.2.2.1 = true) (hc : cells ≤ K.2.2.2.2.2.2.1) (hs : slots ≤ K.2.2.2.2.2.2.2) (hd : decode cc pc = .ok (.ireturn, 1)) : ck_W p l e R s m args below meth c (ck_Fin D AC S tab L ρ0 G0 N0 K below s) D AC S tab L nL ρ0 G0 N0 s.heap pc (A, [.inl q], T) cells slots := by
  intro H ls vs locs h
  obtain ⟨ρ, G, N, lv, h1, h2, h3, h4, h5, h6, h7⟩ := h
  obtain ⟨_, vs', rfl, hx, g2⟩ := h3.uncons
  have hn := (ck_fit_ok hty hx).1
  obtain ⟨x, rfl, gx⟩ := id hx
  have : vs' = [] := by
    have := g2.1
    cases vs' with
    | nil => rfl
    | cons a b => simp at this
  subst this
  refine W.widen hc hs (ck_mono (fun t => ck_MQ (args := args)) (W.zret hexec hb hr hn (fun t ht hW => ?_) h6 hd hlk))
  refine ⟨ρ, G, N, by rw [ht]; exact h4.leT hT, by rw [ht]; exact h5.leT hT, h7, ?_⟩
  rw [hK]
  exact ⟨_, rfl, hx.le hle⟩
/-- the method returns a long -/
theorem cw_lret (hexec : p.tables.exec = Jvm.exec) (hb : c.code = cc) (hlk : meth.locks = false) {q : Int × Int} {r : ck_V} (hr : meth.sig.returnType = some .long) (hK : K.2.2.2.1 = .inl (some r)) (hle : ck_le (.inr (.inl q)) r = true) (hT : ck_leT T K.2.2.1 = true) (hc : cells ≤ K.2.2.2.2.2.2.1) (hs : slots ≤ K.2.2.2.2.2.2.2) (hd : decode cc pc = .ok (.lreturn, 1)) : ck_W p l e R s m args below meth c (ck_Fin D AC S tab L ρ0 G0 N0 K below s) D AC S tab L nL ρ0 G0 N0 s.heap pc (A, [.inr (.inl q)], T) cells slots := by
  intro H ls vs locs h
  obtain ⟨ρ, G, N, lv, h1, h2, h3, h4, h5, h6, h7⟩ := h
  obtain ⟨_, vs', rfl, hx, g2⟩ := h3.uncons
  obtain ⟨x, rfl, gx⟩ := id hx
  have : vs' = [] := by
    have := g2.1
    cases vs' with
    | nil => rfl
    | cons a b => simp at this
  subst this
  refine W.widen hc hs (ck_mono (fun t => ck_MQ (args := args)) (W.lret hexec hb hr (fun t ht hW => ?_) h6 hd hlk))
  refine ⟨ρ, G, N, by rw [ht]; exact h4.leT hT, by rw [ht]; exact h5.leT hT, h7, ?_⟩
  rw [hK]
  exact ⟨_, rfl, hx.le hle⟩
/-- the method returns a reference -/
theorem cw_aret (hexec : p.tables.exec = Jvm.exec) (hb : c.code = cc) (hlk : meth.locks = false) {v r : ck_V} {ty : FieldType} (hr : meth.sig.returnType = some ty) (hrt : (∃ n, ty = .object n) ∨ ∃ t, ty = .array t) (hv : ck_fit (.object "") v = true) (hK : K.2.2.2.1 = .inl (some r)) (hle : ck_le (ck_unf T v) r = true) (hT : ck_leT T K.2.2.1 = true) (hc : cells ≤ K.2.2.2.2.2.2.1) (hs : slots ≤ K.2.2.2.2.2.2.2) (hd : decode cc pc = .ok (.areturn, 1)) : ck_W p l e R s m args below meth c (ck_Fin D AC S tab L ρ0 G0 N0 K below s) D AC S tab L nL ρ0 G0 N0 s.heap pc (A, [v], T) cells slots := by
  intro H ls vs locs h
  obtain ⟨ρ, G, N, lv, h1, h2, h3, h4, h5, h6, h7⟩ := h
  obtain ⟨w, vs', rfl, hx, g2⟩ := h3.uncons
  have : vs' = [] := by
    have := g2.1
    cases vs' with
    | nil => rfl
    | cons a b => simp at this
  subst this
  have hQ : ∀ t : State, t.heap = H → s.WarmedH t.vm → ck_Ps D AC S tab L ρ0 G0 N0 s.heap s K (.returned (some w)) t.heap := fun t ht hW => by
    refine ⟨ρ, G, N, by rw [ht]; exact h4.leT hT, by rw [ht]; exact h5.leT hT, h7, ?_⟩
    rw [hK]
    exact ⟨_, rfl, (ck_unf_ok h4 hx).le hle⟩
  have hw : w = .null ∨ ∃ a, w = .ref a := by
    match v, hv, hx with
    | .inl _, hv, _ => cases hv
    | .inr (.inl _), hv, _ => cases hv
    | .inr (.inr (n, k)), hv, hx =>
      simp only [ck_fit, decide_eq_true_eq] at hv
      exact ck_isRef hx hv
  exact W.widen hc hs (ck_mono (fun t => ck_MQ (args := args)) (W.aret hexec hb hr hrt hw hQ h6 hd hlk))
end CKL
end
section
/-! ===== invocations ===== -/
section CKV
variable {p : Program} {l : Launch} {e : Env} {R : Room} {s : State} {m : MethodId} {args : Array Value} {below : List Frame} {meth : Method} {c : Code} {T : State} {locs : List Loc} {cells slots : Nat}
theorem ck_codeW {A : Array Value} {s : State} {y : MethodName} {cc : ByteArray} {n : Nat} {ret : Option FieldType} (h : (Cond.code y cc n ret).before A s = true) : (Cond.codeWith y cc n ret []).before A s = true := by
  unfold Cond.before Cond.holds at h ⊢
  rw [← Cond.code_iff_codeWith_nil]
  exact h
theorem ck_invS (X : Stand p l e R s m args below meth c T locs cells slots) (hexec : p.tables.exec = Jvm.exec) {own : String} {index : Nat} {M : ck_M} (hown : s.vm.findClass own = some m.cls) (hcode : (Cond.codeWith M.1 M.2.1 M.2.2.1 M.2.2.2.1 M.2.2.2.2).before args s = true)
    (hlink : (Cond.methodLink own index M.1).before args s = true ∨ ∃ host, (Cond.methodLinkNest own index M.1 host).before args s = true) (hstat : (Cond.static M.1).before args s = true) (hinit : (Cond.initialized M.1.cls).before args s = true) (hy : M.1.cls ≠ "java/lang/invoke/MethodHandle" ∧ M.1.cls ≠ "java/lang/invoke/VarHandle")
    {g : JFrame} (hg : g.method = m) {argsL rest : List Value} {n : Nat} (hn : (parseMethodDescriptor M.1.desc).map (fun d => d.parameters.length) = some n) (hlen : argsL.length = n) (hstack : g.stack = argsL.reverse ++ rest) (hdg : decode c.code g.pc = .ok (.invokestatic index, 3)) :
    ck_Inv p l e R s m args below meth c locs cells slots T M.1 g rest argsL.toArray := by
  obtain ⟨mk, methM, cM, hnamed, hmethM, -, -, -, -, -, -, hsig⟩ := Cond.codeWith_spec hcode
  have hstatic : methM.isStatic = true := Cond.static_spec hnamed hmethM hstat
  obtain ⟨kP, hkP, -⟩ := className_of_methodNamed hnamed
  have hinitP : kP.init = .initialized := Cond.initialized_spec (findClass_of_methodNamed hnamed) hkP hinit
  have hl : argsL.length = methM.sig.parameters.length := by
    rw [hsig] at hn
    simp at hn
    omega
  rcases hlink with hlink | ⟨host, hlink⟩
  · obtain ⟨vm₁, X₁, hstep₁⟩ := X.invokestatic hexec hown hlink hnamed hmethM hstatic hkP hinitP hy (g := g) hg (argsL := argsL) (rest := rest) hl hstack hdg
    exact ⟨vm₁, mk, X₁.warmed, X₁, hnamed, fun target h => hstep₁ _ fun acts => by rw [doInvoke_state]; exact h⟩
  · obtain ⟨vm₁, X₁, hstep₁⟩ := X.invokestaticNest hexec hown hlink hnamed hmethM hstatic hkP hinitP hy (g := g) hg (argsL := argsL) (rest := rest) hl hstack hdg
    exact ⟨vm₁, mk, X₁.warmed, X₁, hnamed, fun target h => hstep₁ _ fun acts => by rw [doInvoke_state]; exact h⟩
theorem ck_invV (X : Stand p l e R s m args below meth c T locs cells slots) (hexec : p.tables.exec = Jvm.exec) {own : String} {index : Nat} {M : ck_M} (hown : s.vm.findClass own = some m.cls) (hcode : (Cond.codeWith M.1 M.2.1 M.2.2.1 M.2.2.2.1 M.2.2.2.2).before args s = true)
    (hlink : (Cond.methodLink own index M.1).before args s = true ∨ ∃ host, (Cond.methodLinkNest own index M.1 host).before args s = true) (hinst : (Cond.instanceMethod M.1).before args s = true) (hsel : (Cond.selects M.1.cls M.1 M.1).before args s = true) (hy : M.1.cls ≠ "java/lang/invoke/MethodHandle" ∧ M.1.cls ≠ "java/lang/invoke/VarHandle")
    {b : Addr} {cellB : Cell} (hcell : T.heap[b]? = some cellB) (hobj : cellB.vm.isStatics = false) (hcls : s.vm.findClass M.1.cls = some cellB.cls)
    {g : JFrame} (hg : g.method = m) {argsL rest : List Value} {n : Nat} (hn : (parseMethodDescriptor M.1.desc).map (fun d => d.parameters.length) = some n) (hlen : argsL.length = n) (hstack : g.stack = argsL.reverse ++ .ref b :: rest) (hdg : decode c.code g.pc = .ok (.invokevirtual index, 3)) :
    ck_Inv p l e R s m args below meth c locs cells slots T M.1 g rest (Value.ref b :: argsL).toArray := by
  obtain ⟨mk, methM, hnamed, hmethM, hstM, habM⟩ := Cond.instanceMethod_spec hinst
  obtain ⟨mk', methM', cM, hnamed', hmethM', -, -, -, -, -, -, hsig⟩ := Cond.codeWith_spec hcode
  cases hnamed.symm.trans hnamed'
  cases hmethM.symm.trans hmethM'
  have hl : argsL.length = methM.sig.parameters.length := by
    rw [hsig] at hn
    simp at hn
    omega
  obtain ⟨c2, r2, m2, q1, q2, q3, q4, kP, hkP, hkPi⟩ := Cond.selects_spec hsel
  cases hcls.symm.trans q1
  cases (State.methodFound?_of_named hnamed hy).symm.trans q2
  cases hnamed.symm.trans q3
  have hselP : selectMethod e.platform s.vm cellB.cls mk = .method mk := by rw [Launch.admits_selectMethod X.admits]; exact q4
  rcases hlink with hlink | ⟨host, hlink⟩
  · obtain ⟨vm₁, X₁, hstep₁⟩ := X.invokevirtual hexec hown hlink hnamed hmethM hstM hkP hkPi hy (a := b) (cell := cellB) hcell
      (fun z h => by rw [h] at hobj; cases hobj) hselP hmethM habM hkP hkPi (g := g) hg (argsL := argsL) (rest := rest) hl hstack hdg
    exact ⟨vm₁, mk, X₁.warmed, X₁, hnamed, fun target h => hstep₁ _ fun acts => by rw [doInvoke_state]; exact h⟩
  · obtain ⟨vm₁, X₁, hstep₁⟩ := X.invokevirtualNest hexec hown hlink hnamed hmethM hstM hkP hkPi hy (a := b) (cell := cellB) hcell
      (fun z h => by rw [h] at hobj; cases hobj) hselP hmethM habM hkP hkPi (g := g) hg (argsL := argsL) (rest := rest) hl hstack hdg
    exact ⟨vm₁, mk, X₁.warmed, X₁, hnamed, fun target h => hstep₁ _ fun acts => by rw [doInvoke_state]; exact h⟩
theorem ck_invI (X : Stand p l e R s m args below meth c T locs cells slots) (hexec : p.tables.exec = Jvm.exec) {own : String} {index : Nat} {M : ck_M} (hown : s.vm.findClass own = some m.cls) (hcode : (Cond.code M.1 M.2.1 M.2.2.1 none).before args s = true)
    (hlink : (Cond.methodLink own index M.1).before args s = true ∨ ∃ host, (Cond.methodLinkNest own index M.1 host).before args s = true) (hinst : (Cond.instanceMethod M.1).before args s = true) (hy1 : M.1.name = "<init>") (hy : M.1.cls ≠ "java/lang/invoke/MethodHandle" ∧ M.1.cls ≠ "java/lang/invoke/VarHandle")
    {b : Addr} {g : JFrame} (hg : g.method = m) {argsL rest : List Value} {n : Nat} (hn : (parseMethodDescriptor M.1.desc).map (fun d => d.parameters.length) = some n) (hlen : argsL.length = n) (hstack : g.stack = argsL.reverse ++ .ref b :: rest) (hdg : decode c.code g.pc = .ok (.invokespecial index, 3)) :
    ck_Inv p l e R s m args below meth c locs cells slots T M.1 g rest (Value.ref b :: argsL).toArray := by
  subst hg
  have hl : ∀ sig, parseMethodDescriptor M.1.desc = some sig → argsL.length = sig.parameters.length := fun sig h => by
    rw [h] at hn
    simp at hn
    omega
  have hpl : e.platform.magicAccessors = ({} : Platform).magicAccessors := by rw [X.admits.platform]
  rcases hlink with hlink | ⟨host, hlink⟩
  · obtain ⟨mk, methM, cM, kP, vm₁, hnamed, hmethM, hcodeM, -, hlocalsM, -, hkP, -, hW₁, hstep₁⟩ := Steps.initColdArgs (e := e) X.here hexec X.warmed hpl hown hy1 hy hlink hinst hcode (f := g) rfl hl hstack hdg
    exact ⟨vm₁, mk, hW₁, X.noted hW₁, hnamed, fun target h => hstep₁ _ fun acts => by rw [doInvoke_state]; exact h⟩
  · obtain ⟨mk, methM, cM, kP, vm₁, hnamed, hmethM, hcodeM, -, hlocalsM, -, hkP, -, hW₁, hstep₁⟩ := Steps.initColdArgsNest (e := e) X.here hexec X.warmed hpl hown hy1 hy hlink hinst hcode (f := g) rfl hl hstack hdg
    exact ⟨vm₁, mk, hW₁, X.noted hW₁, hnamed, fun target h => hstep₁ _ fun acts => by rw [doInvoke_state]; exact h⟩
end CKV
section CKX
variable {p : Program} {l : Launch} {e : Env} {R : Room} {s : State} {m : MethodId} {args : Array Value} {below : List Frame} {meth : Method} {c : Code} {cells slots : Nat} {Q : State → Prop}
variable {cc : ByteArray} {pc pc2 nL nS : Nat} {D : va_G} {AC : Nat → ClassId} {S : Nat → Nat} {tab : List ck_D} {L : Heap} {ρ0 : Nat → Int} {G0 : Nat → Nat} {N0 : List Nat} {H0 : Heap}
variable {A : List (Nat × ck_V)} {st ks : List ck_V} {T : List ck_C} {K : ck_Ct} {M : ck_M} {μ : List Nat}
def ck_cargs (T : List ck_C) (μ : List Nat) (ks ks' : List ck_V) : Bool := ks.length == ks'.length && (ks.zip ks').all (fun q => ck_la T μ q.1 q.2)
theorem ck_cargs_ok {ρ ρ1 : Nat → Int} {G : Nat → Nat} {N N1 : List Nat} {H : Heap} (h4 : ck_H D AC S tab L ρ G N T H) (hN : ∀ (j i : Nat), μ[j]? = some i → N1[j]? = N[i]?) {ks' : List ck_V} {vs : List Value} (h : ck_cargs T μ ks ks' = true) (hv : ck_all (ck_R S ρ G N) ks vs) : ck_all (ck_R S ρ1 G N1) ks' vs := by
  unfold ck_cargs at h
  simp only [Bool.and_eq_true, beq_iff_eq] at h
  refine ⟨by rw [← h.1]; exact hv.1, fun i k v hk hv' => ?_⟩
  have hil : i < ks.length := by rw [h.1]; exact (List.getElem?_eq_some_iff.mp hk).1
  have hz := List.all_eq_true.mp h.2 (ks[i], k) (List.mem_of_getElem? (i := i) (by rw [List.getElem?_zip_eq_some]; exact ⟨List.getElem?_eq_getElem hil, hk⟩))
  exact ck_la_ok h4 hN hz (hv.2 i _ v (List.getElem?_eq_getElem hil) hv')
def ck_push (f0 : List ck_V) (μ : List Nat) (r : Option ck_V) (st : List ck_V) : List ck_V := match r with
  | none => st
  | some k => ck_pv f0 μ k :: st
/-- a call that comes back -/
theorem cw_call {r : Option ck_V} {ig : Instr} (hO : ck_Ok l tab nS M K) (hres : K.2.2.2.1 = .inl r) (hexec : p.tables.exec = Jvm.exec) (hb : c.code = cc) (hml : c.maxLocals = nL) (hd : decode cc pc = .ok (ig, 3)) (hKf : ck_Kf D AC S L s nS) (htr : e.platform.stackTraces = false) (hcode : (Cond.codeWith M.1 M.2.1 M.2.2.1 M.2.2.2.1 M.2.2.2.2).before args s = true) (hplain : plainName M.1.cls = true)
    (hinv : ∀ {U : State} {H : Heap} {ls : Array Slot} {vs rest : List Value} {locs : List Loc} {ρ : Nat → Int} {G : Nat → Nat} {N : List Nat}, U.heap = H → Stand p l e R s m args below meth c U locs cells slots → ck_H D AC S tab L ρ G N T H → ck_all (ck_R S ρ G N) ks vs → ck_Inv p l e R s m args below meth c locs cells slots U M.1 (F0 m pc ls (vs.reverse ++ rest)) rest vs.toArray)
    (hfr : K.2.2.2.2.1 + 1 ≤ R.frames) (hst : st.all ck_kn = true) (hlo : ck_words st + (M.2.2.1 + 11) + K.2.2.2.2.2.1 ≤ R.locals) (hce : cells + K.2.2.2.2.2.2.1 ≤ R.cells) (hsl : slots + K.2.2.2.2.2.2.2 ≤ R.slots) (hpre : ck_cpre T μ K.2.1 = true) (hargs : ck_cargs T μ ks K.1 = true)
    (kk : ck_W p l e R s m args below meth c Q D AC S tab L nL ρ0 G0 N0 H0 (pc + 3) (A, ck_push (ck_f0 T μ) (ck_mu T μ K.2.2.1) r st, ck_cpost tab T μ K.2.2.1) (cells + K.2.2.2.2.2.2.1) (slots + K.2.2.2.2.2.2.2)) : ck_W p l e R s m args below meth c Q D AC S tab L nL ρ0 G0 N0 H0 pc (A, ks.reverse ++ st, T) cells slots := by
  intro H ls vs locs h U hU X
  obtain ⟨ρ, G, N, lv, h1, h2, h3, h4, h5, h6, h7⟩ := h
  obtain ⟨va, rest, rfl, ha, hrest⟩ := ck_all.split h3
  have ha := ck_all.rev ha
  obtain ⟨ρ1, N1, e1, e2, e3, e4, e5, e6⟩ := h4.pre hpre
  have hv := ck_cargs_ok (ρ1 := ρ1) h4 (fun j i hj => (e1 j i hj).1) hargs ha
  have hi := hinv (ls := ls) (rest := rest) hU X h4 ha
  rw [List.reverse_reverse] at hi
  obtain ⟨U', Ls, o, V, X', hLs, hWV, hps, hret, -⟩ := ck_call hO hi hexec rfl (by rw [hml]; exact h1.1) (ig := ig) (by rw [hb]; exact hd) hcode hplain htr hfr (by show 2 * 0 + _ + _ + _ ≤ _; rw [ck_words_ok hrest hst]; omega) hce hsl hKf rfl hv (by rw [hU]; exact e3)
  obtain ⟨ρ2, G2, N2, y1, y2, y3, y4⟩ := hps
  rw [hU] at y2
  obtain ⟨N', ⟨Mm, hM⟩, z2, z3, z4, z5⟩ := h4.post e1 e2 e5 e6 e4 y3 y1 y2
  rw [hres] at y4
  have hL2 : ck_all (ck_RL S ρ G2 N') A lv := h2.mono fun q w _ hq => ⟨hq.1, by rw [hM]; exact (hq.2.grow z2).ext _⟩
  have hS2 : ck_all (ck_R S ρ G2 N') st rest := hrest.mono fun q w _ hq => by rw [hM]; exact (hq.grow z2).ext _
  have hlo2 : ∀ q ∈ locs ++ Ls, L.size ≤ q.base := fun q hq => by
    rcases List.mem_append.mp hq with z | z
    · exact h6 q z
    · exact hLs q z
  cases r with
  | none =>
    subst y4
    obtain ⟨t, a, b⟩ := kk U'.heap ls rest (locs ++ Ls) ⟨ρ, G2, N', lv, h1, hL2, hS2, z3, z5 h5, hlo2, h7⟩ U' rfl X'
    exact ⟨t, hret none rfl t a, b⟩
  | some k =>
    obtain ⟨w, rfl, hw⟩ := y4
    obtain ⟨t, a, b⟩ := kk U'.heap ls (w :: rest) (locs ++ Ls) ⟨ρ, G2, N', lv, h1, hL2, ck_all.cons (z4 k w hw) hS2, z3, z5 h5, hlo2, h7⟩ U' rfl X'
    exact ⟨t, hret (some w) rfl t a, b⟩
/-- a call that throws, and nobody here catches: the method throws -/
theorem cw_callX {x : Nat} {ig : Instr} {Km : ck_Ct} (hO : ck_Ok l tab nS M K) (hres : K.2.2.2.1 = .inr x) (hexec : p.tables.exec = Jvm.exec) (hb : c.code = cc) (hml : c.maxLocals = nL) (hlk : meth.locks = false) (hd : decode cc pc = .ok (ig, 3)) (hKf : ck_Kf D AC S L s nS) (htr : e.platform.stackTraces = false) (hcode : (Cond.codeWith M.1 M.2.1 M.2.2.1 M.2.2.2.1 M.2.2.2.2).before args s = true) (hplain : plainName M.1.cls = true)
    (hinv : ∀ {U : State} {H : Heap} {ls : Array Slot} {vs rest : List Value} {locs : List Loc} {ρ : Nat → Int} {G : Nat → Nat} {N : List Nat}, U.heap = H → Stand p l e R s m args below meth c U locs cells slots → ck_H D AC S tab L ρ G N T H → ck_all (ck_R S ρ G N) ks vs → ck_Inv p l e R s m args below meth c locs cells slots U M.1 (F0 m pc ls (vs.reverse ++ rest)) rest vs.toArray)
    (hfr : K.2.2.2.2.1 + 1 ≤ R.frames) (hst : st.all ck_kn = true) (hlo : ck_words st + (M.2.2.1 + 11) + K.2.2.2.2.2.1 ≤ R.locals) (hce : cells + K.2.2.2.2.2.2.1 ≤ R.cells) (hsl : slots + K.2.2.2.2.2.2.2 ≤ R.slots) (hpre : ck_cpre T μ K.2.1 = true) (hargs : ck_cargs T μ ks K.1 = true)
    (hKm : Km.2.2.2.1 = .inr x) (hhd : c.exceptionTable.toList = []) (hle : ck_leT (ck_cpost tab T μ K.2.2.1) Km.2.2.1 = true) (hc : cells + K.2.2.2.2.2.2.1 ≤ Km.2.2.2.2.2.2.1) (hs : slots + K.2.2.2.2.2.2.2 ≤ Km.2.2.2.2.2.2.2) :
    ck_W p l e R s m args below meth c (ck_Fin D AC S tab L ρ0 G0 N0 Km below s) D AC S tab L nL ρ0 G0 N0 s.heap pc (A, ks.reverse ++ st, T) cells slots := by
  intro H ls vs locs h U hU X
  obtain ⟨ρ, G, N, lv, h1, h2, h3, h4, h5, h6, h7⟩ := h
  obtain ⟨va, rest, rfl, ha, hrest⟩ := ck_all.split h3
  have ha := ck_all.rev ha
  obtain ⟨ρ1, N1, e1, e2, e3, e4, e5, e6⟩ := h4.pre hpre
  have hv := ck_cargs_ok (ρ1 := ρ1) h4 (fun j i hj => (e1 j i hj).1) hargs ha
  have hi := hinv (ls := ls) (rest := rest) hU X h4 ha
  rw [List.reverse_reverse] at hi
  obtain ⟨U', Ls, o, V, X', hLs, hWV, hps, -, hthr⟩ := ck_call hO hi hexec rfl (by rw [hml]; exact h1.1) (ig := ig) (by rw [hb]; exact hd) hcode hplain htr hfr (by show 2 * 0 + _ + _ + _ ≤ _; rw [ck_words_ok hrest hst]; omega) hce hsl hKf rfl hv (by rw [hU]; exact e3)
  obtain ⟨ρ2, G2, N2, y1, y2, y3, y4⟩ := hps
  rw [hU] at y2
  obtain ⟨N', ⟨Mm, hM⟩, z2, z3, z4, z5⟩ := h4.post e1 e2 e5 e6 e4 y3 y1 y2
  rw [hres] at y4
  obtain ⟨ax, cell, rfl, q1, q2, q3⟩ := y4
  obtain ⟨st1, hrun, hend, hW, hsame⟩ := X'.leaveThrown ax (g := F0 m pc ls rest) rfl rfl rfl (by rw [hhd]; intro x hx; cases hx) hlk
  refine ⟨_, hthr ax rfl _ st1, .threw ax, hrun, hend, hW, ⟨locs ++ Ls, hsame.weaken (fun y hy _ => hy) hc hs, fun q hq => ?_⟩, ρ, G2, N', z3.leT hle, (z5 h5).leT hle, h7, ?_⟩
  · rcases List.mem_append.mp hq with z | z
    · exact h6 q z
    · exact hLs q z
  · rw [hKm]
    exact ⟨ax, cell, rfl, q1, q2, by rw [← hWV.alike.findClass]; exact q3⟩
end CKX
end
section
/-! ===== throwing and catching ===== -/
section CKTH
variable {p : Program} {l : Launch} {e : Env} {R : Room} {s : State} {m : MethodId} {args : Array Value} {below : List Frame} {meth : Method} {c : Code} {T : State} {locs : List Loc} {cells slots : Nat}
/-- a walk, seen as begun where it stands -/
theorem ck_rebase (X : Stand p l e R s m args below meth c T locs cells slots) (hc : cells ≤ R.cells) (hs : slots ≤ R.slots) : Stand p l e { R with cells := R.cells - cells, slots := R.slots - slots } (T.setFrames (.invoking m args :: below)) m args below meth c T [] 0 0 := by
  obtain ⟨g₀, hfr⟩ := X.frames_eq
  have hcurT : T.cur < T.threads.size := State.cur_lt_of_frames hfr
  have hF : (T.setFrames (.invoking m args :: below)).frames = .invoking m args :: below := State.frames_setFrames _ hcurT
  obtain ⟨t, ht, -⟩ := State.frames_cons hF
  have hcur' : (T.setFrames (.invoking m args :: below)).cur < (T.setFrames (.invoking m args :: below)).threads.size := State.cur_lt_of_frames hF
  have eT : T = ({ s.setFrames T.frames with heap := T.heap, slotsUsed := T.slotsUsed } : State).setVm T.vm := by
    have h1 : T.setVm s.vm = ({ s.setFrames T.frames with heap := T.heap, slotsUsed := T.slotsUsed } : State) := X.same.1
    have h3 : (T.setVm s.vm).setVm T.vm = ({ s.setFrames T.frames with heap := T.heap, slotsUsed := T.slotsUsed } : State).setVm T.vm := by rw [h1]
    exact h3
  have es : T.setFrames (.invoking m args :: below) = ({ s.setFrames (.invoking m args :: below) with heap := T.heap, slotsUsed := T.slotsUsed } : State).setVm T.vm := by
    rw [← State.setFrames_setFrames (s := s) (fs := T.frames)]
    conv => lhs; rw [eT]
    rfl
  have es2 : s.setFrames (.invoking m args :: below) = s := by
    obtain ⟨t0, ht0, -⟩ := State.frames_cons X.frames
    rw [← X.frames]
    exact State.setFrames_self ht0
  rw [es2] at es
  have hroom : (T.setFrames (.invoking m args :: below)).hasRoom e.platform { R with cells := R.cells - cells, slots := R.slots - slots } = true := by
    have h := X.room
    have hh := X.heapSize
    have hu := X.used
    have hb := X.book
    have hli : (T.setFrames (.invoking m args :: below)).localsInUse = s.localsInUse := by
      unfold State.localsInUse
      rw [hF, X.frames]
      show _ + ((((T.vm.method? m).bind (·.code)).map (·.maxLocals)).getD 0 + 11) = _
      rw [X.warmed.alike.method?]
    rw [es] at hli
    rw [es]
    simp only [State.hasRoom, Bool.and_eq_true, decide_eq_true_eq] at h ⊢
    obtain ⟨⟨⟨⟨h1, h2⟩, h3⟩, h4⟩, h5⟩ := h
    rw [hli]
    refine ⟨⟨⟨⟨h1, h2⟩, ?_⟩, ?_⟩, ?_⟩
    · show T.heap.size + (R.cells - cells) ≤ _
      omega
    · show T.slotsUsed + (R.slots - slots) ≤ _
      omega
    · exact hb
  refine ⟨X.admits, X.cas, X.clock, hF, hroom, ?_, X.method', X.code, X.here, X.tail, State.WarmedH.refl _, by rw [State.stackLimits_setFrames], by rw [State.stackBytes_setFrames], ?_⟩
  · have h := X.hears
    have hal := X.warmed.alike
    unfold State.hears at h ⊢
    split
    · rename_i g r
      simp only at h
      have e1 : (T.setFrames (.invoking m args :: .java g :: r)).code? g.method = s.code? g.method := by
        rw [State.code?_eq, State.code?_eq]
        show (T.vm.method? _).bind _ = _
        rw [hal.method?]
      rw [e1]
      exact h
    · rfl
    · rfl
    · rename_i h1 h2 h3
      split at h
      · exact absurd rfl (h1 _ _)
      · exact absurd rfl (h2 _ _)
      · exact absurd rfl (h3 _ _)
      · show (T.vm.method? m).any _ = true
        rw [hal.method?]
        exact h
  · have h := (State.sameButNew.refl (T.setFrames (.invoking m args :: below)) ht).setFrames T.frames hcur'
    have e9 : (T.setFrames (.invoking m args :: below)).setFrames T.frames = T := by
      obtain ⟨t0, ht0, -⟩ := State.frames_cons hfr
      rw [State.setFrames_setFrames]
      exact State.setFrames_self ht0
    rw [e9] at h
    exact h
end CKTH

def ck_up2 : List String := ["java/lang/RuntimeException", "java/lang/Exception"]
def ck_4 : List Cond := [.laysStatic "java/lang/Throwable" "UNASSIGNED_STACK" "[Ljava/lang/StackTraceElement;", .laysStatic "java/lang/Throwable" "SUPPRESSED_SENTINEL" "Ljava/util/List;", .isRef (.static "java/lang/Throwable" "UNASSIGNED_STACK" "[Ljava/lang/StackTraceElement;"), .isRef (.static "java/lang/Throwable" "SUPPRESSED_SENTINEL" "Ljava/util/List;")]
section CKTN
variable {p : Program} {l : Launch} {e : Env} {R : Room} {s : State} {m : MethodId} {args : Array Value} {below : List Frame} {meth : Method} {c : Code} {cells slots : Nat} {Q : State → Prop}
variable {cc : ByteArray} {pc pc2 nL nS : Nat} {D : va_G} {AC : Nat → ClassId} {S : Nat → Nat} {tab : List ck_D} {L : Heap} {ρ0 : Nat → Int} {G0 : Nat → Nat} {N0 : List Nat} {H0 : Heap}
variable {A : List (Nat × ck_V)} {st ks : List ck_V} {T : List ck_C} {K Km : ck_Ct} {M : ck_M} {μ : List Nat} {own : String}
theorem ck_ldcs (hexec : p.tables.exec = Jvm.exec) (hb : c.code = cc) {tx : String} {index q ll : Nat} {H : Heap} {locs : List Loc} {ls : Array Slot} {rest : List Value} (hown : s.vm.findClass own = some m.cls) (hZ : vk_R own index tx q s) (hdg : (decode cc pc = .ok (.ldc index, 2) ∧ ll = 2) ∨ (decode cc pc = .ok (.ldc_w index, 3) ∧ ll = 3))
    (k : W p l e R s m args below meth c H locs cells slots Q (F0 m (pc + ll) ls (.ref q :: rest))) : W p l e R s m args below meth c H locs cells slots Q (F0 m pc ls rest) := by
  rcases hdg with ⟨hd, rfl⟩ | ⟨hd, rfl⟩
  · exact va_ldcS hexec hb hown hZ hd k
  · intro T hT X
    obtain ⟨t, a1, b1⟩ := k T hT X
    exact ⟨t, X.ldcStringW hexec hown (text := tx) (a := q) hZ.1 hZ.2 (g := F0 m pc ls rest) rfl (by rw [hb]; exact hd) t a1, b1⟩
/-- throw new X(".."), which nobody here catches -/
theorem cw_throw {x idx ic si ll : Nat} {tx : String} (hexec : p.tables.exec = Jvm.exec) (hb : c.code = cc) (hml : c.maxLocals = nL) (hlk : meth.locks = false) (hown : s.vm.findClass own = some m.cls) (hKf : ck_Kf D AC S L s nS) (htr : e.platform.stackTraces = false)
    (hfit : Jvm.Bundle.fit (ck_xn x) = true) (hclk : Cond.classLink own idx (ck_xn x) ∈ ck_tb) (hini : Cond.initialized (ck_xn x) ∈ ck_tb) (hins : Cond.instantiable (ck_xn x) 6 ∈ ck_tb) (hstr : (own, si, tx) ∈ ck_strs) (hat : ∀ w ∈ Jvm.Bundle.ownAtoms own ic (ck_xn x) ck_up2, w ∈ ck_tb ∨ w ∈ ck_4)
    (hd0 : decode cc pc = .ok (.new idx, 3)) (hd1 : decode cc (pc + 3) = .ok (.dup, 1)) (hd2 : (decode cc (pc + 4) = .ok (.ldc si, 2) ∧ ll = 2) ∨ (decode cc (pc + 4) = .ok (.ldc_w si, 3) ∧ ll = 3)) (hd3 : decode cc (pc + 4 + ll) = .ok (.invokespecial ic, 3)) (hd4 : decode cc (pc + 4 + ll + 3) = .ok (.athrow, 1))
    (hhd : c.exceptionTable.toList = []) (hKm : Km.2.2.2.1 = .inr x) (hle : ck_leT T Km.2.2.1 = true) (hc : cells + 1 ≤ Km.2.2.2.2.2.2.1) (hs : slots + 6 ≤ Km.2.2.2.2.2.2.2) (hRc : Km.2.2.2.2.2.2.1 ≤ R.cells) (hRs : Km.2.2.2.2.2.2.2 ≤ R.slots) (hRf : 6 ≤ R.frames) (hst : st.all ck_kn = true) (hRl : ck_words st + 82 ≤ R.locals) :
    ck_W p l e R s m args below meth c (ck_Fin D AC S tab L ρ0 G0 N0 Km below s) D AC S tab L nL ρ0 G0 N0 s.heap pc (A, st, T) cells slots := by
  intro H ls vs locs h U hU X
  obtain ⟨ρ, G, N, lv, h1, h2, h3, h4, h5, h6, h7⟩ := h
  have Y := ck_rebase X (by omega) (by omega)
  have hWs : s.WarmedH (U.setFrames (.invoking m args :: below)).vm := X.warmed
  have hK' := hKf.moved hWs
  have hown' : (U.setFrames (.invoking m args :: below)).vm.findClass own = some m.cls := by
    show U.vm.findClass own = some m.cls
    rw [X.warmed.alike.findClass]; exact hown
  have hts' : ∀ w ∈ ck_tb, w.before args (U.setFrames (.invoking m args :: below)) = true := hK'.ts
  have hlow : ∀ q, q < L.size → (U.setFrames (.invoking m args :: below)).heap[q]? = L[q]? := fun q hq => by
    show U.heap[q]? = L[q]?
    rw [hU]; exact h4.1.2.1 q hq
  obtain ⟨sa, hsa⟩ := hK'.2.2.2.2.2.2.2.2.2.1 _ hstr
  have hatoms : ∀ w ∈ Jvm.Bundle.ownAtoms own ic (ck_xn x) ck_up2, w.before args (U.setFrames (.invoking m args :: below)) = true := by
    intro w hw
    rcases hat w hw with z | z
    · exact hts' w z
    · have l1 := hK'.2.2.2.2.2.2.2.1
      have l2 := hK'.2.2.2.2.2.2.2.2.1
      simp only [ck_4, List.mem_cons, List.not_mem_nil, or_false] at z
      rcases z with rfl | rfl | rfl | rfl
      · exact l1.lays hlow
      · exact l2.lays hlow
      · exact l1.isref hlow
      · exact l2.isref hlow
  have w : W p l e { R with cells := R.cells - cells, slots := R.slots - slots } (U.setFrames (.invoking m args :: below)) m args below meth c H [] 0 0 (fun t => t.status = .running ∧ Ended t below (.threw H.size) ∧ (U.setFrames (.invoking m args :: below)).WarmedH t.vm ∧ (U.setFrames (.invoking m args :: below)).sameButNew ({ t with vm := (U.setFrames (.invoking m args :: below)).vm } : State) [] 1 6 ∧ ∃ ce, t.heap[H.size]? = some ce ∧ ce.vm.isStatics = false ∧ (U.setFrames (.invoking m args :: below)).vm.findClass (ck_xn x) = some ce.cls) (F0 m pc ls vs) := by
    refine W.newc hexec hb hown' (hts' _ hclk) (hts' _ hins) (hts' _ hini) rfl hd0 (by show 0 + 1 ≤ R.cells - cells; omega) (by show 0 + 6 ≤ R.slots - slots; omega) fun cC kC f1 f2 f3 f4 => ?_
    refine lv_dup hexec hb hd1 rfl ?_
    refine ck_ldcs hexec hb hown' hsa hd2 ?_
    intro V hV XV
    obtain ⟨p1, p2, p3⟩ := ck_push_other H { cls := cC, slots := kC.instanceTypes.map defaultValue, vm := .none }
    obtain ⟨t, t1, t2, t3, t4, t5, ce, t6, t7⟩ := XV.ctorThrowS hexec htr (own := own) (cls := ck_xn x) (names := ck_up2) (ic := ic) hown' hfit (by decide +kernel) hatoms (fun y hy => by cases hy) f1 f2 (a := H.size) (by rw [hV]; exact p1) (by show U.heap.size ≤ H.size; rw [hU]; exact Nat.le_refl _) (msg := .ref sa) rfl
      (g := F0 m (pc + 3 + 1 + ll) ls (.ref sa :: .ref H.size :: .ref H.size :: vs)) rfl (by rw [hml]; exact h1.1) rfl rfl (rest := vs) rfl (by rw [hb]; exact hd3) (by rw [hb]; exact hd4) (by rw [hhd]; intro y hy; cases hy) (by show 2 + 3 < R.frames; omega) (by
        show 2 * 0 + (1 + (vs.map fun v => v.category).sum) + (13 * (2 + 1) + 42) ≤ R.locals
        rw [ck_words_ok (st := st) h3 hst]
        omega) hlk
    exact ⟨t, t1, t2, t3, t4, t5, ce, t6, by rw [t7.vm]; rfl, t7.cls⟩
  obtain ⟨t, t1, t2, t3, t4, t5, ce, t6, t7, t8⟩ := w U hU Y
  have hUt : U.sameButNew ({ t with vm := U.vm } : State) [] 1 6 := by
    obtain ⟨e1, e2⟩ := t5
    refine ⟨?_, e2⟩
    rw [State.setFrames_setFrames] at e1
    exact e1
  have hsm : s.sameButNew ({ t with vm := s.vm } : State) (locs ++ []) (cells + 1) (slots + 6) := X.same.trans (hUt.setVm s.vm)
  have hold : ∀ q, q < H.size → t.heap[q]? = H[q]? := by
    intro q hq
    have hcq : (U.setFrames (.invoking m args :: below)).heap[q]? = some H[q] := by
      show U.heap[q]? = _
      rw [hU]; exact Array.getElem?_eq_getElem hq
    obtain ⟨c', d1, d2, d3, d4⟩ := t5.2.2.2.2.2 q H[q] hcq
    have d1 : t.heap[q]? = some c' := d1
    have : c'.slots = H[q].slots := by
      apply Array.ext_getElem? fun i => ?_
      exact d4 i (by simp)
    rw [d1, d2, this, Array.getElem?_eq_getElem hq]
  have hsz : H.size ≤ t.heap.size := by
    have := (Array.getElem?_eq_some_iff.mp t6).1
    omega
  refine ⟨t, t1, .threw H.size, t2, t3, State.WarmedH.trans X.warmed t4, ⟨locs, (by rw [List.append_nil] at hsm; exact hsm.weaken (fun y hy _ => hy) hc hs), h6⟩, ρ, G, N, (h4.newMany hsz hold (fun _ _ => rfl) (fun q hq hne => absurd (h4.zero hq) hne)).leT hle, (h5.new hsz hold (fun _ _ => rfl) ⟨[], by simp⟩ (fun i c a hc ha ho => Or.inl ⟨c, hc, ha, ho⟩)).leT hle, h7, ?_⟩
  rw [hKm]
  exact ⟨H.size, ce, rfl, t6, t7, by rw [← hWs.alike.findClass]; exact t8⟩
end CKTN
end
section
/-! ===== a call that throws, and is caught here; the method's beginning ===== -/
def ck_lk {α : Type} : List (Nat × α) → Nat → Option α
  | [], _ => none
  | (i, v) :: t, j => if i == j then some v else ck_lk t j
theorem ck_lk_mem {α : Type} : ∀ {t : List (Nat × α)} {j : Nat} {v : α}, ck_lk t j = some v → (j, v) ∈ t
  | [], _, _, h => by cases h
  | (i, w) :: t, j, v, h => by
    unfold ck_lk at h
    split at h
    · rename_i hi
      cases h
      have e : i = j := by simpa using hi
      rw [e]; exact List.mem_cons_self
    · exact List.mem_cons_of_mem _ (ck_lk_mem h)
def ck_fh (xl : List (Nat × Nat)) (pc x : Nat) : List (Nat × Nat × Nat × Nat) → Option Nat
  | [] => none
  | (s, e, h, ty) :: t => if decide (s ≤ pc) && decide (pc < e) then (match ck_lk xl ty with
    | some y => if y == x then some h else ck_fh xl pc x t
    | none => none) else ck_fh xl pc x t
section CKCA
variable {p : Program} {l : Launch} {e : Env} {R : Room} {s : State} {m : MethodId} {args : Array Value} {below : List Frame} {meth : Method} {c : Code} {cells slots : Nat} {Q : State → Prop}
variable {cc : ByteArray} {pc pc2 nL nS : Nat} {D : va_G} {AC : Nat → ClassId} {S : Nat → Nat} {tab : List ck_D} {L : Heap} {ρ0 : Nat → Int} {G0 : Nat → Nat} {N0 : List Nat} {H0 : Heap}
variable {A : List (Nat × ck_V)} {st ks : List ck_V} {T : List ck_C} {K Km : ck_Ct} {M : ck_M} {μ : List Nat} {own : String}
theorem ck_fh_ok (hpl : e.platform.magicAccessors = ({} : Platform).magicAccessors) (hown : s.vm.findClass own = some m.cls) (hKf : ck_Kf D AC S L s nS) {xl : List (Nat × Nat)} (hxl : ∀ q ∈ xl, Cond.classLink own q.1 (ck_xn q.2) ∈ ck_tb ∧ q.2 < 3 ∧ q.1 ≠ 0) {x : Nat} (hx3 : x < 3) {cx : ClassId} (hcx : s.vm.findClass (ck_xn x) = some cx) (hass : s.vm.assignable cx cx = true) {pc h : Nat} :
    ∀ (tbl : List ExceptionTableEntry), ck_fh xl pc x (tbl.map (fun h => (h.startPc, h.endPc, h.handlerPc, h.catchType))) = some h →
      ∃ (pre : List ExceptionTableEntry) (y : ExceptionTableEntry) (rest : List ExceptionTableEntry), tbl = pre ++ y :: rest ∧ (∀ z ∈ pre, RowPassed e.platform s m.cls pc cx z) ∧ covers y pc = true ∧ RowCatches e.platform s m.cls cx y ∧ y.handlerPc = h
  | [], hh => by cases hh
  | z :: t, hh => by
    have hts := hKf.ts (args := #[])
    simp only [List.map_cons, ck_fh] at hh
    split at hh
    · rename_i hcov
      have hcov' : covers z pc = true := by
        simp only [covers]
        simpa using hcov
      split at hh
      · rename_i y hy
        obtain ⟨w1, w2, w3⟩ := hxl _ (ck_lk_mem hy)
        dsimp only at w1 w2 w3
        obtain ⟨c', hc', hcl⟩ := Cond.classLink_spec hown (hts _ w1) e.platform hpl
        split at hh
        · rename_i hyx
          have hyx : y = x := by simpa using hyx
          subst hyx
          cases hh
          cases hcx.symm.trans hc'
          exact ⟨[], z, t, rfl, (fun q hq => by cases hq), hcov', Or.inr ⟨w3, cx, hcl, hass⟩, rfl⟩
        · rename_i hyx
          have hyx : ¬ y = x := by simpa using hyx
          obtain ⟨pre, y', rest, e1, e2, e3, e4, e5⟩ := ck_fh_ok hpl hown hKf hxl hx3 hcx hass t hh
          refine ⟨z :: pre, y', rest, by rw [e1]; rfl, fun q hq => ?_, e3, e4, e5⟩
          rcases List.mem_cons.mp hq with rfl | hq
          · obtain ⟨c1, c2, g1, g2, g3⟩ := hKf.2.2.2.2.2.2.2.2.2.2 x y hx3 w2 (Ne.symm hyx)
            cases hcx.symm.trans g1
            cases hc'.symm.trans g2
            exact Or.inr ⟨w3, c', hcl, g3⟩
          · exact e2 q hq
      · cases hh
    · rename_i hcov
      have hcov' : covers z pc = false := by
        simp only [covers]
        simpa using hcov
      obtain ⟨pre, y', rest, e1, e2, e3, e4, e5⟩ := ck_fh_ok hpl hown hKf hxl hx3 hcx hass t hh
      refine ⟨z :: pre, y', rest, by rw [e1]; rfl, fun q hq => ?_, e3, e4, e5⟩
      rcases List.mem_cons.mp hq with rfl | hq
      · exact Or.inl hcov'
      · exact e2 q hq
/-- a call that throws, and is caught here -/
theorem cw_callC {x hpc : Nat} {ig : Instr} {xl : List (Nat × Nat)} {hh : List (Nat × Nat × Nat × Nat)} (hO : ck_Ok l tab nS M K) (hres : K.2.2.2.1 = .inr x) (hexec : p.tables.exec = Jvm.exec) (hb : c.code = cc) (hml : c.maxLocals = nL) (hown : s.vm.findClass own = some m.cls) (hd : decode cc pc = .ok (ig, 3)) (hKf : ck_Kf D AC S L s nS) (htr : e.platform.stackTraces = false) (hcode : (Cond.codeWith M.1 M.2.1 M.2.2.1 M.2.2.2.1 M.2.2.2.2).before args s = true) (hplain : plainName M.1.cls = true)
    (hinv : ∀ {U : State} {H : Heap} {ls : Array Slot} {vs rest : List Value} {locs : List Loc} {ρ : Nat → Int} {G : Nat → Nat} {N : List Nat}, U.heap = H → Stand p l e R s m args below meth c U locs cells slots → ck_H D AC S tab L ρ G N T H → ck_all (ck_R S ρ G N) ks vs → ck_Inv p l e R s m args below meth c locs cells slots U M.1 (F0 m pc ls (vs.reverse ++ rest)) rest vs.toArray)
    (hfr : K.2.2.2.2.1 + 1 ≤ R.frames) (hst : st.all ck_kn = true) (hlo : ck_words st + (M.2.2.1 + 11) + K.2.2.2.2.2.1 ≤ R.locals) (hce : cells + K.2.2.2.2.2.2.1 ≤ R.cells) (hsl : slots + K.2.2.2.2.2.2.2 ≤ R.slots) (hpre : ck_cpre T μ K.2.1 = true) (hargs : ck_cargs T μ ks K.1 = true)
    (hhd : c.exceptionTable.toList.map (fun h => (h.startPc, h.endPc, h.handlerPc, h.catchType)) = hh) (hfh : ck_fh xl pc x hh = some hpc) (hxl : ∀ q ∈ xl, Cond.classLink own q.1 (ck_xn q.2) ∈ ck_tb ∧ q.2 < 3 ∧ q.1 ≠ 0) (hx3 : x < 3) (hcast : Cond.castable (ck_xn x) (ck_xn x) ∈ ck_tb)
    (kk : ck_W p l e R s m args below meth c Q D AC S tab L nL ρ0 G0 N0 H0 hpc (A, [.inr (.inr (4, 0))], ck_cpost tab T μ K.2.2.1) (cells + K.2.2.2.2.2.2.1) (slots + K.2.2.2.2.2.2.2)) :
    ck_W p l e R s m args below meth c Q D AC S tab L nL ρ0 G0 N0 H0 pc (A, ks.reverse ++ st, T) cells slots := by
  intro H ls vs locs h U hU X
  obtain ⟨ρ, G, N, lv, h1, h2, h3, h4, h5, h6, h7⟩ := h
  obtain ⟨va, rest, rfl, ha, hrest⟩ := ck_all.split h3
  have ha := ck_all.rev ha
  obtain ⟨ρ1, N1, e1, e2, e3, e4, e5, e6⟩ := h4.pre hpre
  have hv := ck_cargs_ok (ρ1 := ρ1) h4 (fun j i hj => (e1 j i hj).1) hargs ha
  have hi := hinv (ls := ls) (rest := rest) hU X h4 ha
  rw [List.reverse_reverse] at hi
  obtain ⟨U', Ls, o, V, X', hLs, hWV, hps, -, hthr⟩ := ck_call hO hi hexec rfl (by rw [hml]; exact h1.1) (ig := ig) (by rw [hb]; exact hd) hcode hplain htr hfr (by show 2 * 0 + _ + _ + _ ≤ _; rw [ck_words_ok hrest hst]; omega) hce hsl hKf rfl hv (by rw [hU]; exact e3)
  obtain ⟨ρ2, G2, N2, y1, y2, y3, y4⟩ := hps
  rw [hU] at y2
  obtain ⟨N', ⟨Mm, hM⟩, z2, z3, z4, z5⟩ := h4.post e1 e2 e5 e6 e4 y3 y1 y2
  rw [hres] at y4
  obtain ⟨ax, cell, rfl, q1, q2, q3⟩ := y4
  have hcx : s.vm.findClass (ck_xn x) = some cell.cls := by rw [← hWV.alike.findClass]; exact q3
  have hpl : e.platform.magicAccessors = ({} : Platform).magicAccessors := by rw [X.admits.platform]
  obtain ⟨c3, c4, hc3, hc4, hasg⟩ := Cond.castable_spec (hKf.ts (args := args) _ hcast)
  cases hcx.symm.trans hc3
  cases hcx.symm.trans hc4
  rw [← hhd] at hfh
  obtain ⟨pre, y, rst, d1, d2, d3, d4, d5⟩ := ck_fh_ok hpl hown hKf hxl hx3 hcx hasg _ hfh
  obtain ⟨kx, hkx, -⟩ := Vm.findClass_spec hcx
  obtain ⟨vm', XV, stp⟩ := X'.caughtThrough ax (g := F0 m pc ls rest) rfl q1 q2 ⟨kx, hkx⟩ pre y rst d1 d2 d3 d4
  have hL2 : ck_all (ck_RL S ρ G2 N') A lv := h2.mono fun q w _ hq => ⟨hq.1, by rw [hM]; exact (hq.2.grow z2).ext _⟩
  have hlo2 : ∀ q ∈ locs ++ Ls, L.size ≤ q.base := fun q hq => by
    rcases List.mem_append.mp hq with z | z
    · exact h6 q z
    · exact hLs q z
  obtain ⟨t, a, b⟩ := kk U'.heap ls [.ref ax] (locs ++ Ls) ⟨ρ, G2, N', lv, h1, hL2, ck_all.cons ⟨ax, rfl⟩ ck_all.nil, z3, z5 h5, hlo2, h7⟩ (U'.setVm vm') rfl XV
  refine ⟨t, hthr ax rfl t ?_, b⟩
  rw [X'.pushThrowing_eq]
  refine stp t ?_
  rw [d5]
  exact a
/-! the method's beginning -/
def ck_largs : Nat → List ck_V → List (Nat × ck_V)
  | _, [] => []
  | i, v :: vs => (i, v) :: ck_largs (if ck_lng v then i + 2 else i + 1) vs
theorem ck_largs_ok {ρ : Nat → Int} {G : Nat → Nat} {N : List Nat} : ∀ {ks : List ck_V} {vs : List Value} (i : Nat), ck_all (ck_R S ρ G N) ks vs → ks.all ck_kn = true → ck_all (ck_RL S ρ G N) (ck_largs i ks) (lv_args i vs)
  | [], vs, i, h, _ => by
    have : vs = [] := by
      have := h.1
      cases vs with
      | nil => rfl
      | cons a b => simp at this
    subst this
    exact ck_all.nil
  | k :: t, vs, i, h, hk => by
    obtain ⟨v, vs', rfl, h1, h2⟩ := h.uncons
    simp only [List.all_cons, Bool.and_eq_true] at hk
    have hc := ck_cat h1 hk.1
    have ih := ck_largs_ok (if v.category = 2 then i + 2 else i + 1) h2 hk.2
    refine ck_all.cons ⟨rfl, h1⟩ ?_
    have e : (if ck_lng k = true then i + 2 else i + 1) = (if v.category = 2 then i + 2 else i + 1) := by
      by_cases hv : v.category = 2
      · rw [if_pos hv, ← hc, hv]; rfl
      · rw [if_neg hv, if_neg]
        rw [← hc]
        simpa using hv
    rw [e]
    exact ih
/-- ghosts for the locals that are ints and have none yet -/
def ck_tagL (A : List (Nat × ck_V)) : List (Nat × ck_V) := A.map (fun q => (q.1, match q.2 with
  | .inl (lo, hi, none) => .inl (lo, hi, some (q.1, 0))
  | x => x))
def ck_lowg : ck_V → Bool
  | .inl (_, _, some (g, _)) => g < 100
  | _ => false
theorem cw_tagL {B : ck_A} (hA : B.1.all (fun q => !ck_lowg q.2 && decide (q.1 < 100)) = true) (hS : B.2.1.all (fun v => !ck_lowg v) = true) (hT : B.2.2.all (fun d => d.2.all (fun v => !ck_lowg v)) = true)
    (kk : ck_W p l e R s m args below meth c Q D AC S tab L nL ρ0 G0 N0 H0 pc (ck_tagL B.1, B.2.1, B.2.2) cells slots) : ck_W p l e R s m args below meth c Q D AC S tab L nL ρ0 G0 N0 H0 pc B cells slots := by
  intro H ls vs locs h
  obtain ⟨ρ, G, N, lv, h1, h2, h3, h4, h5, h6, h7⟩ := h
  have hg : ∀ {k : ck_V} {v : Value}, ck_lowg k = false → ck_R S ρ G N k v → ck_R S (fun g => if g < 100 then ck_iv (match ls[g]? with | some (.val w) => some w | _ => none) else ρ g) G N k v := by
    intro k v hk h
    match k, hk, h with
    | .inl (a, b, none), _, h =>
      obtain ⟨x, e, x1, x2, -⟩ := h
      exact ⟨x, e, x1, x2, fun g c q => by cases q⟩
    | .inl (a, b, some (t, n)), hk, h =>
      obtain ⟨x, e, x1, x2, x3⟩ := h
      refine ⟨x, e, x1, x2, fun g' c' q => ?_⟩
      cases q
      have hne : ¬ t < 100 := by simpa [ck_lowg] using hk
      show x.toInt = (if t < 100 then _ else ρ t) + n
      rw [if_neg hne]
      exact x3 t n rfl
    | .inr (.inl q), _, h => exact h
    | .inr (.inr (0, _)), _, h => exact h
    | .inr (.inr (1, i)), _, h => exact h
    | .inr (.inr (2, τ)), _, h => exact h
    | .inr (.inr (3, j)), _, h => exact h
    | .inr (.inr (4, _)), _, h => exact h
    | .inr (.inr (n + 5, _)), _, h => exact h
  refine kk H ls vs locs ⟨fun g => if g < 100 then ck_iv (match ls[g]? with | some (.val w) => some w | _ => none) else ρ g, G, N, lv, h1, ?_, h3.mono (fun k v hk h => hg (by simpa using List.all_eq_true.mp hS k hk) h), ⟨h4.1, h4.2.1, fun i d a hi ha => ?_, h4.2.2.2⟩, h5, h6, fun g g1 g2 => ?_⟩
  · refine ⟨by simp [ck_tagL, h2.1], fun i q w hq hw => ?_⟩
    simp only [ck_tagL, List.getElem?_map] at hq
    obtain ⟨q0, hq0, rfl⟩ := Option.map_eq_some_iff.mp hq
    obtain ⟨r1, r2⟩ := h2.2 i q0 w hq0 hw
    have hm := List.all_eq_true.mp hA q0 (List.mem_of_getElem? hq0)
    simp only [Bool.and_eq_true, Bool.not_eq_true', decide_eq_true_eq] at hm
    refine ⟨r1, ?_⟩
    have hslot : ls[q0.1]? = some (.val w.2) := by rw [r1]; exact h1.2.2 w (List.mem_of_getElem? hw)
    obtain ⟨i0, k0⟩ := q0
    dsimp only at hm r2 hslot ⊢
    match k0, r2, hm with
    | .inl (lo, hi, none), r2, hm =>
      obtain ⟨x, ex, x1, x2, -⟩ := r2
      refine ⟨x, ex, x1, x2, fun g c hgc => ?_⟩
      cases hgc
      show x.toInt = (if i0 < 100 then ck_iv (match ls[i0]? with | some (.val w) => some w | _ => none) else ρ i0) + 0
      rw [if_pos hm.2, hslot]
      show x.toInt = ck_iv (some w.2) + 0
      rw [ex]
      show x.toInt = x.toInt + 0
      omega
    | .inl (lo, hi, some t), r2, hm => exact hg hm.1 r2
    | .inr z, r2, hm => exact hg hm.1 r2
  · have hd := List.all_eq_true.mp hT d (List.mem_of_getElem? hi)
    have := (h4.2.2.1 i d a hi ha).mapV (ρ' := fun g => if g < 100 then ck_iv (match ls[g]? with | some (.val w) => some w | _ => none) else ρ g) (G' := G) (N' := N) id (fun _ => rfl) (fun _ => rfl) (fun k v hk hv => hg (by simpa using List.all_eq_true.mp hd k hk) hv)
    simpa using this
  · show (if g < 100 then _ else ρ g) = ρ0 g
    rw [if_neg (by omega)]
    exact h7 g g1 g2
/-- a method is checked from its beginning -/
theorem cw_entry (hml : c.maxLocals = M.2.2.1) {vs : List Value} (hargs : args = vs.toArray) (hv : ck_all (ck_R S ρ0 G0 N0) K.1 vs) (hH : ck_H D AC S tab L ρ0 G0 N0 (ck_etag K.2.1) s.heap) (hkn : K.1.all ck_kn = true) (hlen : ck_words K.1 ≤ M.2.2.1)
    (kk : ck_W p l e R s m args below meth c Q D AC S tab L M.2.2.1 ρ0 G0 N0 s.heap 0 (ck_largs 0 K.1, [], ck_etag K.2.1) 0 0) : W p l e R s m args below meth c s.heap [] 0 0 Q (entryFrame m args M.2.2.1) := by
  subst hargs
  have hw : (lg_sl vs).length = (vs.map fun v => v.category).sum := by
    clear hv hH kk
    induction vs with
    | nil => rfl
    | cons v t ih =>
      have h12 := lv_cat v
      simp only [lg_sl, List.flatMap_cons, List.length_append, List.map_cons, List.sum_cons] at ih ⊢
      rw [ih]
      congr 1
      rcases h12 with z | z <;> simp [z]
  have hl := lv_entry vs (n := M.2.2.1) (by rw [hw, ck_words_ok hv hkn]; exact hlen)
  rw [lg_entry_eq]
  refine kk s.heap _ [] [] ⟨ρ0, G0, N0, _, hl, ck_largs_ok 0 hv hkn, ck_all.nil, hH, ⟨Nat.le_refl _, fun _ _ => rfl, fun _ _ _ _ => rfl, Nat.le_refl _, fun _ _ => rfl, fun i d a hi ha ho hn => ?_⟩, fun q hq => (by cases hq), fun _ _ _ => rfl⟩
  have h9 := (List.getElem?_eq_some_iff.mp ha).1
  omega
end CKCA
end
section
/-! ===== more that is done between instructions: a typed object gets a name; a number is cut in two; types are made wider; ghosts ===== -/
section CKMO
variable {p : Program} {l : Launch} {e : Env} {R : Room} {s : State} {m : MethodId} {args : Array Value} {below : List Frame} {meth : Method} {c : Code} {cells slots : Nat} {Q : State → Prop}
variable {cc : ByteArray} {pc pc2 nL nS : Nat} {D : va_G} {AC : Nat → ClassId} {S : Nat → Nat} {tab : List ck_D} {L : Heap} {ρ0 : Nat → Int} {G0 : Nat → Nat} {N0 : List Nat} {H0 : Heap}
variable {A : List (Nat × ck_V)} {st : List ck_V} {T : List ck_C}
def ck_setl (A : List (Nat × ck_V)) (k : Nat) (v : ck_V) : List (Nat × ck_V) := A.map (fun q => if q.1 == k then (q.1, v) else q)
/-- a typed object in a local gets a name -/
theorem cw_focus {k τ ci : Nat} {ks : List ck_V} (hk : ck_loc A k = some (.inr (.inr (2, τ)))) (hτ : tab[τ]? = some (.inr (ci, ks))) (hpl : ks.all ck_plain = true)
    (kk : ck_W p l e R s m args below meth c Q D AC S tab L nL ρ0 G0 N0 H0 pc (ck_setl A k (.inr (.inr (1, T.length))), st, T ++ [((3, τ), ks)]) cells slots) : ck_W p l e R s m args below meth c Q D AC S tab L nL ρ0 G0 N0 H0 pc (A, st, T) cells slots := by
  intro H ls vs locs h
  obtain ⟨ρ, G, N, lv, h1, h2, h3, h4, h5, h6, h7⟩ := h
  obtain ⟨j, v, g1, ⟨a, rfl, ha, hz⟩⟩ := ck_loc_ok h2 hk
  have hls : ls[k]? = some (.val (.ref a)) := lv_at h1 j g1
  have hlen : N.length = T.length := h4.2.1
  have hty := (h4.1.2.2 a (by rw [ha]; exact hz)).2
  rw [ha] at hty
  unfold ck_ty at hty
  rw [hτ] at hty
  obtain ⟨ws, y1, y2⟩ := hty
  have hnm : (N ++ [a])[T.length]? = some a := by rw [← hlen]; simp
  have spl : ∀ (j : Nat) (d : ck_C) (b : Nat), (T ++ [((3, τ), ks)])[j]? = some d → (N ++ [a])[j]? = some b → (T[j]? = some d ∧ N[j]? = some b) ∨ (j = T.length ∧ d = ((3, τ), ks) ∧ b = a) := by
    intro j d b hj hb
    by_cases e : j < T.length
    · rw [List.getElem?_append_left e] at hj
      rw [List.getElem?_append_left (by omega)] at hb
      exact Or.inl ⟨hj, hb⟩
    · rw [List.getElem?_append_right (by omega)] at hj
      rw [List.getElem?_append_right (by omega)] at hb
      have e0 : j - T.length = 0 := by
        have := (List.getElem?_eq_some_iff.mp hj).1
        simp at this
        omega
      rw [e0] at hj
      rw [show j - N.length = 0 by omega] at hb
      cases hj
      cases hb
      exact Or.inr ⟨by omega, rfl, rfl⟩
  refine kk H ls vs locs ⟨ρ, G, N ++ [a], lv, h1, ⟨by simp [ck_setl, h2.1], fun i q w hq hw => ?_⟩, ck_all_ext h3, ⟨h4.1, by simp [hlen], fun i d b hi hb => ?_, fun i1 i2 d1 d2 b k1 k2 o1 o2 n1 n2 => ?_⟩, ?_, h6, h7⟩
  · simp only [ck_setl, List.getElem?_map] at hq
    obtain ⟨q0, hq0, rfl⟩ := Option.map_eq_some_iff.mp hq
    obtain ⟨r1, r2⟩ := h2.2 i q0 w hq0 hw
    split
    · rename_i he
      have he : q0.1 = k := by simpa using he
      refine ⟨r1, a, hnm, ?_⟩
      have hsl : ls[w.1]? = some (.val w.2) := h1.2.2 w (List.mem_of_getElem? hw)
      rw [← r1, he, hls] at hsl
      have hval : Value.ref a = w.2 := by simpa using hsl
      exact hval.symm
    · exact ⟨r1, r2.ext _⟩
  · rcases spl i d b hi hb with ⟨x1, x2⟩ | ⟨-, rfl, rfl⟩
    · exact (h4.2.2.1 i d b x1 x2).ext _
    · exact ⟨ha, hz, ci, ks, ws, hτ, y1, y2.mono fun k v hk h => ck_R.plain (List.all_eq_true.mp hpl k hk) h⟩
  · rcases spl i1 d1 b k1 n1 with ⟨x1, x2⟩ | ⟨-, rfl, -⟩
    · rcases spl i2 d2 b k2 n2 with ⟨z1, z2⟩ | ⟨-, rfl, -⟩
      · exact h4.2.2.2 i1 i2 d1 d2 b x1 z1 o1 o2 x2 z2
      · simp [ck_own] at o2
    · simp [ck_own] at o1
  · obtain ⟨f1, f2, f3, f4, f5, f6⟩ := h5
    refine ⟨f1, f2, f3, by simp; omega, fun i hi => by rw [List.getElem?_append_left (by omega)]; exact f5 i hi, fun i d b hd hb ho hn => ?_⟩
    rcases spl i d b hd hb with ⟨x1, x2⟩ | ⟨-, rfl, -⟩
    · exact f6 i d b x1 x2 ho hn
    · simp [ck_own] at ho
/-- a cell's contents, otherwise said, for all or for two cases -/
theorem ck_tc.upd {ρ : Nat → Int} {G : Nat → Nat} {N : List Nat} {H : Heap} {h : Nat × Nat} {fs : List ck_V} {k a : Nat} {v v' : ck_V} (ht : ck_tc D AC S tab L ρ G N H (h, fs) a) (hk : fs[k]? = some v) (hv : ∀ w, ck_R S ρ G N v w → ck_R S ρ G N v' w) : ck_tc D AC S tab L ρ G N H (h, fs.set k v') a := by
  have hall : ∀ {vs : List Value}, ck_all (ck_R S ρ G N) fs vs → ck_all (ck_R S ρ G N) (fs.set k v') vs := by
    intro vs hvs
    refine ⟨by simp [hvs.1], fun i x y hx hy => ?_⟩
    by_cases e : k = i
    · subst e
      rw [List.getElem?_set_self (List.getElem?_eq_some_iff.mp hk).1] at hx
      cases hx
      exact hv y (hvs.2 k v y hk hy)
    · rw [List.getElem?_set_ne e] at hx
      exact hvs.2 i x y hx hy
  obtain ⟨k1, n1⟩ := h
  unfold ck_tc at ht ⊢
  match k1, ht with
  | 0, ht => obtain ⟨h1, h2, vs, h3, h4⟩ := ht; exact ⟨h1, h2, vs, h3, hall h4⟩
  | 1, ht =>
    obtain ⟨h1, h2, f, h3, h4⟩ := ht
    refine ⟨h1, h2, f, by simpa using h3, fun j x hj => ?_⟩
    dsimp only at hj
    by_cases e : k = j
    · subst e
      rw [List.getElem?_set_self (List.getElem?_eq_some_iff.mp hk).1] at hj
      cases hj
      exact hv _ (h4 k v hk)
    · rw [List.getElem?_set_ne e] at hj
      exact h4 j x hj
  | 2, ht => exact trivial
  | 3, ht => obtain ⟨h1, h2, ci, ks, vs, h3, h4, h5⟩ := ht; exact ⟨h1, h2, ci, ks, vs, h3, h4, hall h5⟩
  | 4, ht => exact trivial
  | 5, ht =>
    obtain ⟨h1, cell, h2, h3, h4⟩ := ht
    refine ⟨h1, cell, h2, h3, fun j x hj => ?_⟩
    dsimp only at hj
    by_cases e : k = j
    · subst e
      rw [List.getElem?_set_self (List.getElem?_eq_some_iff.mp hk).1] at hj
      cases hj
      obtain ⟨w, w1, w2⟩ := h4 k v hk
      exact ⟨w, w1, hv w w2⟩
    · rw [List.getElem?_set_ne e] at hj
      exact h4 j x hj
  | n + 6, ht => exact trivial
theorem ck_H.upd {ρ : Nat → Int} {G : Nat → Nat} {N : List Nat} {H : Heap} {h : Nat × Nat} {fs fs' : List ck_V} {i : Nat} (h4 : ck_H D AC S tab L ρ G N T H) (hi : T[i]? = some (h, fs)) (hc : ∀ a, N[i]? = some a → ck_tc D AC S tab L ρ G N H (h, fs) a → ck_tc D AC S tab L ρ G N H (h, fs') a) : ck_H D AC S tab L ρ G N (T.set i (h, fs')) H := by
  obtain ⟨k1, k2, k3, k4⟩ := h4
  have hil : i < T.length := (List.getElem?_eq_some_iff.mp hi).1
  have spl : ∀ (j : Nat) (d : ck_C), (T.set i (h, fs'))[j]? = some d → (j = i ∧ d = (h, fs')) ∨ (j ≠ i ∧ T[j]? = some d) := by
    intro j d hj
    by_cases e : i = j
    · subst e
      rw [List.getElem?_set_self hil] at hj
      cases hj
      exact Or.inl ⟨rfl, rfl⟩
    · rw [List.getElem?_set_ne e] at hj
      exact Or.inr ⟨Ne.symm e, hj⟩
  refine ⟨k1, by simp [k2], fun j d a hj ha => ?_, fun j1 j2 d1 d2 a e1 e2 o1 o2 n1 n2 => ?_⟩
  · rcases spl j d hj with ⟨rfl, rfl⟩ | ⟨-, hj'⟩
    · exact hc a ha (k3 j _ a hi ha)
    · exact k3 j d a hj' ha
  · have f : ∀ (j : Nat) (d : ck_C), (T.set i (h, fs'))[j]? = some d → ck_own d = true → ∃ d', T[j]? = some d' ∧ ck_own d' = true := by
      intro j d hd ho
      rcases spl j d hd with ⟨rfl, rfl⟩ | ⟨-, hj'⟩
      · exact ⟨_, hi, ho⟩
      · exact ⟨d, hj', ho⟩
    obtain ⟨x1, y1, z1⟩ := f j1 d1 e1 o1
    obtain ⟨x2, y2, z2⟩ := f j2 d2 e2 o2
    exact k4 j1 j2 x1 x2 a y1 y2 z1 z2 n1 n2
/-- a number in a named cell is cut in two -/
theorem cw_split {i k : Nat} {h : Nat × Nat} {fs : List ck_V} {q : ck_Q} (x : Int) (hi : T[i]? = some (h, fs)) (hk : fs[k]? = some (.inl q))
    (k1 : ck_W p l e R s m args below meth c Q D AC S tab L nL ρ0 G0 N0 H0 pc (A, st, T.set i (h, fs.set k (.inl (q.1, x, q.2.2)))) cells slots)
    (k2 : ck_W p l e R s m args below meth c Q D AC S tab L nL ρ0 G0 N0 H0 pc (A, st, T.set i (h, fs.set k (.inl (x + 1, q.2.1, q.2.2)))) cells slots) : ck_W p l e R s m args below meth c Q D AC S tab L nL ρ0 G0 N0 H0 pc (A, st, T) cells slots := by
  intro H ls vs locs hh
  obtain ⟨ρ, G, N, lv, h1, h2, h3, h4, h5, h6, h7⟩ := hh
  have hil : i < T.length := (List.getElem?_eq_some_iff.mp hi).1
  have hNl : i < N.length := by have := h4.2.1; dsimp only at this; omega
  obtain ⟨a, ha⟩ : ∃ a, N[i]? = some a := ⟨N[i], List.getElem?_eq_getElem hNl⟩
  have ht := h4.2.2.1 i _ a hi ha
  have hF : ∀ fs', ck_F G0 N0 H0 G N (T.set i (h, fs')) H := fun fs' => by
    obtain ⟨f1, f2, f3, f4, f5, f6⟩ := h5
    refine ⟨f1, f2, f3, f4, f5, fun j d b hd hb ho hn => ?_⟩
    obtain ⟨d', e1, e2⟩ := ck_set_own (c := (h, fs')) ⟨_, hi, fun o => o⟩ j d hd ho
    exact f6 j d' b e1 hb e2 hn
  have key : (ck_tc D AC S tab L ρ G N H (h, fs.set k (.inl (q.1, x, q.2.2))) a) ∨ (ck_tc D AC S tab L ρ G N H (h, fs.set k (.inl (x + 1, q.2.1, q.2.2))) a) := by
    have go : ∀ (w : Value), ck_R S ρ G N (.inl q) w → (ck_R S ρ G N (.inl (q.1, x, q.2.2)) w ∨ ck_R S ρ G N (.inl (x + 1, q.2.1, q.2.2)) w) := by
      intro w hw
      obtain ⟨y, rfl, y1, y2, y3⟩ := hw
      by_cases hy : y.toInt ≤ x
      · exact Or.inl ⟨y, rfl, y1, hy, y3⟩
      · exact Or.inr ⟨y, rfl, by dsimp only; omega, y2, y3⟩
    obtain ⟨kd, n1⟩ := h
    have hkl : k < fs.length := (List.getElem?_eq_some_iff.mp hk).1
    have fin : ∀ (w : Value) (vs : List Value), ck_all (ck_R S ρ G N) fs vs → vs[k]? = some w → ∀ v', ck_R S ρ G N v' w → ck_all (ck_R S ρ G N) (fs.set k v') vs := by
      intro w vs hvs hw v' hv'
      refine ⟨by simp [hvs.1], fun j x' y hx hy => ?_⟩
      by_cases e : k = j
      · subst e
        rw [List.getElem?_set_self hkl] at hx
        cases hx
        cases hw.symm.trans hy
        exact hv'
      · rw [List.getElem?_set_ne e] at hx
        exact hvs.2 j x' y hx hy
    have fin2 : ∀ (f : Nat → Value), (∀ (j : Nat) (v : ck_V), fs[j]? = some v → ck_R S ρ G N v (f j)) → ∀ v', ck_R S ρ G N v' (f k) → ∀ (j : Nat) (v : ck_V), (fs.set k v')[j]? = some v → ck_R S ρ G N v (f j) := by
      intro f hf v' hv' j v hj
      by_cases e : k = j
      · subst e
        rw [List.getElem?_set_self hkl] at hj
        cases hj
        exact hv'
      · rw [List.getElem?_set_ne e] at hj
        exact hf j v hj
    unfold ck_tc at ht ⊢
    match kd, ht with
    | 0, ht =>
      obtain ⟨a1, a2, vs, a3, a4⟩ := ht
      obtain ⟨w, w1, w2⟩ := a4.get hk
      rcases go w w2 with g | g
      · exact Or.inl ⟨a1, a2, vs, a3, fin w vs a4 w1 _ g⟩
      · exact Or.inr ⟨a1, a2, vs, a3, fin w vs a4 w1 _ g⟩
    | 1, ht =>
      obtain ⟨a1, a2, f, a3, a4⟩ := ht
      rcases go _ (a4 k _ hk) with g | g
      · exact Or.inl ⟨a1, a2, f, by simpa using a3, fin2 f a4 _ g⟩
      · exact Or.inr ⟨a1, a2, f, by simpa using a3, fin2 f a4 _ g⟩
    | 2, ht => exact Or.inl trivial
    | 3, ht =>
      obtain ⟨a1, a2, ci, ks, vs, a3, a5, a4⟩ := ht
      obtain ⟨w, w1, w2⟩ := a4.get hk
      rcases go w w2 with g | g
      · exact Or.inl ⟨a1, a2, ci, ks, vs, a3, a5, fin w vs a4 w1 _ g⟩
      · exact Or.inr ⟨a1, a2, ci, ks, vs, a3, a5, fin w vs a4 w1 _ g⟩
    | 4, ht => exact Or.inl trivial
    | 5, ht =>
      obtain ⟨a1, cell, a2, a3, a4⟩ := ht
      obtain ⟨w, w1, w2⟩ := a4 k _ hk
      have f3 : ∀ v', ck_R S ρ G N v' w → ∀ (j : Nat) (v : ck_V), (fs.set k v')[j]? = some v → ∃ w, cell.slots[j]? = some w ∧ ck_R S ρ G N v w := by
        intro v' hv' j v hj
        by_cases e : k = j
        · subst e
          rw [List.getElem?_set_self hkl] at hj
          cases hj
          exact ⟨w, w1, hv'⟩
        · rw [List.getElem?_set_ne e] at hj
          exact a4 j v hj
      rcases go w w2 with g | g
      · exact Or.inl ⟨a1, cell, a2, a3, f3 _ g⟩
      · exact Or.inr ⟨a1, cell, a2, a3, f3 _ g⟩
    | n + 6, ht => exact Or.inl trivial
  rcases key with g | g
  · exact k1 H ls vs locs ⟨ρ, G, N, lv, h1, h2, h3, h4.upd hi (fun b hb _ => by cases ha.symm.trans hb; exact g), hF _, h6, h7⟩
  · exact k2 H ls vs locs ⟨ρ, G, N, lv, h1, h2, h3, h4.upd hi (fun b hb _ => by cases ha.symm.trans hb; exact g), hF _, h6, h7⟩
/-- a ghost for the local that was written last -/
theorem cw_tag1 {i g : Nat} {lo hi : Int} (hg : ck_ugA g (A, st, T) = false) (hr : g < 100 ∨ 200 ≤ g)
    (kk : ck_W p l e R s m args below meth c Q D AC S tab L nL ρ0 G0 N0 H0 pc ((i, .inl (lo, hi, some (g, 0))) :: A, st, T) cells slots) : ck_W p l e R s m args below meth c Q D AC S tab L nL ρ0 G0 N0 H0 pc ((i, .inl (lo, hi, none)) :: A, st, T) cells slots := by
  intro H ls vs locs h
  obtain ⟨ρ, G, N, lv, h1, h2, h3, h4, h5, h6, h7⟩ := h
  obtain ⟨w, lv', rfl, ⟨e0, ⟨x, ex, x1, x2, -⟩⟩, h2'⟩ := h2.uncons
  unfold ck_ugA at hg
  simp only [Bool.or_eq_false_iff] at hg
  obtain ⟨⟨g1, g2⟩, g3⟩ := hg
  have hρ : ∀ h, h ≠ g → (fun h => if h = g then x.toInt else ρ h) h = ρ h := fun h hne => by simp [hne]
  refine kk H ls vs locs ⟨fun h => if h = g then x.toInt else ρ h, G, N, w :: lv', h1, ck_all.cons ⟨e0, x, ex, x1, x2, fun g' c' hg' => ?_⟩ (h2'.mono fun q w hq hw => ⟨hw.1, hw.2.ghost hρ (by simpa using List.any_eq_false.mp g1 q hq)⟩), h3.mono (fun k v hk hv => hv.ghost hρ (by simpa using List.any_eq_false.mp g2 k hk)), ⟨h4.1, h4.2.1, fun j d a hj ha => ?_, h4.2.2.2⟩, h5, h6, fun h a1 a2 => ?_⟩
  · cases hg'
    show x.toInt = (if g = g then x.toInt else ρ g) + 0
    rw [if_pos rfl]
    omega
  · have hd := List.any_eq_false.mp g3 d (List.mem_of_getElem? hj)
    have := (h4.2.2.1 j d a hj ha).mapV (ρ' := fun h => if h = g then x.toInt else ρ h) (G' := G) (N' := N) id (fun _ => rfl) (fun _ => rfl) (fun k v hk hv => hv.ghost hρ (by
      have h9 : ¬ (d.2.any (ck_ug g) = true) := hd
      have h8 : d.2.any (ck_ug g) = false := by simpa using h9
      simpa using List.any_eq_false.mp h8 k hk))
    simpa using this
  · show (if h = g then x.toInt else ρ h) = ρ0 h
    rw [if_neg (by omega)]
    exact h7 h a1 a2
end CKMO
end
section
/-! ===== the checker: instructions that leave the heap alone ===== -/
def ck_lng0 (q : Int × Int) : Bool := q.1 == 0 && q.2 == 0
def ck_bin (i : Instr) (a b : ck_Q) : Option ck_V := match i with
  | .iadd => some (ck_add a b)
  | .isub => some (ck_sub a b)
  | .imul => some (ck_mul a b)
  | .iand => some (ck_and a b)
  | .ior => some (ck_orx a b)
  | .ixor => some (ck_orx a b)
  | .ishl => some (ck_shl a b)
  | .ishr => some (ck_shr a b)
  | .iushr => some (ck_ushr a b)
  | .idiv => ck_div a b
  | .irem => ck_rem a b
  | _ => none
/-- what a load or a constant pushes -/
def ck_psh (kl jl : List (Nat × Int)) (A : List (Nat × ck_V)) (i : Instr) (n : Nat) : Option ck_V := match i with
  | .iconst v => if n = 1 ∧ -1 ≤ v ∧ v ≤ 5 then some (.inl (v, v, none)) else none
  | .bipush v => if n = 2 ∧ -128 ≤ v ∧ v ≤ 127 then some (.inl (v, v, none)) else none
  | .sipush v => if n = 3 ∧ -32768 ≤ v ∧ v ≤ 32767 then some (.inl (v, v, none)) else none
  | .ldc k => if n = 2 then (match ck_lk kl k with
    | some v => if ck_iok v v then some (.inl (v, v, none)) else none
    | none => none) else none
  | .ldc2_w k => if n = 3 then (match ck_lk jl k with
    | some v => if -9223372036854775808 ≤ v ∧ v ≤ 9223372036854775807 then some (.inr (.inl (v, v))) else none
    | none => none) else none
  | .lconst v => if n = 1 then some (.inr (.inl ((v.val : Int), (v.val : Int)))) else none
  | .iload k => if n = 2 then (match ck_loc A k with
    | some (.inl q) => some (.inl q)
    | _ => none) else none
  | .iload_n k => if n = 1 then (match ck_loc A k.val with
    | some (.inl q) => some (.inl q)
    | _ => none) else none
  | .lload k => if n = 2 then (match ck_loc A k with
    | some (.inr (.inl q)) => some (.inr (.inl q))
    | _ => none) else none
  | .lload_n k => if n = 1 then (match ck_loc A k.val with
    | some (.inr (.inl q)) => some (.inr (.inl q))
    | _ => none) else none
  | .aload k => if n = 2 then (match ck_loc A k with
    | some (.inr (.inr q)) => if q.1 < 5 then some (.inr (.inr q)) else none
    | _ => none) else none
  | .aload_n k => if n = 1 then (match ck_loc A k.val with
    | some (.inr (.inr q)) => if q.1 < 5 then some (.inr (.inr q)) else none
    | _ => none) else none
  | _ => none
section CKPU
variable {p : Program} {l : Launch} {e : Env} {R : Room} {s : State} {m : MethodId} {args : Array Value} {below : List Frame} {meth : Method} {c : Code} {cells slots : Nat} {Q : State → Prop}
variable {cc : ByteArray} {pc pc2 nL nS : Nat} {D : va_G} {AC : Nat → ClassId} {S : Nat → Nat} {tab : List ck_D} {L : Heap} {ρ0 : Nat → Int} {G0 : Nat → Nat} {N0 : List Nat} {H0 : Heap}
variable {A : List (Nat × ck_V)} {st : List ck_V} {T : List ck_C} {own : String}
theorem ck_ofInt {n : Int} (h1 : -2147483648 ≤ n) (h2 : n ≤ 2147483647) : (Int32.ofInt n).toInt = n := by
  rw [Int32.toInt_ofInt]
  exact ck_bm h1 h2
theorem ck_ofInt8 {n : Int} (h1 : -128 ≤ n) (h2 : n ≤ 127) : ((Int8.ofInt n).toInt32).toInt = n := by
  rw [Int8.toInt_toInt32, Int8.toInt_ofInt]
  show n.bmod 256 = n
  rw [Int.bmod_def]
  split <;> omega
theorem ck_ofInt16 {n : Int} (h1 : -32768 ≤ n) (h2 : n ≤ 32767) : ((Int16.ofInt n).toInt32).toInt = n := by
  rw [Int16.toInt_toInt32, Int16.toInt_ofInt]
  show n.bmod 65536 = n
  rw [Int.bmod_def]
  split <;> omega
theorem ck_ofInt64 {n : Int} (h1 : -9223372036854775808 ≤ n) (h2 : n ≤ 9223372036854775807) : (Int64.ofInt n).toInt = n := by
  rw [Int64.toInt_ofInt]
  show n.bmod 18446744073709551616 = n
  rw [Int.bmod_def]
  split <;> omega
theorem cw_psh (hexec : p.tables.exec = Jvm.exec) (hb : c.code = cc) (hown : s.vm.findClass own = some m.cls) {kl jl : List (Nat × Int)} (hkl : ∀ q ∈ kl, ∃ v : Int32, v.toInt = q.2 ∧ (Cond.constant own q.1 v).before args s = true) (hjl : ∀ q ∈ jl, ∃ v : Int64, v.toInt = q.2 ∧ (Cond.constantLong own q.1 v).before args s = true)
    {i : Instr} {n : Nat} {v : ck_V} (hd : decode cc pc = .ok (i, n)) (h : ck_psh kl jl A i n = some v)
    (k : ck_W p l e R s m args below meth c Q D AC S tab L nL ρ0 G0 N0 H0 (pc + n) (A, v :: st, T) cells slots) : ck_W p l e R s m args below meth c Q D AC S tab L nL ρ0 G0 N0 H0 pc (A, st, T) cells slots := by
  unfold ck_psh at h
  split at h
  · split at h
    · rename_i v' hc
      obtain ⟨rfl, c1, c2⟩ := hc
      cases h
      exact cw_pushI _ _ (ck_ofInt (by omega) (by omega)) (fun w => lv_iconst hexec hb hd rfl w) k
    · cases h
  · split at h
    · rename_i v' hc
      obtain ⟨rfl, c1, c2⟩ := hc
      cases h
      exact cw_pushI _ _ (ck_ofInt8 (by omega) (by omega)) (fun w => lv_bipush hexec hb hd rfl w) k
    · cases h
  · split at h
    · rename_i v' hc
      obtain ⟨rfl, c1, c2⟩ := hc
      cases h
      exact cw_pushI _ _ (ck_ofInt16 (by omega) (by omega)) (fun w => lv_sipush hexec hb hd rfl w) k
    · cases h
  · split at h
    · rename_i k' hn
      subst hn
      split at h
      · rename_i x hx
        split at h
        · cases h
          obtain ⟨u, u1, u2⟩ := hkl _ (ck_lk_mem hx)
          exact cw_pushI _ u u1 (fun w => lv_ldc hexec hb hown u2 hd w) k
        · cases h
      · cases h
    · cases h
  · split at h
    · rename_i k' hn
      subst hn
      split at h
      · rename_i x hx
        split at h
        · cases h
          obtain ⟨u, u1, u2⟩ := hjl _ (ck_lk_mem hx)
          exact cw_pushJ _ u u1 (fun w => lv_ldc2 hexec hb hown u2 hd w) k
        · cases h
      · cases h
    · cases h
  · split at h
    · rename_i k' hn
      subst hn
      cases h
      refine cw_pushJ _ _ ?_ (fun w => lv_lconst hexec hb hd rfl w) k
      have := k'.isLt
      match k' with
      | 0 => rfl
      | 1 => rfl
    · cases h
  · split at h
    · rename_i k' hn
      subst hn
      split at h
      · rename_i q hq
        cases h
        refine cw_load hq (fun {H} {ls} {rest} {locs} {ρ} {G} {N} {v} hl hv w => ?_) k
        obtain ⟨x, rfl, -⟩ := hv
        exact lv_iload hexec hb hd hl w
      · cases h
    · cases h
  · split at h
    · rename_i k' hn
      subst hn
      split at h
      · rename_i q hq
        cases h
        refine cw_load hq (fun {H} {ls} {rest} {locs} {ρ} {G} {N} {v} hl hv w => ?_) k
        obtain ⟨x, rfl, -⟩ := hv
        exact lv_iload_n hexec hb hd rfl hl w
      · cases h
    · cases h
  · split at h
    · rename_i k' hn
      subst hn
      split at h
      · rename_i q hq
        cases h
        refine cw_load hq (fun {H} {ls} {rest} {locs} {ρ} {G} {N} {v} hl hv w => ?_) k
        obtain ⟨x, rfl, -⟩ := hv
        exact lv_lload hexec hb hd hl w
      · cases h
    · cases h
  · split at h
    · rename_i k' hn
      subst hn
      split at h
      · rename_i q hq
        cases h
        refine cw_load hq (fun {H} {ls} {rest} {locs} {ρ} {G} {N} {v} hl hv w => ?_) k
        obtain ⟨x, rfl, -⟩ := hv
        exact lv_lload_n hexec hb hd rfl hl w
      · cases h
    · cases h
  · split at h
    · rename_i k' hn
      subst hn
      split at h
      · rename_i q hq
        split at h
        · rename_i h5
          cases h
          refine cw_load hq (fun {H} {ls} {rest} {locs} {ρ} {G} {N} {v} hl hv w => ?_) k
          obtain ⟨q1, q2⟩ := q
          rcases ck_isRef hv h5 with rfl | ⟨a, rfl⟩
          · exact lv_aloadN hexec hb hd hl w
          · exact lv_aload hexec hb hd hl w
        · cases h
      · cases h
    · cases h
  · split at h
    · rename_i k' hn
      subst hn
      split at h
      · rename_i q hq
        split at h
        · rename_i h5
          cases h
          refine cw_load hq (fun {H} {ls} {rest} {locs} {ρ} {G} {N} {v} hl hv w => ?_) k
          obtain ⟨q1, q2⟩ := q
          rcases ck_isRef hv h5 with rfl | ⟨a, rfl⟩
          · exact lv_aload_nN hexec hb hd rfl hl w
          · exact lv_aload_n hexec hb hd rfl hl w
        · cases h
      · cases h
    · cases h
  · cases h
theorem cw_bin (hexec : p.tables.exec = Jvm.exec) (hb : c.code = cc) {i : Instr} {a b : ck_Q} {r : ck_V} (hd : decode cc pc = .ok (i, 1)) (h : ck_bin i a b = some r)
    (k : ck_W p l e R s m args below meth c Q D AC S tab L nL ρ0 G0 N0 H0 (pc + 1) (A, r :: st, T) cells slots) : ck_W p l e R s m args below meth c Q D AC S tab L nL ρ0 G0 N0 H0 pc (A, .inl b :: .inl a :: st, T) cells slots := by
  unfold ck_bin at h
  split at h
  · cases h; exact cw_op2 (fun ρ x y hx hy => ck_add_ok hx hy) (fun _ _ w => lv_iadd hexec hb hd w) k
  · cases h; exact cw_op2 (fun ρ x y hx hy => ck_sub_ok hx hy) (fun _ _ w => lv_isub hexec hb hd w) k
  · cases h; exact cw_op2 (fun ρ x y hx hy => ck_mul_ok hx hy) (fun _ _ w => lv_imul hexec hb hd w) k
  · cases h; exact cw_op2 (fun ρ x y hx hy => ck_and_ok hx hy) (fun _ _ w => lv_iand hexec hb hd w) k
  · cases h; exact cw_op2 (fun ρ x y hx hy => ck_or_ok hx hy) (fun _ _ w => lv_ior hexec hb hd w) k
  · cases h; exact cw_op2 (fun ρ x y hx hy => ck_xor_ok hx hy) (fun _ _ w => lv_ixor hexec hb hd w) k
  · cases h; exact cw_op2 (fun ρ x y hx hy => ck_shl_ok hx hy) (fun _ _ w => lv_ishl hexec hb hd w) k
  · cases h; exact cw_op2 (fun ρ x y hx hy => ck_shr_ok hx hy) (fun _ _ w => lv_ishr hexec hb hd w) k
  · cases h; exact cw_op2 (fun ρ x y hx hy => ck_ushr_ok hx hy) (fun _ _ w => lv_iushr hexec hb hd rfl w) k
  · exact cw_op2 (f := fun x y => x / y) (fun ρ x y hx hy => (ck_div_ok hx hy h).2) (fun hx hy w => lv_idiv hexec hb hd (ck_div_ok hx hy h).1 w) k
  · exact cw_op2 (f := fun x y => x - x / y * y) (fun ρ x y hx hy => (ck_rem_ok hx hy h).2) (fun hx hy w => lv_irem hexec hb hd (ck_rem_ok hx hy h).1 w) k
  · cases h
/-- two longs -/
theorem cw_J2 {i : Instr} {a b : Int × Int} {r : Int × Int} {f : Int64 → Int64 → Int64} (hf : ∀ x y : Int64, a.1 ≤ x.toInt → x.toInt ≤ a.2 → b.1 ≤ y.toInt → y.toInt ≤ b.2 → r.1 ≤ (f x y).toInt ∧ (f x y).toInt ≤ r.2)
    (row : ∀ {H : Heap} {ls : Array Slot} {rest : List Value} {locs : List Loc} {x y : Int64}, W p l e R s m args below meth c H locs cells slots Q (F0 m pc2 ls (.long (f x y) :: rest)) → W p l e R s m args below meth c H locs cells slots Q (F0 m pc ls (.long y :: .long x :: rest)))
    (k : ck_W p l e R s m args below meth c Q D AC S tab L nL ρ0 G0 N0 H0 pc2 (A, .inr (.inl r) :: st, T) cells slots) : ck_W p l e R s m args below meth c Q D AC S tab L nL ρ0 G0 N0 H0 pc (A, .inr (.inl b) :: .inr (.inl a) :: st, T) cells slots := by
  intro H ls vs locs h
  obtain ⟨ρ, G, N, lv, h1, h2, h3, h4, h5, h6, h7⟩ := h
  obtain ⟨_, vs', rfl, ⟨y, rfl, y1, y2⟩, h3'⟩ := h3.uncons
  obtain ⟨_, vs'', rfl, ⟨x, rfl, x1, x2⟩, h3''⟩ := h3'.uncons
  exact row (k H ls _ locs ⟨ρ, G, N, lv, h1, h2, ck_all.cons ⟨_, rfl, (hf x y x1 x2 y1 y2).1, (hf x y x1 x2 y1 y2).2⟩ h3'', h4, h5, h6, h7⟩)
/-- a long and how far it is shifted -/
theorem cw_JI {a : Int × Int} {b : ck_Q} {r : Int × Int} {f : Int64 → Int32 → Int64} (hf : ∀ (x : Int64) (y : Int32), a.1 ≤ x.toInt → x.toInt ≤ a.2 → r.1 ≤ (f x y).toInt ∧ (f x y).toInt ≤ r.2)
    (row : ∀ {H : Heap} {ls : Array Slot} {rest : List Value} {locs : List Loc} {x : Int64} {y : Int32}, W p l e R s m args below meth c H locs cells slots Q (F0 m pc2 ls (.long (f x y) :: rest)) → W p l e R s m args below meth c H locs cells slots Q (F0 m pc ls (.int y :: .long x :: rest)))
    (k : ck_W p l e R s m args below meth c Q D AC S tab L nL ρ0 G0 N0 H0 pc2 (A, .inr (.inl r) :: st, T) cells slots) : ck_W p l e R s m args below meth c Q D AC S tab L nL ρ0 G0 N0 H0 pc (A, .inl b :: .inr (.inl a) :: st, T) cells slots := by
  intro H ls vs locs h
  obtain ⟨ρ, G, N, lv, h1, h2, h3, h4, h5, h6, h7⟩ := h
  obtain ⟨_, vs', rfl, ⟨y, rfl, -⟩, h3'⟩ := h3.uncons
  obtain ⟨_, vs'', rfl, ⟨x, rfl, x1, x2⟩, h3''⟩ := h3'.uncons
  exact row (k H ls _ locs ⟨ρ, G, N, lv, h1, h2, ck_all.cons ⟨_, rfl, (hf x y x1 x2).1, (hf x y x1 x2).2⟩ h3'', h4, h5, h6, h7⟩)
def ck_lf : Int × Int := (-9223372036854775808, 9223372036854775807)
theorem ck_lf_ok (x : Int64) : ck_lf.1 ≤ x.toInt ∧ x.toInt ≤ ck_lf.2 := ck_i64 x
theorem ck_z64 {x : Int64} (h1 : (0 : Int) ≤ x.toInt) (h2 : x.toInt ≤ 0) : x = 0 := Int64.toInt_inj.mp (by show x.toInt = 0; omega)
def ck_jb (i : Instr) (a b : Int × Int) : Option (Int × Int) := match i with
  | .ladd => some ck_lf
  | .lsub => some ck_lf
  | .lmul => some ck_lf
  | .land => some ck_lf
  | .lxor => some ck_lf
  | .lor => if ck_lng0 a && ck_lng0 b then some (0, 0) else some ck_lf
  | _ => none
theorem cw_jb (hexec : p.tables.exec = Jvm.exec) (hb : c.code = cc) {i : Instr} {a b r : Int × Int} (hd : decode cc pc = .ok (i, 1)) (h : ck_jb i a b = some r)
    (k : ck_W p l e R s m args below meth c Q D AC S tab L nL ρ0 G0 N0 H0 (pc + 1) (A, .inr (.inl r) :: st, T) cells slots) : ck_W p l e R s m args below meth c Q D AC S tab L nL ρ0 G0 N0 H0 pc (A, .inr (.inl b) :: .inr (.inl a) :: st, T) cells slots := by
  unfold ck_jb at h
  split at h
  · cases h; exact cw_J2 (i := .ladd) (fun x y _ _ _ _ => ck_lf_ok _) (fun w => lv_ladd hexec hb hd w) k
  · cases h; exact cw_J2 (i := .ladd) (fun x y _ _ _ _ => ck_lf_ok _) (fun w => lv_lsub hexec hb hd w) k
  · cases h; exact cw_J2 (i := .ladd) (fun x y _ _ _ _ => ck_lf_ok _) (fun w => lv_lmul hexec hb hd w) k
  · cases h; exact cw_J2 (i := .ladd) (fun x y _ _ _ _ => ck_lf_ok _) (fun w => lv_land hexec hb hd w) k
  · cases h; exact cw_J2 (i := .ladd) (fun x y _ _ _ _ => ck_lf_ok _) (fun w => lv_lxor hexec hb hd w) k
  · split at h
    · rename_i hz
      cases h
      simp only [ck_lng0, Bool.and_eq_true, beq_iff_eq] at hz
      obtain ⟨⟨a1, a2⟩, b1, b2⟩ := hz
      refine cw_J2 (i := .ladd) (fun x y x1 x2 y1 y2 => ?_) (fun w => lv_lor hexec hb hd w) k
      rw [a1] at x1
      rw [a2] at x2
      rw [b1] at y1
      rw [b2] at y2
      rw [ck_z64 x1 x2, ck_z64 y1 y2]
      decide
    · cases h; exact cw_J2 (i := .ladd) (fun x y _ _ _ _ => ck_lf_ok _) (fun w => lv_lor hexec hb hd w) k
  · cases h
def ck_js (i : Instr) (a : Int × Int) : Option (Int × Int) := match i with
  | .lshl => if ck_lng0 a then some (0, 0) else some ck_lf
  | .lshr => some ck_lf
  | .lushr => some ck_lf
  | _ => none
theorem ck_shl0 (y : Int64) : (0 : Int64) <<< y = 0 := by
  apply Int64.toBitVec_inj.mp
  simp
theorem cw_js (hexec : p.tables.exec = Jvm.exec) (hb : c.code = cc) {i : Instr} {a r : Int × Int} {b : ck_Q} (hd : decode cc pc = .ok (i, 1)) (h : ck_js i a = some r)
    (k : ck_W p l e R s m args below meth c Q D AC S tab L nL ρ0 G0 N0 H0 (pc + 1) (A, .inr (.inl r) :: st, T) cells slots) : ck_W p l e R s m args below meth c Q D AC S tab L nL ρ0 G0 N0 H0 pc (A, .inl b :: .inr (.inl a) :: st, T) cells slots := by
  unfold ck_js at h
  split at h
  · split at h
    · rename_i hz
      cases h
      simp only [ck_lng0, Bool.and_eq_true, beq_iff_eq] at hz
      obtain ⟨a1, a2⟩ := hz
      refine cw_JI (f := fun x y => x <<< (y.toInt64 &&& 63)) (fun x y x1 x2 => ?_) (fun w => lv_lshl hexec hb hd rfl w) k
      rw [a1] at x1
      rw [a2] at x2
      rw [ck_z64 x1 x2]
      dsimp only
      rw [ck_shl0]
      decide
    · cases h; exact cw_JI (f := fun x y => x <<< (y.toInt64 &&& 63)) (fun x y _ _ => ck_lf_ok _) (fun w => lv_lshl hexec hb hd rfl w) k
  · cases h; exact cw_JI (f := fun x y => x >>> (y.toInt64 &&& 63)) (fun x y _ _ => ck_lf_ok _) (fun w => lv_lshr hexec hb hd rfl w) k
  · cases h; exact cw_JI (f := fun x y => (x.toUInt64 >>> (y.toInt64.toUInt64 &&& Int64.toUInt64 63)).toInt64) (fun x y _ _ => ck_lf_ok _) (fun w => lv_lushr hexec hb hd rfl w) k
  · cases h
def ck_lcmp (a b : Int × Int) : ck_V := if a.1 == a.2 && b.1 == b.2 && a.1 == b.1 then .inl (0, 0, none) else .inl (-1, 1, none)
theorem cw_lcmp (hexec : p.tables.exec = Jvm.exec) (hb : c.code = cc) {a b : Int × Int} (hd : decode cc pc = .ok (.lcmp, 1))
    (k : ck_W p l e R s m args below meth c Q D AC S tab L nL ρ0 G0 N0 H0 (pc + 1) (A, ck_lcmp a b :: st, T) cells slots) : ck_W p l e R s m args below meth c Q D AC S tab L nL ρ0 G0 N0 H0 pc (A, .inr (.inl b) :: .inr (.inl a) :: st, T) cells slots := by
  intro H ls vs locs h
  obtain ⟨ρ, G, N, lv, h1, h2, h3, h4, h5, h6, h7⟩ := h
  obtain ⟨_, vs', rfl, ⟨y, rfl, y1, y2⟩, h3'⟩ := h3.uncons
  obtain ⟨_, vs'', rfl, ⟨x, rfl, x1, x2⟩, h3''⟩ := h3'.uncons
  refine W.lcmp hexec hb hd (k H ls _ locs ⟨ρ, G, N, lv, h1, h2, ck_all.cons ?_ h3'', h4, h5, h6, h7⟩)
  unfold ck_lcmp
  split
  · rename_i hz
    simp only [Bool.and_eq_true, beq_iff_eq] at hz
    obtain ⟨⟨e1, e2⟩, e3⟩ := hz
    have exy : x = y := Int64.toInt_inj.mp (by omega)
    subst exy
    refine ⟨_, rfl, ?_, ?_, fun g c q => by cases q⟩ <;> simp [lg_cmp]
  · refine ⟨_, rfl, ?_, ?_, fun g c q => by cases q⟩
    · unfold lg_cmp; split <;> (try split) <;> decide
    · unfold lg_cmp; split <;> (try split) <;> decide
/-- the stack turned about, conversions -/
def ck_cat1 (v : ck_V) : Bool := ck_kn v && !ck_lng v
def ck_stk (i : Instr) (st : List ck_V) : Option (List ck_V) := match i, st with
  | .dup, v :: r => if ck_cat1 v then some (v :: v :: r) else none
  | .pop, v :: r => if ck_cat1 v then some r else none
  | .dup2, v :: r => if ck_lng v then some (v :: v :: r) else (match r with
    | w :: r' => if ck_cat1 v && ck_cat1 w then some (v :: w :: v :: w :: r') else none
    | [] => none)
  | .i2l, .inl q :: r => some (.inr (.inl (q.1, q.2.1)) :: r)
  | .l2i, .inr (.inl _) :: r => some (ck_full :: r)
  | _, _ => none
theorem ck_cat1_ok {ρ : Nat → Int} {G : Nat → Nat} {N : List Nat} {k : ck_V} {v : Value} (h : ck_R S ρ G N k v) (hk : ck_cat1 k = true) : v.category = 1 := by
  unfold ck_cat1 at hk
  simp only [Bool.and_eq_true, Bool.not_eq_true'] at hk
  have := ck_cat h hk.1
  rw [hk.2] at this
  rcases lv_cat v with e | e
  · exact e
  · rw [e] at this; cases this
theorem ck_cat2_ok {ρ : Nat → Int} {G : Nat → Nat} {N : List Nat} {k : ck_V} {v : Value} (h : ck_R S ρ G N k v) (hk : ck_lng k = true) : v.category = 2 := by
  match k, h, hk with
  | .inr (.inl q), ⟨x, hx, _⟩, _ => rw [hx]; rfl
theorem cw_stks (hexec : p.tables.exec = Jvm.exec) (hb : c.code = cc) {i : Instr} {st' : List ck_V} (hd : decode cc pc = .ok (i, 1)) (h : ck_stk i st = some st')
    (k : ck_W p l e R s m args below meth c Q D AC S tab L nL ρ0 G0 N0 H0 (pc + 1) (A, st', T) cells slots) : ck_W p l e R s m args below meth c Q D AC S tab L nL ρ0 G0 N0 H0 pc (A, st, T) cells slots := by
  intro H ls vs locs hh
  obtain ⟨ρ, G, N, lv, h1, h2, h3, h4, h5, h6, h7⟩ := hh
  unfold ck_stk at h
  split at h
  · split at h
    · rename_i hc
      cases h
      obtain ⟨v, vs', rfl, g1, g2⟩ := h3.uncons
      exact lv_dup hexec hb hd (ck_cat1_ok g1 hc) (k H ls _ locs ⟨ρ, G, N, lv, h1, h2, ck_all.cons g1 (ck_all.cons g1 g2), h4, h5, h6, h7⟩)
    · cases h
  · split at h
    · rename_i hc
      cases h
      obtain ⟨v, vs', rfl, g1, g2⟩ := h3.uncons
      exact lv_pop hexec hb hd (ck_cat1_ok g1 hc) (k H ls _ locs ⟨ρ, G, N, lv, h1, h2, g2, h4, h5, h6, h7⟩)
    · cases h
  · obtain ⟨v, vs', rfl, g1, g2⟩ := h3.uncons
    split at h
    · rename_i hc
      cases h
      exact lv_dup2_2 hexec hb hd (ck_cat2_ok g1 hc) (k H ls _ locs ⟨ρ, G, N, lv, h1, h2, ck_all.cons g1 (ck_all.cons g1 g2), h4, h5, h6, h7⟩)
    · split at h
      · split at h
        · rename_i hc
          cases h
          simp only [Bool.and_eq_true] at hc
          obtain ⟨w, vs'', rfl, f1, f2⟩ := g2.uncons
          exact lv_dup2_11 hexec hb hd (ck_cat1_ok g1 hc.1) (ck_cat1_ok f1 hc.2) (k H ls _ locs ⟨ρ, G, N, lv, h1, h2, ck_all.cons g1 (ck_all.cons f1 (ck_all.cons g1 (ck_all.cons f1 f2))), h4, h5, h6, h7⟩)
        · cases h
      · cases h
  · cases h
    obtain ⟨v, vs', rfl, ⟨x, rfl, x1, x2, -⟩, g2⟩ := h3.uncons
    refine lv_i2l hexec hb hd rfl (k H ls _ locs ⟨ρ, G, N, lv, h1, h2, ck_all.cons ⟨_, rfl, ?_, ?_⟩ g2, h4, h5, h6, h7⟩)
    · rw [Int32.toInt_toInt64]; exact x1
    · rw [Int32.toInt_toInt64]; exact x2
  · cases h
    obtain ⟨v, vs', rfl, ⟨x, rfl, x1, x2⟩, g2⟩ := h3.uncons
    refine lv_l2i hexec hb hd rfl (k H ls _ locs ⟨ρ, G, N, lv, h1, h2, ck_all.cons ⟨_, rfl, ?_⟩ g2, h4, h5, h6, h7⟩)
    exact ⟨(ck_i32 _).1, (ck_i32 _).2, fun g c h => by cases h⟩
  · cases h
end CKPU
end
section
/-! ===== the checker: locals written, fields, arrays ===== -/
def ck_sto (nL : Nat) (i : Instr) (n : Nat) (A : List (Nat × ck_V)) (v : ck_V) : Option (List (Nat × ck_V)) := if A.all (fun q => ck_kn q.2) then (match i, v with
  | .istore k, .inl q => if n = 2 ∧ k < nL then some (ck_s1 A k (.inl q)) else none
  | .istore_n k, .inl q => if n = 1 ∧ k.val < nL then some (ck_s1 A k.val (.inl q)) else none
  | .astore k, .inr (.inr q) => if n = 2 ∧ k < nL ∧ q.1 < 5 then some (ck_s1 A k (.inr (.inr q))) else none
  | .astore_n k, .inr (.inr q) => if n = 1 ∧ k.val < nL ∧ q.1 < 5 then some (ck_s1 A k.val (.inr (.inr q))) else none
  | .lstore k, .inr (.inl q) => if n = 2 ∧ k + 1 < nL then some (ck_s2 A k (.inr (.inl q))) else none
  | .lstore_n k, .inr (.inl q) => if n = 1 ∧ k.val + 1 < nL then some (ck_s2 A k.val (.inr (.inl q))) else none
  | _, _ => none) else none
def ck_tgS (B : ck_A) : ck_A := match B with
  | ((i, .inl (lo, hi, none)) :: A, st, T) => if lo < hi ∧ ck_ugA (300 + i) (A, st, T) = false then ((i, .inl (lo, hi, some (300 + i, 0))) :: A, st, T) else ((i, .inl (lo, hi, none)) :: A, st, T)
  | B => B
def ck_gf (tab : List ck_D) (fl : List (Nat × Nat × Nat)) (T : List ck_C) (idx : Nat) (v : ck_V) : Option ck_V := match ck_lk fl idx, v with
  | some (ci, k), .inr (.inr (1, i)) => (match T[i]? with
    | some ((0, cj), fs) => if cj = ci then fs[k]? else none
    | some ((3, τ), fs) => (match tab[τ]? with
      | some (.inr (cj, _)) => if cj = ci then fs[k]? else none
      | _ => none)
    | _ => none)
  | some (ci, k), .inr (.inr (2, τ)) => (match tab[τ]? with
    | some (.inr (cj, ks)) => if cj = ci then (match ks[k]? with
      | some w => if ck_plain w = true then some w else none
      | none => none) else none
    | _ => none)
  | _, _ => none
def ck_fin (own nm : String) (ci k : Nat) : Bool := match ck_cl[ci]? with
  | some (C, TT, _) => !(TT k).2.2.2 || (own == C && nm == "<init>")
  | none => false
def ck_pf (tab : List ck_D) (fl : List (Nat × Nat × Nat)) (own nm : String) (T : List ck_C) (idx : Nat) (v r : ck_V) : Option (List ck_C) := match ck_lk fl idx, r with
  | some (ci, k), .inr (.inr (1, i)) => if ck_fin own nm ci k && ck_fit (ck_yy ci k) v then (match T[i]? with
    | some ((0, cj), fs) => if cj = ci then some (T.set i ((0, ci), fs.set k v)) else none
    | some ((3, τ), fs) => (match tab[τ]? with
      | some (.inr (cj, ks)) => (match ks[k]? with
        | some kd => if cj = ci ∧ ck_le v kd = true ∧ ck_plain kd = true ∧ (T.zipIdx).all (fun q => q.2 == i || !(q.1.1.1 == 3 && q.1.1.2 == τ)) = true then some (T.set i ((3, τ), fs.set k v)) else none
        | none => none)
      | _ => none)
    | _ => none) else none
  | some (ci, k), .inr (.inr (2, τ)) => if ck_fin own nm ci k && ck_fit (ck_yy ci k) v then (match tab[τ]? with
    | some (.inr (cj, ks)) => (match ks[k]? with
      | some kd => if cj = ci ∧ ck_le v kd = true ∧ ck_plain kd = true ∧ T.all (fun c => !(c.1.1 == 3 && c.1.2 == τ)) = true then some T else none
      | none => none)
    | _ => none) else none
  | _, _ => none
section CKHI
variable {p : Program} {l : Launch} {e : Env} {R : Room} {s : State} {m : MethodId} {args : Array Value} {below : List Frame} {meth : Method} {c : Code} {cells slots : Nat} {Q : State → Prop}
variable {cc : ByteArray} {pc pc2 nL nS : Nat} {D : va_G} {AC : Nat → ClassId} {S : Nat → Nat} {tab : List ck_D} {L : Heap} {ρ0 : Nat → Int} {G0 : Nat → Nat} {N0 : List Nat} {H0 : Heap}
variable {A : List (Nat × ck_V)} {st : List ck_V} {T : List ck_C} {own : String}
theorem cw_tgS {B : ck_A} (kk : ck_W p l e R s m args below meth c Q D AC S tab L nL ρ0 G0 N0 H0 pc (ck_tgS B) cells slots) : ck_W p l e R s m args below meth c Q D AC S tab L nL ρ0 G0 N0 H0 pc B cells slots := by
  unfold ck_tgS at kk
  split at kk
  · split at kk
    · rename_i h
      exact cw_tag1 h.2 (Or.inr (by omega)) kk
    · exact kk
  · exact kk
theorem cw_sto (hexec : p.tables.exec = Jvm.exec) (hb : c.code = cc) {i : Instr} {n : Nat} {v : ck_V} {A' : List (Nat × ck_V)} (hd : decode cc pc = .ok (i, n)) (h : ck_sto nL i n A v = some A')
    (k : ck_W p l e R s m args below meth c Q D AC S tab L nL ρ0 G0 N0 H0 (pc + n) (A', st, T) cells slots) : ck_W p l e R s m args below meth c Q D AC S tab L nL ρ0 G0 N0 H0 pc (A, v :: st, T) cells slots := by
  unfold ck_sto at h
  split at h
  · rename_i hkn
    split at h
    · split at h
      · rename_i hc
        obtain ⟨rfl, c1⟩ := hc
        cases h
        refine cw_store1 rfl hkn c1 (fun hv hl w => ?_) k
        obtain ⟨x, rfl, -⟩ := hv
        exact lv_istore hexec hb hd hl c1 rfl w
      · cases h
    · split at h
      · rename_i hc
        obtain ⟨rfl, c1⟩ := hc
        cases h
        refine cw_store1 rfl hkn c1 (fun hv hl w => ?_) k
        obtain ⟨x, rfl, -⟩ := hv
        exact lv_istore_n hexec hb hd rfl hl c1 rfl w
      · cases h
    · split at h
      · rename_i q hc
        obtain ⟨rfl, c1, c2⟩ := hc
        cases h
        refine cw_store1 rfl hkn c1 (fun hv hl w => ?_) k
        obtain ⟨q1, q2⟩ := q
        rcases ck_isRef hv c2 with rfl | ⟨a, rfl⟩
        · exact lv_astoreN hexec hb hd hl c1 rfl w
        · exact lv_astore hexec hb hd hl c1 rfl w
      · cases h
    · split at h
      · rename_i q hc
        obtain ⟨rfl, c1, c2⟩ := hc
        cases h
        refine cw_store1 rfl hkn c1 (fun hv hl w => ?_) k
        obtain ⟨q1, q2⟩ := q
        rcases ck_isRef hv c2 with rfl | ⟨a, rfl⟩
        · exact lv_astore_nN hexec hb hd rfl hl c1 rfl w
        · exact lv_astore_n hexec hb hd rfl hl c1 rfl w
      · cases h
    · split at h
      · rename_i hc
        obtain ⟨rfl, c1⟩ := hc
        cases h
        refine cw_store2 hkn c1 (fun hv hl w => ?_) k
        obtain ⟨x, rfl, -⟩ := hv
        exact lv_lstore hexec hb hd hl c1 rfl w
      · cases h
    · split at h
      · rename_i hc
        obtain ⟨rfl, c1⟩ := hc
        cases h
        refine cw_store2 hkn c1 (fun hv hl w => ?_) k
        obtain ⟨x, rfl, -⟩ := hv
        exact lv_lstore_n hexec hb hd rfl hl c1 rfl w
      · cases h
    · cases h
  · cases h
theorem cw_gf (hexec : p.tables.exec = Jvm.exec) (hb : c.code = cc) (hown : s.vm.findClass own = some m.cls) (hK : va_K D ck_cl (ck_tys AC) s) (hts : ∀ w ∈ ck_tb, w.before args s = true) {fl : List (Nat × Nat × Nat)} (hfl : ∀ q ∈ fl, ck_lnk own q.1 q.2.1 q.2.2) {idx : Nat} {v r : ck_V} (hd : decode cc pc = .ok (.getfield idx, 3)) (h : ck_gf tab fl T idx r = some v)
    (kk : ck_W p l e R s m args below meth c Q D AC S tab L nL ρ0 G0 N0 H0 (pc + 3) (A, v :: st, T) cells slots) : ck_W p l e R s m args below meth c Q D AC S tab L nL ρ0 G0 N0 H0 pc (A, r :: st, T) cells slots := by
  unfold ck_gf at h
  split at h
  · rename_i ci k i hl
    have hlk := hfl _ (ck_lk_mem hl)
    split at h
    · rename_i cj fs hi
      split at h
      · rename_i e
        subst e
        exact cw_getNm hexec hb hown hK hts (Or.inl rfl) hlk hi h hd kk
      · cases h
    · rename_i τ fs hi
      split at h
      · rename_i cj ks hτ
        split at h
        · rename_i e
          subst e
          exact cw_getNm hexec hb hown hK hts (Or.inr ⟨τ, ks, rfl, hτ⟩) hlk hi h hd kk
        · cases h
      · cases h
    · cases h
  · rename_i ci k τ hl
    have hlk := hfl _ (ck_lk_mem hl)
    split at h
    · rename_i cj ks hτ
      split at h
      · rename_i e
        subst e
        split at h
        · rename_i w hw
          split at h
          · rename_i hp
            cases h
            exact cw_getTy hexec hb hown hK hts hτ hlk hw hp hd kk
          · cases h
        · cases h
      · cases h
    · cases h
  · cases h
theorem ck_fin_ok {nm : String} {ci k : Nat} (h : ck_fin own nm ci k = true) (hnm : meth.name = nm) : ∀ C T n, ck_cl[ci]? = some (C, T, n) → (T k).2.2.2 = false ∨ (own = C ∧ meth.name = "<init>") := by
  intro C TT n hc
  unfold ck_fin at h
  rw [hc] at h
  simp only [Bool.or_eq_true, Bool.not_eq_true', Bool.and_eq_true, beq_iff_eq] at h
  rcases h with h | ⟨h1, h2⟩
  · exact Or.inl h
  · exact Or.inr ⟨h1, hnm.trans h2⟩
theorem cw_pf (hexec : p.tables.exec = Jvm.exec) (hb : c.code = cc) (hown : s.vm.findClass own = some m.cls) (hK : va_K D ck_cl (ck_tys AC) s) (hts : ∀ w ∈ ck_tb, w.before args s = true) {nm : String} (hnm : meth.name = nm) {fl : List (Nat × Nat × Nat)} (hfl : ∀ q ∈ fl, ck_lnk own q.1 q.2.1 q.2.2) {idx : Nat} {v r : ck_V} {T' : List ck_C} (hd : decode cc pc = .ok (.putfield idx, 3)) (h : ck_pf tab fl own nm T idx v r = some T')
    (kk : ck_W p l e R s m args below meth c Q D AC S tab L nL ρ0 G0 N0 H0 (pc + 3) (A, st, T') cells slots) : ck_W p l e R s m args below meth c Q D AC S tab L nL ρ0 G0 N0 H0 pc (A, v :: r :: st, T) cells slots := by
  unfold ck_pf at h
  split at h
  · rename_i ci k i hl
    have hlk := hfl _ (ck_lk_mem hl)
    split at h
    · rename_i hff
      simp only [Bool.and_eq_true] at hff
      obtain ⟨hfin, hfit⟩ := hff
      split at h
      · rename_i cj fs hi
        split at h
        · rename_i e
          subst e
          cases h
          exact cw_putOwn hexec hb hown hK hts hlk hi (ck_fin_ok hfin hnm) hfit hd kk
        · cases h
      · rename_i τ fs hi
        split at h
        · rename_i cj ks hτ
          split at h
          · rename_i kd hkd
            split at h
            · rename_i hc
              obtain ⟨rfl, c1, c2, c3⟩ := hc
              cases h
              refine cw_putFoc hexec hb hown hK hts hτ hlk hi hkd c1 c2 (ck_fin_ok hfin hnm) hfit (fun j d hj hd' h3 => ?_) hd kk
              have := List.all_eq_true.mp c3 (d, j) (List.mem_zipIdx_iff_getElem?.mpr hd')
              simp only [Bool.or_eq_true, beq_iff_eq, Bool.not_eq_true', Bool.and_eq_false_iff] at this
              rcases this with e | e | e
              · exact absurd e hj
              · simp [h3] at e
              · simpa using e
            · cases h
          · cases h
        · cases h
      · cases h
    · cases h
  · rename_i ci k τ hl
    have hlk := hfl _ (ck_lk_mem hl)
    split at h
    · rename_i hff
      simp only [Bool.and_eq_true] at hff
      obtain ⟨hfin, hfit⟩ := hff
      split at h
      · rename_i cj ks hτ
        split at h
        · rename_i kd hkd
          split at h
          · rename_i hc
            obtain ⟨rfl, c1, c2, c3⟩ := hc
            cases h
            refine cw_putTy hexec hb hown hK hts hτ hlk hkd c1 c2 (ck_fin_ok hfin hnm) hfit (fun j d hd' h3 => ?_) hd kk
            have := List.all_eq_true.mp c3 d (List.mem_of_getElem? hd')
            simp only [Bool.not_eq_true', Bool.and_eq_false_iff] at this
            rcases this with e | e
            · simp [h3] at e
            · simpa using e
          · cases h
        · cases h
      · cases h
    · cases h
  · cases h
end CKHI
end
section
/-! ===== the checker: arrays, new cells ===== -/
def ck_isld (i : Instr) (ac : Nat) : Bool := match i with
  | .iaload => ac == 0
  | .laload => ac == 1
  | .baload => ac == 2
  | .aaload => decide (3 ≤ ac)
  | _ => false
theorem ck_isld_ok {i : Instr} {ac : Nat} (h : ck_isld i ac = true) : i = ck_ldi ac := by
  unfold ck_isld at h
  unfold ck_ldi
  split at h
  · simp at h; subst h; rfl
  · simp at h; subst h; rfl
  · simp at h; subst h; rfl
  · simp at h
    rw [if_neg (by simp; omega), if_neg (by simp; omega), if_neg (by simp; omega)]
  · cases h
def ck_isst (i : Instr) (ac : Nat) : Bool := match i with
  | .iastore => ac == 0
  | .lastore => ac == 1
  | .bastore => ac == 2
  | .aastore => decide (3 ≤ ac)
  | _ => false
theorem ck_isst_ok {i : Instr} {ac : Nat} (h : ck_isst i ac = true) : i = ck_sti ac := by
  unfold ck_isst at h
  unfold ck_sti
  split at h
  · simp at h; subst h; rfl
  · simp at h; subst h; rfl
  · simp at h; subst h; rfl
  · simp at h
    rw [if_neg (by simp; omega), if_neg (by simp; omega), if_neg (by simp; omega)]
  · cases h
def ck_slen (nS j : Nat) : Nat := if j = 0 then 8 else if j = 1 then 64 else nS
def ck_one (q : ck_Q) : Option Nat := if 0 ≤ q.1 ∧ q.1 = q.2.1 then some q.1.toNat else none
theorem ck_one_ok {q : ck_Q} {j : Nat} (h : ck_one q = some j) : q.1 = (j : Int) ∧ q.2.1 = (j : Int) := by
  unfold ck_one at h
  split at h
  · cases h; omega
  · cases h
def ck_ld (tab : List ck_D) (nS : Nat) (T : List ck_C) (i : Instr) (q : ck_Q) (r : ck_V) : Option ck_V := match r with
  | .inr (.inr (2, τ)) => (match tab[τ]? with
    | some (.inl (ac, n, sg)) => if ck_isld i ac = true ∧ (ck_tyK ac).isSome = true ∧ 0 ≤ q.1 ∧ q.2.1 < (n : Int) then (match ck_rd sg q.1.toNat q.2.1.toNat with
      | some k => if ck_plain k = true then some k else none
      | none => none) else none
    | _ => none)
  | .inr (.inr (1, a)) => (match T[a]?, ck_one q with
    | some ((1, ac), es), some j => if ck_isld i ac = true ∧ (ck_tyK ac).isSome = true then es[j]? else none
    | some ((5, t), es), some j => if ck_isld i 0 = true ∧ t < 3 ∧ j < ck_slen nS t then es[j]? else none
    | _, _ => none)
  | .inr (.inr (3, t)) => if ck_isld i 0 = true ∧ t < 3 ∧ 0 ≤ q.1 ∧ q.2.1 < (ck_slen nS t : Int) then some ck_full else none
  | _ => none
def ck_len (tab : List ck_D) (nS : Nat) (T : List ck_C) (r : ck_V) : Option ck_V := match r with
  | .inr (.inr (2, τ)) => (match tab[τ]? with
    | some (.inl (ac, n, _)) => if (ck_tyK ac).isSome = true ∧ n < 2147483648 then some (.inl ((n : Int), (n : Int), none)) else none
    | _ => none)
  | .inr (.inr (1, a)) => (match T[a]? with
    | some ((5, t), _) => if t < 3 ∧ ck_slen nS t < 2147483648 then some (.inl ((ck_slen nS t : Int), (ck_slen nS t : Int), none)) else none
    | _ => none)
  | _ => none
/-- the class of the object that a reference leads to -/
def ck_oc (tab : List ck_D) (T : List ck_C) (v : ck_V) : Option Nat := match v with
  | .inr (.inr (2, τ)) => (match tab[τ]? with
    | some (.inr (ci, _)) => some ci
    | _ => none)
  | .inr (.inr (1, i)) => (match T[i]? with
    | some ((0, ci), _) => some ci
    | some ((3, τ), _) => (match tab[τ]? with
      | some (.inr (ci, _)) => some ci
      | _ => none)
    | _ => none)
  | _ => none
theorem ck_oc_ok {tab : List ck_D} {T : List ck_C} {v : ck_V} {ci : Nat} (h : ck_oc tab T v = some ci) : (∃ τ ks, v = .inr (.inr (2, τ)) ∧ tab[τ]? = some (.inr (ci, ks))) ∨ (∃ i fs, v = .inr (.inr (1, i)) ∧ T[i]? = some ((0, ci), fs)) ∨ (∃ i τ ks fs, v = .inr (.inr (1, i)) ∧ T[i]? = some ((3, τ), fs) ∧ tab[τ]? = some (.inr (ci, ks))) := by
  unfold ck_oc at h
  split at h
  · split at h
    · rename_i τ cj ks hτ
      cases h
      exact Or.inl ⟨_, ks, rfl, hτ⟩
    · cases h
  · split at h
    · rename_i i cj fs hi
      cases h
      exact Or.inr (Or.inl ⟨_, fs, rfl, hi⟩)
    · rename_i i τ fs hi
      split at h
      · rename_i cj ks hτ
        cases h
        exact Or.inr (Or.inr ⟨_, τ, ks, fs, rfl, hi, hτ⟩)
      · cases h
    · cases h
  · cases h
def ck_as (tab : List ck_D) (T : List ck_C) (i : Instr) (v : ck_V) (q : ck_Q) (r : ck_V) : Option (List ck_C) := match r with
  | .inr (.inr (2, τ)) => (match tab[τ]? with
    | some (.inl (ac, n, sg)) => if ck_isst i ac = true ∧ 0 ≤ q.1 ∧ q.2.1 < (n : Int) then (match ck_rd sg q.1.toNat q.2.1.toNat with
      | some k => if ck_le v k = true ∧ ck_plain k = true then (if ck_prim ac v = true then some T else (match ck_comp ac with
        | some ci => if ck_oc tab T v = some ci then some T else none
        | none => none)) else none
      | none => none) else none
    | _ => none)
  | .inr (.inr (1, a)) => (match T[a]?, ck_one q with
    | some ((1, ac), es), some j => if ck_isst i ac = true ∧ j < es.length then (if ck_prim ac v = true then some (T.set a ((1, ac), es.set j v)) else (match ck_comp ac with
      | some ci => if ck_oc tab T v = some ci then some (T.set a ((1, ac), es.set j v)) else none
      | none => none)) else none
    | _, _ => none)
  | _ => none
section CKAI
variable {p : Program} {l : Launch} {e : Env} {R : Room} {s : State} {m : MethodId} {args : Array Value} {below : List Frame} {meth : Method} {c : Code} {cells slots : Nat} {Q : State → Prop}
variable {cc : ByteArray} {pc pc2 nL nS : Nat} {D : va_G} {AC : Nat → ClassId} {S : Nat → Nat} {tab : List ck_D} {L : Heap} {ρ0 : Nat → Int} {G0 : Nat → Nat} {N0 : List Nat} {H0 : Heap}
variable {A : List (Nat × ck_V)} {st : List ck_V} {T : List ck_C} {own : String}
theorem ck_Kf.sta (h : ck_Kf D AC S L s nS) {t : Nat} (ht : t < 3) : ck_sta S L s t (ck_slen nS t) := by
  match t, ht with
  | 0, _ => exact h.2.2.2.1
  | 1, _ => exact h.2.2.2.2.2.1
  | 2, _ => exact h.2.2.2.2.2.2.1
theorem cw_ld (hexec : p.tables.exec = Jvm.exec) (hb : c.code = cc) (hKf : ck_Kf D AC S L s nS) {i : Instr} {q : ck_Q} {v r : ck_V} (hd : decode cc pc = .ok (i, 1)) (h : ck_ld tab nS T i q r = some v)
    (kk : ck_W p l e R s m args below meth c Q D AC S tab L nL ρ0 G0 N0 H0 (pc + 1) (A, v :: st, T) cells slots) : ck_W p l e R s m args below meth c Q D AC S tab L nL ρ0 G0 N0 H0 pc (A, .inl q :: r :: st, T) cells slots := by
  unfold ck_ld at h
  split at h
  · split at h
    · rename_i τ ac n sg hτ
      split at h
      · rename_i hc
        obtain ⟨c1, c2, c3, c4⟩ := hc
        obtain ⟨ty, hty⟩ := Option.isSome_iff_exists.mp c2
        rw [ck_isld_ok c1] at hd
        split at h
        · rename_i k hk
          split at h
          · rename_i hp
            cases h
            exact cw_ldTy hexec hb hKf.1 hτ hty c3 c4 hk hp hd kk
          · cases h
        · cases h
      · cases h
    · cases h
  · split at h
    · rename_i a ac es j hi hj
      split at h
      · rename_i hc
        obtain ⟨c1, c2⟩ := hc
        obtain ⟨ty, hty⟩ := Option.isSome_iff_exists.mp c2
        rw [ck_isld_ok c1] at hd
        exact cw_ldOwn hexec hb hKf.1 hi hty (ck_one_ok hj).1 (ck_one_ok hj).2 h hd kk
      · cases h
    · rename_i a t es j hi hj
      split at h
      · rename_i hc
        obtain ⟨c1, c2, c3⟩ := hc
        rw [ck_isld_ok c1] at hd
        exact cw_ldSn hexec hb (hKf.sta c2) hi (ck_one_ok hj).1 (ck_one_ok hj).2 h c3 hd kk
      · cases h
    · cases h
  · split at h
    · rename_i t hc
      obtain ⟨c1, c2, c3, c4⟩ := hc
      cases h
      rw [ck_isld_ok c1] at hd
      exact cw_ldSt hexec hb (hKf.sta c2) c3 c4 hd kk
    · cases h
  · cases h
theorem cw_len (hexec : p.tables.exec = Jvm.exec) (hb : c.code = cc) (hKf : ck_Kf D AC S L s nS) {v r : ck_V} (hd : decode cc pc = .ok (.arraylength, 1)) (h : ck_len tab nS T r = some v)
    (kk : ck_W p l e R s m args below meth c Q D AC S tab L nL ρ0 G0 N0 H0 (pc + 1) (A, v :: st, T) cells slots) : ck_W p l e R s m args below meth c Q D AC S tab L nL ρ0 G0 N0 H0 pc (A, r :: st, T) cells slots := by
  unfold ck_len at h
  split at h
  · split at h
    · rename_i τ ac n sg hτ
      split at h
      · rename_i hc
        obtain ⟨c2, c3⟩ := hc
        obtain ⟨ty, hty⟩ := Option.isSome_iff_exists.mp c2
        cases h
        exact cw_lenTy hexec hb hKf.1 hτ hty c3 hd kk
      · cases h
    · cases h
  · split at h
    · rename_i a t es hi
      split at h
      · rename_i hc
        cases h
        exact cw_lenSn hexec hb (hKf.sta hc.1) hi hc.2 hd kk
      · cases h
    · cases h
  · cases h
theorem cw_as (hexec : p.tables.exec = Jvm.exec) (hb : c.code = cc) (hKf : ck_Kf D AC S L s nS) {i : Instr} {q : ck_Q} {v r : ck_V} {T' : List ck_C} (hd : decode cc pc = .ok (i, 1)) (h : ck_as tab T i v q r = some T')
    (kk : ck_W p l e R s m args below meth c Q D AC S tab L nL ρ0 G0 N0 H0 (pc + 1) (A, st, T') cells slots) : ck_W p l e R s m args below meth c Q D AC S tab L nL ρ0 G0 N0 H0 pc (A, v :: .inl q :: r :: st, T) cells slots := by
  have hcomp : ∀ {ac ci : Nat}, ck_comp ac = some ci → ck_sti ac = .aastore := by
    intro ac ci h
    match ac, h with
    | 3, _ => rfl
    | 4, _ => rfl
    | 5, _ => rfl
    | 6, _ => rfl
  unfold ck_as at h
  split at h
  · split at h
    · rename_i τ ac n sg hτ
      split at h
      · rename_i hc
        obtain ⟨c1, c3, c4⟩ := hc
        rw [ck_isst_ok c1] at hd
        split at h
        · rename_i k hk
          split at h
          · rename_i hp
            split at h
            · rename_i hpr
              cases h
              exact cw_spTy hexec hb hKf.1 hτ c3 c4 hk hp.1 hp.2 hpr hd kk
            · split at h
              · rename_i ci hci
                split at h
                · rename_i ho
                  cases h
                  rw [hcomp hci] at hd
                  exact cw_srTy hexec hb hKf.1 hτ c3 c4 hk hp.1 hp.2 hci (ck_oc_ok ho) hd kk
                · cases h
              · cases h
          · cases h
        · cases h
      · cases h
    · cases h
  · split at h
    · rename_i a ac es j hi hj
      split at h
      · rename_i hc
        obtain ⟨c1, c2⟩ := hc
        rw [ck_isst_ok c1] at hd
        split at h
        · rename_i hpr
          cases h
          exact cw_spOwn hexec hb hKf.1 hi (ck_one_ok hj).1 (ck_one_ok hj).2 c2 hpr hd kk
        · split at h
          · rename_i ci hci
            split at h
            · rename_i ho
              cases h
              rw [hcomp hci] at hd
              exact cw_srOwn hexec hb hKf.1 hi (ck_one_ok hj).1 (ck_one_ok hj).2 c2 hci (ck_oc_ok ho) hd kk
            · cases h
          · cases h
      · cases h
    · cases h
  · cases h
end CKAI
end
section
/-! ===== the checker: a class's links, methods, contracts; what a method's check rests on ===== -/
/-- own name; fields; int constants; long constants; classes made; arrays of references; static arrays; exceptions' classes; exceptions' constructors; methods; System.arraycopy; int[][] -/
abbrev ck_E : Type := String × List (Nat × Nat × Nat) × List (Nat × Int) × List (Nat × Int) × List (Nat × Nat) × List (Nat × Nat) × List (Nat × Nat) × List (Nat × Nat) × List (Nat × Nat) × List (Nat × Nat) × List Nat × List Nat × List Nat
def ck_fl (E : ck_E) : List (Nat × Nat × Nat) := E.2.1
def ck_kl (E : ck_E) : List (Nat × Int) := E.2.2.1
def ck_jl (E : ck_E) : List (Nat × Int) := E.2.2.2.1
def ck_nl (E : ck_E) : List (Nat × Nat) := E.2.2.2.2.1
def ck_al (E : ck_E) : List (Nat × Nat) := E.2.2.2.2.2.1
def ck_gl (E : ck_E) : List (Nat × Nat) := E.2.2.2.2.2.2.1
def ck_xl (E : ck_E) : List (Nat × Nat) := E.2.2.2.2.2.2.2.1
def ck_il (E : ck_E) : List (Nat × Nat) := E.2.2.2.2.2.2.2.2.1
def ck_ml (E : ck_E) : List (Nat × Nat) := E.2.2.2.2.2.2.2.2.2.1
def ck_cy (E : ck_E) : List Nat := E.2.2.2.2.2.2.2.2.2.2.1
def ck_m2 (E : ck_E) : List Nat := E.2.2.2.2.2.2.2.2.2.2.2.1
def ck_ob0 (E : ck_E) : List Nat := E.2.2.2.2.2.2.2.2.2.2.2.2
/-- a method; 0 static, 1 virtual, 2 constructor; how many parameters; its class's place -/
abbrev ck_MM : Type := ck_M × Nat × Nat × Nat
def ck_roots (j : Nat) : String := if j = 0 then "SQUARE_ROOTS" else "CUBE_ROOTS"
def ck_Eok (ms : List ck_MM) (E : ck_E) : Prop :=
  (∀ q ∈ ck_fl E, ck_lnk E.1 q.1 q.2.1 q.2.2) ∧ (∀ q ∈ ck_kl E, ∃ v : Int32, v.toInt = q.2 ∧ Cond.constant E.1 q.1 v ∈ ck_tb) ∧ (∀ q ∈ ck_jl E, ∃ v : Int64, v.toInt = q.2 ∧ Cond.constantLong E.1 q.1 v ∈ ck_tb) ∧
  (∀ q ∈ ck_nl E, ∃ (C : String) (TT : u_T) (n : Nat), ck_cl[q.2]? = some (C, TT, n) ∧ Cond.classLink E.1 q.1 C ∈ ck_tb) ∧ (∀ q ∈ ck_al E, ∃ C : String, ck_tyK q.2 = some (.object C) ∧ Cond.classLink E.1 q.1 C ∈ ck_tb ∧ Cond.arrayOver (.object C) ∈ ck_tb) ∧
  (∀ q ∈ ck_gl E, q.2 < 2 ∧ Cond.fieldLink E.1 q.1 "RatchetDesk$Hash" (ck_roots q.2) "[I" ∈ ck_tb) ∧ (∀ q ∈ ck_xl E, Cond.classLink E.1 q.1 (ck_xn q.2) ∈ ck_tb ∧ q.2 < 3 ∧ q.1 ≠ 0) ∧ (∀ q ∈ ck_il E, ∀ w ∈ Jvm.Bundle.ownAtoms E.1 q.1 (ck_xn q.2) ck_up2, w ∈ ck_tb ∨ w ∈ ck_4) ∧
  (∀ q ∈ ck_ml E, ∃ M : ck_MM, ms[q.2]? = some M ∧ (Cond.methodLink E.1 q.1 M.1.1 ∈ ck_tb ∨ ∃ host, Cond.methodLinkNest E.1 q.1 M.1.1 host ∈ ck_tb)) ∧ (∀ q ∈ ck_cy E, Cond.methodLink E.1 q arraycopyName ∈ ck_tb) ∧ (∀ q ∈ ck_m2 E, Cond.classLink E.1 q "[[I" ∈ ck_tb) ∧ (∀ q ∈ ck_ob0 E, Cond.methodLink E.1 q Lib.objectInit ∈ ck_tb)
def ck_codeC (M : ck_M) : Prop := (M.2.2.2.2 = [] ∧ Cond.code M.1 M.2.1 M.2.2.1 M.2.2.2.1 ∈ ck_tb) ∨ Cond.codeWith M.1 M.2.1 M.2.2.1 M.2.2.2.1 M.2.2.2.2 ∈ ck_tb
def ck_Mok (q : ck_MM) : Prop :=
  ck_codeC q.1 ∧ plainName q.1.1.cls = true ∧ (parseMethodDescriptor q.1.1.desc).map (fun d => d.parameters.length) = some q.2.2.1 ∧ (q.1.1.cls ≠ "java/lang/invoke/MethodHandle" ∧ q.1.1.cls ≠ "java/lang/invoke/VarHandle") ∧
  match q.2.1 with
  | 0 => Cond.static q.1.1 ∈ ck_tb ∧ Cond.initialized q.1.1.cls ∈ ck_tb
  | 1 => Cond.instanceMethod q.1.1 ∈ ck_tb ∧ Cond.selects q.1.1.cls q.1.1 q.1.1 ∈ ck_tb ∧ ∃ (TT : u_T) (n : Nat), ck_cl[q.2.2.2]? = some (q.1.1.cls, TT, n)
  | _ => Cond.instanceMethod q.1.1 ∈ ck_tb ∧ q.1.1.name = "<init>" ∧ Cond.code q.1.1 q.1.2.1 q.1.2.2.1 none ∈ ck_tb
/-- what stands in the tables once for all -/
def ck_Glob : Prop := (∀ x, x < 3 → Jvm.Bundle.fit (ck_xn x) = true ∧ Cond.initialized (ck_xn x) ∈ ck_tb ∧ Cond.instantiable (ck_xn x) 6 ∈ ck_tb ∧ Cond.castable (ck_xn x) (ck_xn x) ∈ ck_tb) ∧
  (∀ ac t, ck_at ac = some t → Cond.arrayClass (newarray.typeOf t) ∈ ck_tb) ∧ Cond.arrayOver (.array .int) ∈ ck_tb ∧ Cond.native arraycopyName ∈ ck_tb ∧ Cond.static arraycopyName ∈ ck_tb ∧ Cond.initialized "java/lang/System" ∈ ck_tb ∧ Cond.instanceMethod Lib.objectInit ∈ ck_tb ∧ Cond.code Lib.objectInit ⟨#[0xb1]⟩ 1 none ∈ ck_tb
def ck_cdAt (cod : List (List (Nat × Instr × Nat))) (pc : Nat) : Option (Instr × Nat) := match cod[pc / 32]? with
  | some ch => ck_lk ch pc
  | none => none
abbrev ck_N : Type := Nat × ck_A × Nat × Nat
def ck_Hy (p : Program) (l : Launch) (e : Env) (R : Room) (s : State) (m : MethodId) (meth : Method) (c : Code) (M : ck_M) (K : ck_Ct) (E : ck_E) (ms : List ck_MM) (cts : List (Nat × ck_Ct)) (tab : List ck_D) (nS : Nat) (D : va_G) (AC : Nat → ClassId) (S : Nat → Nat) (L : Heap) (cod : List (List (Nat × Instr × Nat))) : Prop :=
  ck_B p s m meth c M ∧ e.platform.stackTraces = false ∧ (K.2.2.2.2.1 ≤ R.frames ∧ K.2.2.2.2.2.1 ≤ R.locals ∧ K.2.2.2.2.2.2.1 ≤ R.cells ∧ K.2.2.2.2.2.2.2 ≤ R.slots) ∧ ck_Kf D AC S L s nS ∧ ck_Eok ms E ∧ E.1 = M.1.cls ∧ (∀ q ∈ ms, ck_Mok q) ∧ (∀ q ∈ cts, ∃ M' : ck_MM, ms[q.1]? = some M' ∧ ck_Ok l tab nS M'.1 q.2) ∧ ck_Glob ∧ (∀ pc i n, ck_cdAt cod pc = some (i, n) → decode M.2.1 pc = .ok (i, n))
def ck_atac (t : ArrayType) : Option Nat := match t with
  | .int => some 0
  | .long => some 1
  | .boolean => some 2
  | _ => none
theorem ck_atac_ok {t : ArrayType} {ac : Nat} (h : ck_atac t = some ac) : ck_at ac = some t := by
  unfold ck_atac at h
  split at h <;> cases h <;> rfl
/-- new cells: what comes, by what the plan says of this place -/
def ck_alc (E : ck_E) (tab : List ck_D) (nt : List (Nat × Nat × Nat)) (K : ck_Ct) (i : Instr) (n pc : Nat) (B : ck_A) (ce sl : Nat) : Option (List ck_N) := match i, B with
  | .newarray t, (A, .inl q :: st, T) => (match ck_atac t, ck_one q with
    | some ac, some k => if n = 2 ∧ k ≤ 60000 ∧ ce + 1 ≤ K.2.2.2.2.2.2.1 ∧ sl + k ≤ K.2.2.2.2.2.2.2 then (match ck_lk nt pc with
      | some (τ, _) => (match tab[τ]? with
        | some (.inl (ac', k', sg)) => if ac' = ac ∧ k' = k ∧ τ ≠ 0 ∧ ck_dk ac sg = true then some [(pc + 2, (A, .inr (.inr (2, τ)) :: st, T), ce + 1, sl + k)] else none
        | _ => none)
      | none => some [(pc + 2, (A, .inr (.inr (1, T.length)) :: st, T ++ [((1, ac), List.replicate k (ck_d0 ac))]), ce + 1, sl + k)]) else none
    | _, _ => none)
  | .anewarray idx, (A, .inl q :: st, T) => (match ck_lk (ck_al E) idx, ck_one q with
    | some ac, some k => if n = 3 ∧ k ≤ 60000 ∧ ce + 1 ≤ K.2.2.2.2.2.2.1 ∧ sl + k ≤ K.2.2.2.2.2.2.2 then some [(pc + 3, (A, .inr (.inr (1, T.length)) :: st, T ++ [((1, ac), List.replicate k (.inr (.inr (0, 0))))]), ce + 1, sl + k)] else none
    | _, _ => none)
  | .new idx, (A, st, T) => (match ck_lk (ck_nl E) idx with
    | some ci => (match ck_cl[ci]? with
      | some (_, _, k) => if n = 3 ∧ ce + 1 ≤ K.2.2.2.2.2.2.1 ∧ sl + k ≤ K.2.2.2.2.2.2.2 then some [(pc + 3, (A, .inr (.inr (1, T.length)) :: st, T ++ [((0, ci), (List.range k).map (fun k => ck_dt (ck_yy ci k)))]), ce + 1, sl + k)] else none
      | none => none)
    | none => none)
  | .multianewarray idx 2, (A, .inl qk :: .inl qn :: st, T) => (match ck_lk nt pc, ck_one qn, ck_one qk with
    | some (τo, τi), some a, some b => (match tab[τo]?, tab[τi]? with
      | some (.inl (7, a', sgo)), some (.inl (0, b', sgi)) => if n = 4 ∧ (ck_m2 E).contains idx = true ∧ a' = a ∧ b' = b ∧ τo ≠ 0 ∧ τi ≠ 0 ∧ sgo.all (fun q => ck_le (.inr (.inr (2, τi))) q.2) = true ∧ ck_dk 0 sgi = true ∧ a ≤ 60000 ∧ b ≤ 60000 ∧ ce + (1 + a) ≤ K.2.2.2.2.2.2.1 ∧ sl + (a + a * b) ≤ K.2.2.2.2.2.2.2 then some [(pc + 4, (A, .inr (.inr (2, τo)) :: st, T), ce + 1 + a, sl + a + a * b)] else none
      | _, _ => none)
    | _, _, _ => none)
  | .getstatic idx, (A, st, T) => (match ck_lk (ck_gl E) idx with
    | some j => if n = 3 then some [(pc + 3, (A, .inr (.inr (3, j)) :: st, T), ce, sl)] else none
    | none => none)
  | _, _ => none
section CKEN
variable {p : Program} {l : Launch} {e : Env} {R : Room} {s : State} {m : MethodId} {args : Array Value} {below : List Frame} {meth : Method} {c : Code} {ce sl : Nat} {Q : State → Prop}
variable {pc nL nS : Nat} {D : va_G} {AC : Nat → ClassId} {S : Nat → Nat} {tab : List ck_D} {L : Heap} {ρ0 : Nat → Int} {G0 : Nat → Nat} {N0 : List Nat} {H0 : Heap}
variable {B : ck_A} {M : ck_M} {K : ck_Ct} {E : ck_E} {ms : List ck_MM} {cts : List (Nat × ck_Ct)} {cod : List (List (Nat × Instr × Nat))}
theorem cw_alc (hy : ck_Hy p l e R s m meth c M K E ms cts tab nS D AC S L cod) {nt : List (Nat × Nat × Nat)} {i : Instr} {n : Nat} {X : List ck_N} (hd : decode M.2.1 pc = .ok (i, n)) (h : ck_alc E tab nt K i n pc B ce sl = some X)
    (k : ∀ x ∈ X, ck_W p l e R s m args below meth c Q D AC S tab L nL ρ0 G0 N0 H0 x.1 x.2.1 x.2.2.1 x.2.2.2) : ck_W p l e R s m args below meth c Q D AC S tab L nL ρ0 G0 N0 H0 pc B ce sl := by
  obtain ⟨⟨hexec, hb, hml, hret, hlk, hown, hhd, hnm⟩, htr, ⟨r1, r2, r3, r4⟩, hKf, hE, hEM, hms, hcts, hgl, hcod⟩ := hy
  have hts : ∀ w ∈ ck_tb, w.before args s = true := hKf.ts
  obtain ⟨e1, e2, e3, e4, e5, e6, e7, e8, e9, e10, e11, e12⟩ := hE
  rw [← hEM] at hown
  unfold ck_alc at h
  split at h
  · rename_i t A q st T
    split at h
    · rename_i ac kk hac hq
      split at h
      · rename_i hc
        obtain ⟨rfl, c1, c2, c3⟩ := hc
        split at h
        · rename_i τ z hτ0
          split at h
          · rename_i ac' k' sg hτ
            split at h
            · rename_i hc2
              obtain ⟨rfl, rfl, c4, c5⟩ := hc2
              cases h
              exact cw_newaTy hexec hb hKf.1 (hts _ (hgl.2.1 _ _ (ck_atac_ok hac))) hτ c4 (ck_atac_ok hac) (ck_one_ok hq).1 (ck_one_ok hq).2 c1 c5 (by omega) (by omega) hd (k _ (List.mem_singleton.mpr rfl))
            · cases h
          · cases h
        · cases h
          exact cw_newaOwn hexec hb hKf.1 (hts _ (hgl.2.1 _ _ (ck_atac_ok hac))) (ck_atac_ok hac) (ck_one_ok hq).1 (ck_one_ok hq).2 c1 (by omega) (by omega) hd (k _ (List.mem_singleton.mpr rfl))
      · cases h
    · cases h
  · rename_i idx A q st T
    split at h
    · rename_i ac kk hac hq
      split at h
      · rename_i hc
        obtain ⟨rfl, c1, c2, c3⟩ := hc
        cases h
        obtain ⟨C, f1, f2, f3⟩ := e5 _ (ck_lk_mem hac)
        exact cw_anew hexec hb hown hKf.1 f1 (hts _ f2) (hts _ f3) (ck_one_ok hq).1 (ck_one_ok hq).2 c1 (by omega) (by omega) hd (k _ (List.mem_singleton.mpr rfl))
      · cases h
    · cases h
  · rename_i idx A st T
    split at h
    · rename_i ci hci
      split at h
      · rename_i C0 T0 kk hcl
        split at h
        · rename_i hc
          obtain ⟨rfl, c2, c3⟩ := hc
          cases h
          obtain ⟨C, TT, n', f1, f2⟩ := e4 _ (ck_lk_mem hci)
          cases hcl.symm.trans f1
          exact cw_new hexec hb hown hKf.1 hts hcl f2 (by omega) (by omega) hd (k _ (List.mem_singleton.mpr rfl))
        · cases h
      · cases h
    · cases h
  · rename_i idx A qk qn st T
    split at h
    · rename_i τo τi a b hnt hqn hqk
      split at h
      · rename_i a' sgo b' sgi ho hi
        split at h
        · rename_i hc
          obtain ⟨rfl, c1, rfl, rfl, c2, c3, c4, c5, c6, c7, c8, c9⟩ := hc
          cases h
          exact cw_multi hexec hb hown hKf.1 (hts _ (e11 _ (by simpa using c1))) (hts _ hgl.2.2.1) (hts _ (hgl.2.1 0 .int rfl)) ho hi c2 c3 c4 c5 (ck_one_ok hqn) (ck_one_ok hqk) c6 c7 (by omega) (by omega) hd (k _ (List.mem_singleton.mpr rfl))
        · cases h
      · cases h
    · cases h
  · rename_i idx A st T
    split at h
    · rename_i j hj
      split at h
      · rename_i hn
        subst hn
        cases h
        obtain ⟨f1, f2⟩ := e6 _ (ck_lk_mem hj)
        have hZ : va_Z "RatchetDesk$Hash" (ck_roots j) "[I" (.ref (S j)) (fun q => L.size ≤ q) s L := by
          match j, f1 with
          | 0, _ => exact hKf.2.2.1
          | 1, _ => exact hKf.2.2.2.2.1
        exact cw_gets hexec hb hown hZ (hts _ f2) hd (k _ (List.mem_singleton.mpr rfl))
      · cases h
    · cases h
  · cases h
end CKEN
end
section
/-! ===== the checker: branches, returns, copying ===== -/
def ck_tgt (pc : Nat) (off : Int) : Option Nat := if 0 ≤ (pc : Int) + off then some ((pc : Int) + off).toNat else none
theorem ck_tgt_ok {pc t : Nat} {off : Int} (h : ck_tgt pc off = some t) : (pc : Int) + off = (t : Int) := by
  unfold ck_tgt at h
  split at h
  · cases h; omega
  · cases h
def ck_swT (pc : Nat) (offs : Array Int) (i : Nat) : Nat := match offs[i]? with
  | some off => ((pc : Int) + off).toNat
  | none => 0
def ck_sw (pc : Nat) (offs : Array Int) (i : Nat) : Bool := match offs[i]? with
  | some off => decide (0 ≤ (pc : Int) + off)
  | none => false
def ck_opt {α β : Type} (o : Option α) (f : α → β) : List β := match o with
  | some a => [f a]
  | none => []
def ck_br (nL : Nat) (i : Instr) (n pc : Nat) (B : ck_A) (ce sl : Nat) : Option (List ck_N) := match i, B with
  | .goto off, B => if n = 3 then (match ck_tgt pc off with
    | some t => some [(t, B, ce, sl)]
    | none => none) else none
  | .ifCond k off, (A, .inl a :: st, T) => if n = 3 then (match ck_tgt pc off with
    | some t => some (ck_opt (ck_ref k (a.1, a.2.1) (0, 0)) (fun r => (t, ck_tgO a.2.2 r.1.1 r.1.2 (A, st, T), ce, sl)) ++ ck_opt (ck_ref (ck_neg k) (a.1, a.2.1) (0, 0)) (fun r => (pc + 3, ck_tgO a.2.2 r.1.1 r.1.2 (A, st, T), ce, sl)))
    | none => none) else none
  | .if_icmp k off, (A, .inl b :: .inl a :: st, T) => if n = 3 then (match ck_tgt pc off with
    | some t => some (ck_opt (ck_ref k (a.1, a.2.1) (b.1, b.2.1)) (fun r => (t, ck_tgO b.2.2 r.2.1 r.2.2 (ck_tgO a.2.2 r.1.1 r.1.2 (A, st, T)), ce, sl)) ++ ck_opt (ck_ref (ck_neg k) (a.1, a.2.1) (b.1, b.2.1)) (fun r => (pc + 3, ck_tgO b.2.2 r.2.1 r.2.2 (ck_tgO a.2.2 r.1.1 r.1.2 (A, st, T)), ce, sl)))
    | none => none) else none
  | .iinc j v, (A, st, T) => (match ck_loc A j with
    | some (.inl q) => if n = 3 ∧ j < nL ∧ A.all (fun q => ck_kn q.2) = true ∧ -2147483648 ≤ v ∧ v ≤ 2147483647 then some [(pc + 3, (ck_s1 A j (ck_add q (v, v, none)), st, T), ce, sl)] else none
    | _ => none)
  | .tableswitch d lo hi offs, (A, .inl a :: st, T) => (match ck_tgt pc d with
    | some td => if (List.range (hi - lo + 1).toNat).all (ck_sw pc offs) = true then some (((List.range (hi - lo + 1).toNat).filter (fun (i : Nat) => decide (a.1 ≤ lo + (i : Int)) && decide (lo + (i : Int) ≤ a.2.1))).map (fun (i : Nat) => (ck_swT pc offs i, (A, st, T), ce, sl)) ++ (if a.1 < lo ∨ hi < a.2.1 then [(td, (A, st, T), ce, sl)] else [])) else none
    | none => none)
  | _, _ => none
def ck_rt (M : ck_M) (K : ck_Ct) (i : Instr) (n : Nat) (B : ck_A) (ce sl : Nat) : Bool := decide (n = 1) && ck_leT B.2.2 K.2.2.1 && decide (ce ≤ K.2.2.2.2.2.2.1) && decide (sl ≤ K.2.2.2.2.2.2.2) && (match i, B.2.1, K.2.2.2.1, M.2.2.2.1 with
  | .return_, [], .inl none, none => true
  | .ireturn, [.inl q], .inl (some r), some ty => ck_fit ty (.inl q) && ck_le (.inl q) r
  | .lreturn, [.inr (.inl q)], .inl (some r), some .long => ck_le (.inr (.inl q)) r
  | .areturn, [v], .inl (some r), some (.object _) => ck_fit (.object "") v && ck_le (ck_unf B.2.2 v) r
  | .areturn, [v], .inl (some r), some (.array _) => ck_fit (.object "") v && ck_le (ck_unf B.2.2 v) r
  | _, _, _, _ => false)
def ck_csrc (tab : List ck_D) (nS ac sp k : Nat) (v : ck_V) : Option (Nat × ck_V) := match v with
  | .inr (.inr (2, σ)) => (match tab[σ]? with
    | some (.inl (ac', n0, sg0)) => if ac' = ac then (match ck_rd sg0 sp (sp + k - 1) with
      | some ks => some (n0, ks)
      | none => none) else none
    | _ => none)
  | .inr (.inr (3, j)) => if ac = 0 ∧ j < 3 then some (ck_slen nS j, ck_full) else none
  | _ => none
def ck_cpy (E : ck_E) (tab : List ck_D) (nS : Nat) (K : ck_Ct) (i : Instr) (n pc : Nat) (B : ck_A) (ce sl : Nat) : Option (List ck_N) := match i, B with
  | .invokestatic idx, (A, .inl qn :: .inl qd :: .inr (.inr (2, τ)) :: .inl qs :: v :: st, T) => (match tab[τ]?, ck_one qn, ck_one qd, ck_one qs with
    | some (.inl (ac, n1, sg)), some k, some dp, some sp => (match ck_rd sg dp (dp + k - 1), ck_csrc tab nS ac sp k v with
      | some kd, some (n0, ks) => if n = 3 ∧ (ck_cy E).contains idx = true ∧ (ac = 0 ∨ ac = 1) ∧ 0 < k ∧ ck_plain kd = true ∧ ck_le ks kd = true ∧ ck_plain ks = true ∧ ck_prim ac ks = true ∧ sp + k ≤ n0 ∧ dp + k ≤ n1 ∧ st.all ck_kn = true ∧ 1 ≤ K.2.2.2.2.1 ∧ ck_words st + 18 ≤ K.2.2.2.2.2.1 then some [(pc + 3, (A, st, T), ce, sl)] else none
      | _, _ => none)
    | _, _, _, _ => none)
  | _, _ => none
/-- Object's constructor -/
def ck_obi (E : ck_E) (K : ck_Ct) (i : Instr) (n pc : Nat) (B : ck_A) (ce sl : Nat) : Option (List ck_N) := match i, B with
  | .invokespecial idx, (A, .inr (.inr (z, y)) :: st, T) => if n = 3 ∧ (ck_ob0 E).contains idx = true ∧ (z = 1 ∨ z = 2) ∧ st.all ck_kn = true ∧ 1 ≤ K.2.2.2.2.1 ∧ ck_words st + 12 ≤ K.2.2.2.2.2.1 then some [(pc + 3, (A, st, T), ce, sl)] else none
  | _, _ => none
section CKFL
variable {p : Program} {l : Launch} {e : Env} {R : Room} {s : State} {m : MethodId} {args : Array Value} {below : List Frame} {meth : Method} {c : Code} {ce sl : Nat} {Q : State → Prop}
variable {pc nL nS : Nat} {D : va_G} {AC : Nat → ClassId} {S : Nat → Nat} {tab : List ck_D} {L : Heap} {ρ0 : Nat → Int} {G0 : Nat → Nat} {N0 : List Nat} {H0 : Heap}
variable {B : ck_A} {M : ck_M} {K : ck_Ct} {E : ck_E} {ms : List ck_MM} {cts : List (Nat × ck_Ct)} {cod : List (List (Nat × Instr × Nat))}
theorem cw_br (hy : ck_Hy p l e R s m meth c M K E ms cts tab nS D AC S L cod) {i : Instr} {n : Nat} {X : List ck_N} (hd : decode M.2.1 pc = .ok (i, n)) (h : ck_br nL i n pc B ce sl = some X)
    (k : ∀ x ∈ X, ck_W p l e R s m args below meth c Q D AC S tab L nL ρ0 G0 N0 H0 x.1 x.2.1 x.2.2.1 x.2.2.2) : ck_W p l e R s m args below meth c Q D AC S tab L nL ρ0 G0 N0 H0 pc B ce sl := by
  obtain ⟨⟨hexec, hb, hml, hret, hlk, hown, hhd, hnm⟩, -⟩ := hy
  have oin : ∀ {α β : Type} {o : Option α} {f : α → β} {a : α}, o = some a → f a ∈ ck_opt o f := by
    intro α β o f a ho
    rw [ho]
    exact List.mem_singleton.mpr rfl
  unfold ck_br at h
  split at h
  · split at h
    · rename_i hn
      subst hn
      split at h
      · rename_i t ht
        cases h
        exact cw_goto hexec hb hd (ck_tgt_ok ht) (k _ (List.mem_singleton.mpr rfl))
      · cases h
    · cases h
  · split at h
    · rename_i hn
      subst hn
      split at h
      · rename_i t ht
        cases h
        exact cw_ifc hexec hb hd (ck_tgt_ok ht) (fun r hr => k _ (List.mem_append_left _ (oin hr))) (fun r hr => k _ (List.mem_append_right _ (oin hr)))
      · cases h
    · cases h
  · split at h
    · rename_i hn
      subst hn
      split at h
      · rename_i t ht
        cases h
        exact cw_icmp hexec hb hd (ck_tgt_ok ht) (fun r hr => k _ (List.mem_append_left _ (oin hr))) (fun r hr => k _ (List.mem_append_right _ (oin hr)))
      · cases h
    · cases h
  · split at h
    · rename_i q hq
      split at h
      · rename_i hc
        obtain ⟨rfl, c1, c2, c3, c4⟩ := hc
        cases h
        exact cw_iinc hexec hb hd hq c1 c2 (ck_ofInt c3 c4) (k _ (List.mem_singleton.mpr rfl))
      · cases h
    · cases h
  · rename_i d lo hi offs A a st T
    split at h
    · rename_i td htd
      split at h
      · rename_i hall
        cases h
        refine cw_table hexec hb hd (ck_tgt_ok htd) (ck_swT pc offs) (fun i hi' => ?_) (fun i hi' h1 h2 => k _ (List.mem_append_left _ (List.mem_map.mpr ⟨i, List.mem_filter.mpr ⟨List.mem_range.mpr hi', by simp [h1, h2]⟩, rfl⟩))) (fun ho => k _ (List.mem_append_right _ (by rw [if_pos ho]; exact List.mem_singleton.mpr rfl)))
        have := List.all_eq_true.mp hall i (List.mem_range.mpr hi')
        unfold ck_sw at this
        unfold ck_swT
        split at this
        · rename_i off ho
          have := of_decide_eq_true this
          exact ⟨off, ho, by omega⟩
        · cases this
      · cases h
    · cases h
  · cases h
theorem ck_W.mono {Q' : State → Prop} (hQ : ∀ t, Q t → Q' t) (h : ck_W p l e R s m args below meth c Q D AC S tab L nL ρ0 G0 N0 H0 pc B ce sl) : ck_W p l e R s m args below meth c Q' D AC S tab L nL ρ0 G0 N0 H0 pc B ce sl :=
  fun H ls st locs hs => ck_mono hQ (h H ls st locs hs)
theorem cw_rt (hy : ck_Hy p l e R s m meth c M K E ms cts tab nS D AC S L cod) {i : Instr} {n : Nat} (hd : decode M.2.1 pc = .ok (i, n)) (h : ck_rt M K i n B ce sl = true) (hQ : ∀ t, ck_Fin D AC S tab L ρ0 G0 N0 K below s t → Q t) : ck_W p l e R s m args below meth c Q D AC S tab L nL ρ0 G0 N0 s.heap pc B ce sl := by
  obtain ⟨⟨hexec, hb, hml, hret, hlk, hown, hhd, hnm⟩, -⟩ := hy
  unfold ck_rt at h
  simp only [Bool.and_eq_true, decide_eq_true_eq] at h
  obtain ⟨⟨⟨⟨rfl, hT⟩, hc⟩, hs⟩, hm⟩ := h
  obtain ⟨A, st, T⟩ := B
  refine ck_W.mono hQ ?_
  dsimp only at hm hT
  split at hm
  · rename_i hr ht
    exact cw_vret hexec hb hlk (hret.trans ht) hr hT hc hs hd
  · rename_i q r ty hr ht
    simp only [Bool.and_eq_true] at hm
    exact cw_iret hexec hb hlk (hret.trans ht) hm.1 hr hm.2 hT hc hs hd
  · rename_i q r hr ht
    exact cw_lret hexec hb hlk (hret.trans ht) hr hm hT hc hs hd
  · rename_i v r o hr ht
    simp only [Bool.and_eq_true] at hm
    exact cw_aret hexec hb hlk (hret.trans ht) (Or.inl ⟨_, rfl⟩) hm.1 hr hm.2 hT hc hs hd
  · rename_i v r o hr ht
    simp only [Bool.and_eq_true] at hm
    exact cw_aret hexec hb hlk (hret.trans ht) (Or.inr ⟨_, rfl⟩) hm.1 hr hm.2 hT hc hs hd
  · cases hm
theorem cw_cpy (hy : ck_Hy p l e R s m meth c M K E ms cts tab nS D AC S L cod) (hnl : nL = M.2.2.1) {i : Instr} {n : Nat} {X : List ck_N} (hd : decode M.2.1 pc = .ok (i, n)) (h : ck_cpy E tab nS K i n pc B ce sl = some X)
    (k : ∀ x ∈ X, ck_W p l e R s m args below meth c Q D AC S tab L nL ρ0 G0 N0 H0 x.1 x.2.1 x.2.2.1 x.2.2.2) : ck_W p l e R s m args below meth c Q D AC S tab L nL ρ0 G0 N0 H0 pc B ce sl := by
  obtain ⟨⟨hexec, hb, hml, hret, hlk, hown, hhd, hnm⟩, htr, ⟨r1, r2, r3, r4⟩, hKf, hE, hEM, hms, hcts, hgl, hcod⟩ := hy
  have hts : ∀ w ∈ ck_tb, w.before args s = true := hKf.ts
  obtain ⟨e1, e2, e3, e4, e5, e6, e7, e8, e9, e10, e11, e12⟩ := hE
  rw [← hEM] at hown
  unfold ck_cpy at h
  split at h
  · rename_i idx A qn qd τ qs v st T
    split at h
    · rename_i ac n1 sg kk dp sp hτ h1 h2 h3
      split at h
      · rename_i kd n0 ks hkd hsrc
        split at h
        · rename_i hc
          obtain ⟨rfl, c1, c2, c3, c4, c5, c6, c7, c8, c9, c10, c11, c12⟩ := hc
          cases h
          have hty : ∃ ty, ck_tyK ac = some ty := by
            rcases c2 with rfl | rfl
            · exact ⟨_, rfl⟩
            · exact ⟨_, rfl⟩
          obtain ⟨ty, hty⟩ := hty
          have hw : nativeFrameWords "java/lang/System" "arraycopy" 5 = 7 := by decide +kernel
          refine cw_copy hexec hb hown hKf.1 (hts _ (e10 _ (by simpa using c1))) (hts _ hgl.2.2.2.1) (hts _ hgl.2.2.2.2.1) (hts _ hgl.2.2.2.2.2.1) (hml.trans hnl.symm) hty c2 hτ c3 hkd c4 c5 c6 c7 ?_ c8 c9 (ck_one_ok h3) (ck_one_ok h2) (ck_one_ok h1) c10 (by omega) (by rw [hw]; omega) hd (k _ (List.mem_singleton.mpr rfl))
          unfold ck_csrc at hsrc
          split at hsrc
          · split at hsrc
            · rename_i ac' n0' sg0 hσ
              split at hsrc
              · rename_i e
                subst e
                split at hsrc
                · rename_i ks' hk'
                  cases hsrc
                  exact Or.inl ⟨_, _, rfl, hσ, hk'⟩
                · cases hsrc
              · cases hsrc
            · cases hsrc
          · split at hsrc
            · rename_i j hj
              cases hsrc
              exact Or.inr ⟨j, rfl, hj.1, hKf.sta hj.2, rfl⟩
            · cases hsrc
          · cases hsrc
        · cases h
      · cases h
    · cases h
  · cases h
theorem cw_obi (hy : ck_Hy p l e R s m meth c M K E ms cts tab nS D AC S L cod) (hnl : nL = M.2.2.1) {i : Instr} {n : Nat} {X : List ck_N} (hd : decode M.2.1 pc = .ok (i, n)) (h : ck_obi E K i n pc B ce sl = some X)
    (k : ∀ x ∈ X, ck_W p l e R s m args below meth c Q D AC S tab L nL ρ0 G0 N0 H0 x.1 x.2.1 x.2.2.1 x.2.2.2) : ck_W p l e R s m args below meth c Q D AC S tab L nL ρ0 G0 N0 H0 pc B ce sl := by
  obtain ⟨⟨hexec, hb, hml, hret, hlk, hown, hhd, hnm⟩, htr, ⟨r1, r2, r3, r4⟩, hKf, hE, hEM, hms, hcts, hgl, hcod⟩ := hy
  have hts : ∀ w ∈ ck_tb, w.before args s = true := hKf.ts
  obtain ⟨e1, e2, e3, e4, e5, e6, e7, e8, e9, e10, e11, e12⟩ := hE
  rw [← hEM] at hown
  unfold ck_obi at h
  split at h
  · rename_i idx A z y st T
    split at h
    · rename_i hc
      obtain ⟨rfl, c1, c2, c3, c4, c5⟩ := hc
      cases h
      intro H ls vs locs hh
      obtain ⟨ρ, G, N, lv, h1, h2, h3, h4, h5, h6, h7⟩ := hh
      obtain ⟨v0, vs', rfl, w1, w2⟩ := h3.uncons
      have hor : ∃ b, v0 = .ref b := by
        rcases c2 with rfl | rfl
        · obtain ⟨a, -, rfl⟩ := w1
          exact ⟨a, rfl⟩
        · obtain ⟨a, rfl, -⟩ := w1
          exact ⟨a, rfl⟩
      obtain ⟨b, rfl⟩ := hor
      refine W.objInit hexec hb hown (hts _ (e12 _ (by simpa using c1))) (hts _ hgl.2.2.2.2.2.2.1) (hts _ hgl.2.2.2.2.2.2.2) rfl ?_ rfl hd (by omega) ?_ (k _ (List.mem_singleton.mpr rfl) H ls vs' locs ⟨ρ, G, N, lv, h1, h2, w2, h4, h5, h6, h7⟩)
      · show ls.size = c.maxLocals
        rw [h1.1, hml]
        exact hnl
      · have hw := ck_words_ok w2 c3
        have hmr : (F0 m pc ls (Value.ref b :: vs')).monitorRoom = 0 := rfl
        rw [hmr, hw]
        omega
    · cases h
  · cases h
end CKFL
end
section
/-! ===== the checker: calls and throws ===== -/
def ck_nm1 (j : Nat) (q : ck_V × ck_V) : Option Nat := match q.1, q.2 with
  | .inr (.inr (1, j')), .inr (.inr (1, i)) => if j' = j then some i else none
  | _, _ => none
def ck_mu1 (T : List ck_C) (ks : List ck_V) (K : ck_Ct) (j : Nat) (μ : List Nat) : Option Nat := match (K.1.zip ks).findSome? (ck_nm1 j) with
  | some i => some i
  | none => (K.2.1.zip μ).findSome? (fun q => match T[q.2]? with
    | some c => (q.1.2.zip c.2).findSome? (ck_nm1 j)
    | none => none)
/-- which of the caller's cells the called one's are -/
def ck_mua (T : List ck_C) (ks : List ck_V) (K : ck_Ct) : List Nat := (List.range K.2.1.length).foldl (fun μ j => match ck_mu1 T ks K j μ with
  | some i => μ ++ [i]
  | none => μ) []
def ck_chk (Km : ck_Ct) (T : List ck_C) (ks rest : List ck_V) (mx ce sl : Nat) (K : ck_Ct) (μ : List Nat) : Bool :=
  decide (K.2.2.2.2.1 + 1 ≤ Km.2.2.2.2.1) && rest.all ck_kn && decide (ck_words rest + (mx + 11) + K.2.2.2.2.2.1 ≤ Km.2.2.2.2.2.1) && decide (ce + K.2.2.2.2.2.2.1 ≤ Km.2.2.2.2.2.2.1) && decide (sl + K.2.2.2.2.2.2.2 ≤ Km.2.2.2.2.2.2.2) && ck_cargs T μ ks K.1 && ck_cpre T μ K.2.1
def ck_cand (Km : ck_Ct) (T : List ck_C) (ks rest : List ck_V) (mx ce sl mi : Nat) : List (Nat × ck_Ct) → Option (ck_Ct × List Nat)
  | [] => none
  | (mj, K) :: t => if mj == mi && ck_chk Km T ks rest mx ce sl K (ck_mua T ks K) then some (K, ck_mua T ks K) else ck_cand Km T ks rest mx ce sl mi t
theorem ck_cand_ok {Km : ck_Ct} {T : List ck_C} {ks rest : List ck_V} {mx ce sl mi : Nat} {K : ck_Ct} {μ : List Nat} : ∀ {cts : List (Nat × ck_Ct)}, ck_cand Km T ks rest mx ce sl mi cts = some (K, μ) → (mi, K) ∈ cts ∧ ck_chk Km T ks rest mx ce sl K μ = true
  | [], h => by cases h
  | (mj, K') :: t, h => by
    unfold ck_cand at h
    split at h
    · rename_i hc
      simp only [Bool.and_eq_true, beq_iff_eq] at hc
      cases h
      exact ⟨by rw [hc.1]; exact List.mem_cons_self, hc.2⟩
    · obtain ⟨a, b⟩ := ck_cand_ok h
      exact ⟨List.mem_cons_of_mem _ a, b⟩
/-- 0 static, 1 virtual, 2 a constructor -/
def ck_ivk (i : Instr) : Option (Nat × Nat) := match i with
  | .invokestatic idx => some (0, idx)
  | .invokevirtual idx => some (1, idx)
  | .invokespecial idx => some (2, idx)
  | _ => none
def ck_rcv (tab : List ck_D) (T : List ck_C) (kd ci : Nat) (ks : List ck_V) : Bool := match kd, ks with
  | 0, _ => true
  | 1, v :: _ => ck_oc tab T v == some ci
  | _, .inr (.inr (1, _)) :: _ => true
  | _, .inr (.inr (2, _)) :: _ => true
  | _, _ => false
def ck_isx (r : Option ck_V ⊕ Nat) (x : Nat) : Bool := match r with
  | .inr y => y == x
  | .inl _ => false
theorem ck_isx_ok {r : Option ck_V ⊕ Nat} {x : Nat} (h : ck_isx r x = true) : r = .inr x := by
  unfold ck_isx at h
  split at h
  · rw [beq_iff_eq.mp h]
  · cases h
def ck_na (kd np : Nat) : Nat := if kd = 0 then np else np + 1
def ck_res (tab : List ck_D) (E : ck_E) (M : ck_M) (Km : ck_Ct) (pc : Nat) (A : List (Nat × ck_V)) (rest : List ck_V) (T : List ck_C) (ce sl : Nat) (K : ck_Ct) (μ : List Nat) : Option (List ck_N) := match K.2.2.2.1 with
  | .inl r => some [(pc + 3, (A, ck_push (ck_f0 T μ) (ck_mu T μ K.2.2.1) r rest, ck_cpost tab T μ K.2.2.1), ce + K.2.2.2.2.2.2.1, sl + K.2.2.2.2.2.2.2)]
  | .inr x => if M.2.2.2.2 = [] then (if ck_isx Km.2.2.2.1 x = true ∧ ck_leT (ck_cpost tab T μ K.2.2.1) Km.2.2.1 = true then some [] else none) else (match ck_fh (ck_xl E) pc x M.2.2.2.2 with
    | some h => if x < 3 then some [(h, (A, [.inr (.inr (4, 0))], ck_cpost tab T μ K.2.2.1), ce + K.2.2.2.2.2.2.1, sl + K.2.2.2.2.2.2.2)] else none
    | none => none)
def ck_cal (E : ck_E) (tab : List ck_D) (ms : List ck_MM) (cts : List (Nat × ck_Ct)) (M : ck_M) (Km : ck_Ct) (i : Instr) (n pc : Nat) (B : ck_A) (ce sl : Nat) : Option (List ck_N) := match ck_ivk i with
  | some (kd, idx) => (match ck_lk (ck_ml E) idx with
    | some mi => (match ms[mi]? with
      | some (M', kd', np, ci) => if n = 3 ∧ kd' = kd ∧ (ck_na kd np) ≤ B.2.1.length ∧ ck_rcv tab B.2.2 kd ci ((B.2.1.take (ck_na kd np)).reverse) = true then (match ck_cand Km B.2.2 ((B.2.1.take (ck_na kd np)).reverse) (B.2.1.drop (ck_na kd np)) M'.2.2.1 ce sl mi cts with
        | some (K, μ) => ck_res tab E M Km pc B.1 (B.2.1.drop (ck_na kd np)) B.2.2 ce sl K μ
        | none => none) else none
      | none => none)
    | none => none)
  | none => none
def ck_thr (E : ck_E) (cod : List (List (Nat × Instr × Nat))) (M : ck_M) (Km : ck_Ct) (i : Instr) (n pc : Nat) (B : ck_A) (ce sl : Nat) : Option (List ck_N) := match i with
  | .new idx => (match ck_lk (ck_xl E) idx with
    | some x => (match ck_cdAt cod (pc + 3), ck_cdAt cod (pc + 4) with
      | some (.dup, 1), some (.ldc si, 2) => (match ck_cdAt cod (pc + 4 + 2), ck_cdAt cod (pc + 4 + 2 + 3) with
        | some (.invokespecial ic, 3), some (.athrow, 1) => if n = 3 ∧ ck_lk (ck_il E) ic = some x ∧ ck_strs.any (fun q => q.1 == E.1 && q.2.1 == si) = true ∧ M.2.2.2.2 = [] ∧ ck_isx Km.2.2.2.1 x = true ∧ ck_leT B.2.2 Km.2.2.1 = true ∧ ce + 1 ≤ Km.2.2.2.2.2.2.1 ∧ sl + 6 ≤ Km.2.2.2.2.2.2.2 ∧ 6 ≤ Km.2.2.2.2.1 ∧ B.2.1.all ck_kn = true ∧ ck_words B.2.1 + 82 ≤ Km.2.2.2.2.2.1 then some [] else none
        | _, _ => none)
      | some (.dup, 1), some (.ldc_w si, 3) => (match ck_cdAt cod (pc + 4 + 3), ck_cdAt cod (pc + 4 + 3 + 3) with
        | some (.invokespecial ic, 3), some (.athrow, 1) => if n = 3 ∧ ck_lk (ck_il E) ic = some x ∧ ck_strs.any (fun q => q.1 == E.1 && q.2.1 == si) = true ∧ M.2.2.2.2 = [] ∧ ck_isx Km.2.2.2.1 x = true ∧ ck_leT B.2.2 Km.2.2.1 = true ∧ ce + 1 ≤ Km.2.2.2.2.2.2.1 ∧ sl + 6 ≤ Km.2.2.2.2.2.2.2 ∧ 6 ≤ Km.2.2.2.2.1 ∧ B.2.1.all ck_kn = true ∧ ck_words B.2.1 + 82 ≤ Km.2.2.2.2.2.1 then some [] else none
        | _, _ => none)
      | _, _ => none)
    | none => none)
  | _ => none
section CKCI
variable {p : Program} {l : Launch} {e : Env} {R : Room} {s : State} {m : MethodId} {args : Array Value} {below : List Frame} {meth : Method} {c : Code} {ce sl : Nat} {Q : State → Prop}
variable {pc nL nS : Nat} {D : va_G} {AC : Nat → ClassId} {S : Nat → Nat} {tab : List ck_D} {L : Heap} {ρ0 : Nat → Int} {G0 : Nat → Nat} {N0 : List Nat} {H0 : Heap}
variable {B : ck_A} {M : ck_M} {K : ck_Ct} {E : ck_E} {ms : List ck_MM} {cts : List (Nat × ck_Ct)} {cod : List (List (Nat × Instr × Nat))}
theorem cw_thr (hy : ck_Hy p l e R s m meth c M K E ms cts tab nS D AC S L cod) (hnl : nL = M.2.2.1) (hQ : ∀ t, ck_Fin D AC S tab L ρ0 G0 N0 K below s t → Q t) {i : Instr} {n : Nat} {X : List ck_N} (hd : decode M.2.1 pc = .ok (i, n)) (h : ck_thr E cod M K i n pc B ce sl = some X) :
    ck_W p l e R s m args below meth c Q D AC S tab L nL ρ0 G0 N0 s.heap pc B ce sl := by
  obtain ⟨⟨hexec, hb, hml, hret, hlk, hown, hhd, hnm⟩, htr, ⟨r1, r2, r3, r4⟩, hKf, hE, hEM, hms, hcts, hgl, hcod⟩ := hy
  obtain ⟨e1, e2, e3, e4, e5, e6, e7, e8, e9, e10, e11, e12⟩ := hE
  rw [← hEM] at hown
  refine ck_W.mono hQ ?_
  have hnil : M.2.2.2.2 = [] → c.exceptionTable.toList = [] := fun hz => by
    rw [hz] at hhd
    exact List.map_eq_nil_iff.mp hhd
  obtain ⟨A, st, T⟩ := B
  unfold ck_thr at h
  split at h
  · rename_i idx
    split at h
    · rename_i x hx
      obtain ⟨x1, x2, x3⟩ := e7 _ (ck_lk_mem hx)
      obtain ⟨g1, g2, g3, g4⟩ := hgl.1 x x2
      split at h
      · rename_i si hdup hldc
        split at h
        · rename_i ic hinv hath
          split at h
          · rename_i hc
            obtain ⟨rfl, c1, c2, c3, c4, c5, c6, c7, c8, c9, c10⟩ := hc
            obtain ⟨⟨o, si', tx⟩, s1, s2⟩ := List.any_eq_true.mp c2
            simp only [Bool.and_eq_true, beq_iff_eq] at s2
            obtain ⟨rfl, rfl⟩ := s2
            exact cw_throw (ll := 2) hexec hb (hml.trans hnl.symm) hlk hown hKf htr g1 x1 g2 g3 s1 (e8 _ (ck_lk_mem c1)) hd (hcod _ _ _ hdup) (Or.inl ⟨hcod _ _ _ hldc, rfl⟩) (hcod _ _ _ hinv) (hcod _ _ _ hath) (hnil c3) (ck_isx_ok c4) c5 c6 c7 r3 r4 (by omega) c9 (by dsimp only at c10; omega)
          · cases h
        · cases h
      · rename_i si hdup hldc
        split at h
        · rename_i ic hinv hath
          split at h
          · rename_i hc
            obtain ⟨rfl, c1, c2, c3, c4, c5, c6, c7, c8, c9, c10⟩ := hc
            obtain ⟨⟨o, si', tx⟩, s1, s2⟩ := List.any_eq_true.mp c2
            simp only [Bool.and_eq_true, beq_iff_eq] at s2
            obtain ⟨rfl, rfl⟩ := s2
            exact cw_throw (ll := 3) hexec hb (hml.trans hnl.symm) hlk hown hKf htr g1 x1 g2 g3 s1 (e8 _ (ck_lk_mem c1)) hd (hcod _ _ _ hdup) (Or.inr ⟨hcod _ _ _ hldc, rfl⟩) (hcod _ _ _ hinv) (hcod _ _ _ hath) (hnil c3) (ck_isx_ok c4) c5 c6 c7 r3 r4 (by omega) c9 (by dsimp only at c10; omega)
          · cases h
        · cases h
      · cases h
    · cases h
  · cases h
theorem ck_oref {ρ : Nat → Int} {G : Nat → Nat} {N : List Nat} {k : ck_V} {w : Value} (h : ck_R S ρ G N k w) (hk : (∃ i, k = .inr (.inr (1, i))) ∨ ∃ τ, k = .inr (.inr (2, τ))) : ∃ b, w = .ref b := by
  rcases hk with ⟨i, rfl⟩ | ⟨τ, rfl⟩
  · obtain ⟨a, -, rfl⟩ := h
    exact ⟨a, rfl⟩
  · obtain ⟨a, rfl, -⟩ := h
    exact ⟨a, rfl⟩
theorem cw_cal (hy : ck_Hy p l e R s m meth c M K E ms cts tab nS D AC S L cod) (hnl : nL = M.2.2.1) (hQ : ∀ t, ck_Fin D AC S tab L ρ0 G0 N0 K below s t → Q t) {i : Instr} {n : Nat} {X : List ck_N} (hd : decode M.2.1 pc = .ok (i, n)) (h : ck_cal E tab ms cts M K i n pc B ce sl = some X)
    (k : ∀ x ∈ X, ck_W p l e R s m args below meth c Q D AC S tab L nL ρ0 G0 N0 s.heap x.1 x.2.1 x.2.2.1 x.2.2.2) : ck_W p l e R s m args below meth c Q D AC S tab L nL ρ0 G0 N0 s.heap pc B ce sl := by
  obtain ⟨⟨hexec, hb, hml, hret, hlk, hown, hhd, hnm⟩, htr, ⟨r1, r2, r3, r4⟩, hKf, hE, hEM, hms, hcts, hgl, hcod⟩ := hy
  have hts : ∀ w ∈ ck_tb, w.before args s = true := hKf.ts
  obtain ⟨e1, e2, e3, e4, e5, e6, e7, e8, e9, e10, e11, e12⟩ := hE
  rw [← hEM] at hown
  have hnil : M.2.2.2.2 = [] → c.exceptionTable.toList = [] := fun hz => by
    rw [hz] at hhd
    exact List.map_eq_nil_iff.mp hhd
  obtain ⟨A, st, T⟩ := B
  unfold ck_cal at h
  split at h
  · rename_i kd idx hivk
    split at h
    · rename_i mi hmi
      split at h
      · rename_i M' kd' np ci hM
        split at h
        · rename_i hc
          obtain ⟨rfl, rfl, hna, hrcv⟩ := hc
          generalize hna' : ck_na kd' np = na at h hna hrcv
          dsimp only at h hna hrcv
          generalize hks : (st.take na).reverse = ks at h hrcv
          split at h
          · rename_i K' μ hcand
            obtain ⟨hin, hchk⟩ := ck_cand_ok hcand
            obtain ⟨M2, hM2, hO⟩ := hcts _ hin
            cases hM.symm.trans hM2
            replace hO : ck_Ok l tab nS M' K' := hO
            obtain ⟨hcc, hpl, hnp, hnh, hkd⟩ := hms _ (List.mem_of_getElem? hM)
            obtain ⟨M3, hM3, hlink⟩ := e9 _ (ck_lk_mem hmi)
            cases hM.symm.trans hM3
            dsimp only at hcc hpl hnp hnh hkd hlink
            have hcode : (Cond.codeWith M'.1 M'.2.1 M'.2.2.1 M'.2.2.2.1 M'.2.2.2.2).before args s = true := by
              rcases hcc with ⟨z1, z2⟩ | z
              · rw [z1]; exact ck_codeW (hts _ z2)
              · exact hts _ z
            have hlk' : (Cond.methodLink E.1 idx M'.1).before args s = true ∨ ∃ host, (Cond.methodLinkNest E.1 idx M'.1 host).before args s = true := by
              rcases hlink with z | ⟨host, z⟩
              · exact Or.inl (hts _ z)
              · exact Or.inr ⟨host, hts _ z⟩
            unfold ck_chk at hchk
            simp only [Bool.and_eq_true, decide_eq_true_eq] at hchk
            obtain ⟨⟨⟨⟨⟨⟨q1, q2⟩, q3⟩, q4⟩, q5⟩, q6⟩, q7⟩ := hchk
            have hst : st = ks.reverse ++ st.drop na := by
              rw [← hks, List.reverse_reverse, List.take_append_drop]
            have hkl : ks.length = na := by rw [← hks]; simp; omega
            have hinv : ∀ {U : State} {H : Heap} {ls : Array Slot} {vs rest : List Value} {locs : List Loc} {ρ : Nat → Int} {G : Nat → Nat} {N : List Nat}, U.heap = H → Stand p l e R s m args below meth c U locs ce sl → ck_H D AC S tab L ρ G N T H → ck_all (ck_R S ρ G N) ks vs → ck_Inv p l e R s m args below meth c locs ce sl U M'.1 (F0 m pc ls (vs.reverse ++ rest)) rest vs.toArray := by
              intro U H ls vs rest locs ρ G N hU X0 h4 hv
              match kd', hkd, hivk, hna', hrcv with
              | 0, hkd, hivk, hna', hrcv =>
                have hi : i = .invokestatic idx := by
                  unfold ck_ivk at hivk
                  split at hivk <;> cases hivk
                  rfl
                rw [hi] at hd
                exact ck_invS X0 hexec hown hcode hlk' (hts _ hkd.1) (hts _ hkd.2) hnh rfl hnp (by rw [← hv.1, hkl, ← hna']; rfl) rfl (by rw [hb]; exact hd)
              | 1, hkd, hivk, hna', hrcv =>
                have hi : i = .invokevirtual idx := by
                  unfold ck_ivk at hivk
                  split at hivk <;> cases hivk
                  rfl
                rw [hi] at hd
                match ks, hv, hkl, hrcv with
                | k0 :: ks', hv, hkl, hrcv =>
                  obtain ⟨v0, vs', rfl, w1, w2⟩ := hv.uncons
                  have hoc : ck_oc tab T k0 = some ci := by simpa [ck_rcv] using hrcv
                  obtain ⟨b, us, rfl, C, TT, hcl, cell, o1, o2⟩ := ck_obj h4 w1 (ck_oc_ok hoc)
                  obtain ⟨hk1, hk2, TT', n', hk3⟩ := hkd
                  cases hcl.symm.trans hk3
                  obtain ⟨hS, hfc, -⟩ := hKf.1.1 ci _ hcl
                  refine ck_invV (b := b) (cellB := cell) X0 hexec hown hcode hlk' (hts _ hk1) (hts _ hk2) hnh (by rw [hU]; exact o1) ?_ ?_ rfl hnp (argsL := vs') (by
                    have := w2.1
                    simp [ck_na] at hkl hna'
                    omega) (by simp [F0]) (by rw [hb]; exact hd)
                  · rw [o2.2.1]; rfl
                  · rw [o2.1]; exact hfc
              | kq + 2, hkd, hivk, hna', hrcv =>
                have hi : i = .invokespecial idx := by
                  unfold ck_ivk at hivk
                  split at hivk <;> cases hivk
                  rfl
                rw [hi] at hd
                match ks, hv, hkl, hrcv with
                | k0 :: ks', hv, hkl, hrcv =>
                  obtain ⟨v0, vs', rfl, w1, w2⟩ := hv.uncons
                  have hor : ∃ b, v0 = .ref b := by
                    refine ck_oref w1 ?_
                    unfold ck_rcv at hrcv
                    split at hrcv
                    · rename_i z; cases z
                    · omega
                    · rename_i z _ _; cases z; exact Or.inl ⟨_, rfl⟩
                    · rename_i z _ _; cases z; exact Or.inr ⟨_, rfl⟩
                    · cases hrcv
                  obtain ⟨b, rfl⟩ := hor
                  obtain ⟨hk1, hk2, hk3⟩ := hkd
                  exact ck_invI X0 hexec hown (hts _ hk3) hlk' (hts _ hk1) hk2 hnh rfl hnp (argsL := vs') (by
                    have := w2.1
                    simp [ck_na] at hkl hna'
                    omega) (by simp [F0]) (by rw [hb]; exact hd)
            rw [hst]
            unfold ck_res at h
            split at h
            · rename_i r hres
              cases h
              exact cw_call hO hres hexec hb (hml.trans hnl.symm) hd hKf htr hcode hpl hinv (by omega) q2 (by omega) (by omega) (by omega) q7 q6 (k _ (List.mem_singleton.mpr rfl))
            · rename_i x hres
              split at h
              · rename_i hz
                split at h
                · rename_i hx
                  exact ck_W.mono hQ (cw_callX hO hres hexec hb (hml.trans hnl.symm) hlk hd hKf htr hcode hpl hinv (by omega) q2 (by omega) (by omega) (by omega) q7 q6 (ck_isx_ok hx.1) (hnil hz) hx.2 q4 q5)
                · cases h
              · split at h
                · rename_i hpc hfh
                  split at h
                  · rename_i hx3
                    cases h
                    exact cw_callC hO hres hexec hb (hml.trans hnl.symm) hown hd hKf htr hcode hpl hinv (by omega) q2 (by omega) (by omega) (by omega) q7 q6 hhd hfh e7 hx3 (hgl.1 x hx3).2.2.2 (k _ (List.mem_singleton.mpr rfl))
                  · cases h
                · cases h
          · cases h
        · cases h
      · cases h
    · cases h
  · cases h
end CKCI
end
section
/-! ===== the checker: one instruction ===== -/
section CKSTD
variable (E : ck_E) (tab : List ck_D) (nS : Nat) (ms : List ck_MM) (cts : List (Nat × ck_Ct)) (nt : List (Nat × Nat × Nat)) (cod : List (List (Nat × Instr × Nat))) (M : ck_M) (K : ck_Ct)
def ck_s5 (i : Instr) (pc : Nat) (A : List (Nat × ck_V)) (st : List ck_V) (T : List ck_C) (ce sl : Nat) : Option (List ck_N) := match st with
  | .inl q :: rf :: r => (match ck_ld tab nS T i q rf with
    | some v => some [(pc + 1, (A, v :: r, T), ce, sl)]
    | none => none)
  | _ => none
def ck_s4 (i : Instr) (pc : Nat) (A : List (Nat × ck_V)) (st : List ck_V) (T : List ck_C) (ce sl : Nat) : Option (List ck_N) := match st with
  | v :: .inl q :: rf :: r => (match ck_as tab T i v q rf with
    | some T' => some [(pc + 1, (A, r, T'), ce, sl)]
    | none => ck_s5 tab nS i pc A (v :: .inl q :: rf :: r) T ce sl)
  | st => ck_s5 tab nS i pc A st T ce sl
def ck_s3 (i : Instr) (pc : Nat) (A : List (Nat × ck_V)) (st : List ck_V) (T : List ck_C) (ce sl : Nat) : Option (List ck_N) := match st with
  | .inl b :: .inl a :: r => (match ck_bin i a b with
    | some w => some [(pc + 1, (A, w :: r, T), ce, sl)]
    | none => ck_s4 tab nS i pc A (.inl b :: .inl a :: r) T ce sl)
  | .inr (.inl b) :: .inr (.inl a) :: r => (match ck_jb i a b with
    | some w => some [(pc + 1, (A, .inr (.inl w) :: r, T), ce, sl)]
    | none => ck_s4 tab nS i pc A (.inr (.inl b) :: .inr (.inl a) :: r) T ce sl)
  | .inl b :: .inr (.inl a) :: r => (match ck_js i a with
    | some w => some [(pc + 1, (A, .inr (.inl w) :: r, T), ce, sl)]
    | none => ck_s4 tab nS i pc A (.inl b :: .inr (.inl a) :: r) T ce sl)
  | st => ck_s4 tab nS i pc A st T ce sl
def ck_s2x (i : Instr) (n pc : Nat) (A : List (Nat × ck_V)) (st : List ck_V) (T : List ck_C) (ce sl : Nat) : Option (List ck_N) := match ck_psh (ck_kl E) (ck_jl E) A i n with
  | some v => some [(pc + n, (A, v :: st, T), ce, sl)]
  | none => (match st with
    | [] => none
    | v :: r => (match ck_sto M.2.2.1 i n A v with
      | some A' => some [(pc + n, ck_tgS (A', r, T), ce, sl)]
      | none => if n = 1 then (match ck_stk i (v :: r) with
        | some st' => some [(pc + 1, (A, st', T), ce, sl)]
        | none => ck_s3 tab nS i pc A (v :: r) T ce sl) else none))
def ck_gp (i : Instr) (n pc : Nat) (B : ck_A) (ce sl : Nat) : Option (List ck_N) := match i, B with
  | .getfield idx, (A, r :: st, T) => if n = 3 then (match ck_gf tab (ck_fl E) T idx r with
    | some v => some [(pc + 3, (A, v :: st, T), ce, sl)]
    | none => none) else none
  | .putfield idx, (A, v :: r :: st, T) => if n = 3 then (match ck_pf tab (ck_fl E) E.1 M.1.name T idx v r with
    | some T' => some [(pc + 3, (A, st, T'), ce, sl)]
    | none => none) else none
  | .arraylength, (A, r :: st, T) => if n = 1 then (match ck_len tab nS T r with
    | some v => some [(pc + 1, (A, v :: st, T), ce, sl)]
    | none => none) else none
  | .lcmp, (A, .inr (.inl b) :: .inr (.inl a) :: st, T) => if n = 1 then some [(pc + 1, (A, ck_lcmp a b :: st, T), ce, sl)] else none
  | _, _ => none
/-- which of the groups an instruction belongs to -/
def ck_grp (i : Instr) : Nat := match i with
  | .goto _ => 1
  | .ifCond _ _ => 1
  | .if_icmp _ _ => 1
  | .iinc _ _ => 1
  | .tableswitch _ _ _ _ => 1
  | .return_ => 2
  | .ireturn => 2
  | .lreturn => 2
  | .areturn => 2
  | .newarray _ => 3
  | .anewarray _ => 3
  | .multianewarray _ _ => 3
  | .getstatic _ => 3
  | .new _ => 4
  | .invokestatic _ => 5
  | .invokevirtual _ => 5
  | .invokespecial _ => 5
  | .getfield _ => 6
  | .putfield _ => 6
  | .arraylength => 6
  | .lcmp => 6
  | _ => 0
def ck_or {α : Type} (a b : Option α) : Option α := match a with
  | some x => some x
  | none => b
def ck_step (x : ck_N) : Option (List ck_N) := match ck_cdAt cod x.1 with
  | none => none
  | some (i, n) => (match ck_grp i with
    | 0 => ck_s2x E tab nS M i n x.1 x.2.1.1 x.2.1.2.1 x.2.1.2.2 x.2.2.1 x.2.2.2
    | 1 => ck_br M.2.2.1 i n x.1 x.2.1 x.2.2.1 x.2.2.2
    | 2 => if ck_rt M K i n x.2.1 x.2.2.1 x.2.2.2 = true then some [] else none
    | 3 => ck_alc E tab nt K i n x.1 x.2.1 x.2.2.1 x.2.2.2
    | 4 => ck_or (ck_alc E tab nt K i n x.1 x.2.1 x.2.2.1 x.2.2.2) (ck_thr E cod M K i n x.1 x.2.1 x.2.2.1 x.2.2.2)
    | 5 => ck_or (ck_cpy E tab nS K i n x.1 x.2.1 x.2.2.1 x.2.2.2) (ck_or (ck_obi E K i n x.1 x.2.1 x.2.2.1 x.2.2.2) (ck_cal E tab ms cts M K i n x.1 x.2.1 x.2.2.1 x.2.2.2))
    | _ => ck_gp E tab nS M i n x.1 x.2.1 x.2.2.1 x.2.2.2)
end CKSTD
section CKSTP
variable {p : Program} {l : Launch} {e : Env} {R : Room} {s : State} {m : MethodId} {args : Array Value} {below : List Frame} {meth : Method} {c : Code} {ce sl : Nat} {Q : State → Prop}
variable {pc nS : Nat} {D : va_G} {AC : Nat → ClassId} {S : Nat → Nat} {tab : List ck_D} {L : Heap} {ρ0 : Nat → Int} {G0 : Nat → Nat} {N0 : List Nat} {H0 : Heap}
variable {A : List (Nat × ck_V)} {st : List ck_V} {T : List ck_C} {M : ck_M} {K : ck_Ct} {E : ck_E} {ms : List ck_MM} {cts : List (Nat × ck_Ct)} {cod : List (List (Nat × Instr × Nat))} {nt : List (Nat × Nat × Nat)}
theorem cw_s5 (hy : ck_Hy p l e R s m meth c M K E ms cts tab nS D AC S L cod) {i : Instr} {X : List ck_N} (hd : decode M.2.1 pc = .ok (i, 1)) (h : ck_s5 tab nS i pc A st T ce sl = some X)
    (k : ∀ x ∈ X, ck_W p l e R s m args below meth c Q D AC S tab L M.2.2.1 ρ0 G0 N0 H0 x.1 x.2.1 x.2.2.1 x.2.2.2) : ck_W p l e R s m args below meth c Q D AC S tab L M.2.2.1 ρ0 G0 N0 H0 pc (A, st, T) ce sl := by
  obtain ⟨⟨hexec, hb, hml, hret, hlk, hown, hhd, hnm⟩, htr, -, hKf, -⟩ := hy
  unfold ck_s5 at h
  split at h
  · split at h
    · rename_i v hv
      cases h
      exact cw_ld hexec hb hKf hd hv (k _ (List.mem_singleton.mpr rfl))
    · cases h
  · cases h
theorem cw_s4 (hy : ck_Hy p l e R s m meth c M K E ms cts tab nS D AC S L cod) {i : Instr} {X : List ck_N} (hd : decode M.2.1 pc = .ok (i, 1)) (h : ck_s4 tab nS i pc A st T ce sl = some X)
    (k : ∀ x ∈ X, ck_W p l e R s m args below meth c Q D AC S tab L M.2.2.1 ρ0 G0 N0 H0 x.1 x.2.1 x.2.2.1 x.2.2.2) : ck_W p l e R s m args below meth c Q D AC S tab L M.2.2.1 ρ0 G0 N0 H0 pc (A, st, T) ce sl := by
  have hy' := hy
  obtain ⟨⟨hexec, hb, hml, hret, hlk, hown, hhd, hnm⟩, htr, -, hKf, -⟩ := hy
  unfold ck_s4 at h
  split at h
  · split at h
    · rename_i v hv
      cases h
      exact cw_as hexec hb hKf hd hv (k _ (List.mem_singleton.mpr rfl))
    · exact cw_s5 hy' hd h k
  · exact cw_s5 hy' hd h k
theorem cw_s3 (hy : ck_Hy p l e R s m meth c M K E ms cts tab nS D AC S L cod) {i : Instr} {X : List ck_N} (hd : decode M.2.1 pc = .ok (i, 1)) (h : ck_s3 tab nS i pc A st T ce sl = some X)
    (k : ∀ x ∈ X, ck_W p l e R s m args below meth c Q D AC S tab L M.2.2.1 ρ0 G0 N0 H0 x.1 x.2.1 x.2.2.1 x.2.2.2) : ck_W p l e R s m args below meth c Q D AC S tab L M.2.2.1 ρ0 G0 N0 H0 pc (A, st, T) ce sl := by
  have hy' := hy
  obtain ⟨⟨hexec, hb, hml, hret, hlk, hown, hhd, hnm⟩, htr, -, hKf, -⟩ := hy
  unfold ck_s3 at h
  split at h
  · split at h
    · rename_i v hv
      cases h
      exact cw_bin hexec hb hd hv (k _ (List.mem_singleton.mpr rfl))
    · exact cw_s4 hy' hd h k
  · split at h
    · rename_i v hv
      cases h
      exact cw_jb hexec hb hd hv (k _ (List.mem_singleton.mpr rfl))
    · exact cw_s4 hy' hd h k
  · split at h
    · rename_i v hv
      cases h
      exact cw_js hexec hb hd hv (k _ (List.mem_singleton.mpr rfl))
    · exact cw_s4 hy' hd h k
  · exact cw_s4 hy' hd h k
theorem cw_s2x (hy : ck_Hy p l e R s m meth c M K E ms cts tab nS D AC S L cod) {i : Instr} {n : Nat} {X : List ck_N} (hd : decode M.2.1 pc = .ok (i, n)) (h : ck_s2x E tab nS M i n pc A st T ce sl = some X)
    (k : ∀ x ∈ X, ck_W p l e R s m args below meth c Q D AC S tab L M.2.2.1 ρ0 G0 N0 H0 x.1 x.2.1 x.2.2.1 x.2.2.2) : ck_W p l e R s m args below meth c Q D AC S tab L M.2.2.1 ρ0 G0 N0 H0 pc (A, st, T) ce sl := by
  have hy' := hy
  obtain ⟨⟨hexec, hb, hml, hret, hlk, hown, hhd, hnm⟩, htr, -, hKf, hE, hEM, -⟩ := hy
  have hts : ∀ w ∈ ck_tb, w.before args s = true := hKf.ts
  rw [← hEM] at hown
  unfold ck_s2x at h
  split at h
  · rename_i v hv
    cases h
    exact cw_psh hexec hb hown (fun q hq => by obtain ⟨v, v1, v2⟩ := hE.2.1 q hq; exact ⟨v, v1, hts _ v2⟩) (fun q hq => by obtain ⟨v, v1, v2⟩ := hE.2.2.1 q hq; exact ⟨v, v1, hts _ v2⟩) hd hv (k _ (List.mem_singleton.mpr rfl))
  · split at h
    · cases h
    · split at h
      · rename_i A' hA
        cases h
        exact cw_sto hexec hb hd hA (cw_tgS (k _ (List.mem_singleton.mpr rfl)))
      · split at h
        · rename_i hn
          subst hn
          split at h
          · rename_i st' hst
            cases h
            exact cw_stks hexec hb hd hst (k _ (List.mem_singleton.mpr rfl))
          · exact cw_s3 hy' hd h k
        · cases h
theorem cw_gp (hy : ck_Hy p l e R s m meth c M K E ms cts tab nS D AC S L cod) {i : Instr} {n : Nat} {B : ck_A} {X : List ck_N} (hd : decode M.2.1 pc = .ok (i, n)) (h : ck_gp E tab nS M i n pc B ce sl = some X)
    (k : ∀ x ∈ X, ck_W p l e R s m args below meth c Q D AC S tab L M.2.2.1 ρ0 G0 N0 H0 x.1 x.2.1 x.2.2.1 x.2.2.2) : ck_W p l e R s m args below meth c Q D AC S tab L M.2.2.1 ρ0 G0 N0 H0 pc B ce sl := by
  obtain ⟨⟨hexec, hb, hml, hret, hlk, hown, hhd, hnm⟩, htr, -, hKf, hE, hEM, -⟩ := hy
  have hts : ∀ w ∈ ck_tb, w.before args s = true := hKf.ts
  rw [← hEM] at hown
  unfold ck_gp at h
  split at h
  · split at h
    · rename_i hn
      subst hn
      split at h
      · rename_i v hv
        cases h
        exact cw_gf hexec hb hown hKf.1 hts hE.1 hd hv (k _ (List.mem_singleton.mpr rfl))
      · cases h
    · cases h
  · split at h
    · rename_i hn
      subst hn
      split at h
      · rename_i v hv
        cases h
        exact cw_pf hexec hb hown hKf.1 hts hnm hE.1 hd hv (k _ (List.mem_singleton.mpr rfl))
      · cases h
    · cases h
  · split at h
    · rename_i hn
      subst hn
      split at h
      · rename_i v hv
        cases h
        exact cw_len hexec hb hKf hd hv (k _ (List.mem_singleton.mpr rfl))
      · cases h
    · cases h
  · split at h
    · rename_i hn
      subst hn
      cases h
      exact cw_lcmp hexec hb hd (k _ (List.mem_singleton.mpr rfl))
    · cases h
  · cases h
theorem cw_step (hy : ck_Hy p l e R s m meth c M K E ms cts tab nS D AC S L cod) (hQ : ∀ t, ck_Fin D AC S tab L ρ0 G0 N0 K below s t → Q t) {x : ck_N} {X : List ck_N} (h : ck_step E tab nS ms cts nt cod M K x = some X)
    (k : ∀ x ∈ X, ck_W p l e R s m args below meth c Q D AC S tab L M.2.2.1 ρ0 G0 N0 s.heap x.1 x.2.1 x.2.2.1 x.2.2.2) : ck_W p l e R s m args below meth c Q D AC S tab L M.2.2.1 ρ0 G0 N0 s.heap x.1 x.2.1 x.2.2.1 x.2.2.2 := by
  have hcod := hy.2.2.2.2.2.2.2.2.2
  unfold ck_step at h
  split at h
  · cases h
  · rename_i i n hi
    have hd := hcod _ _ _ hi
    split at h
    · exact cw_s2x hy hd h k
    · exact cw_br hy hd h k
    · split at h
      · rename_i hr
        exact cw_rt hy hd hr hQ
      · cases h
    · exact cw_alc hy hd h k
    · unfold ck_or at h
      split at h
      · rename_i z hz
        cases h
        exact cw_alc hy hd hz k
      · exact cw_thr hy rfl hQ hd h
    · unfold ck_or at h
      split at h
      · rename_i z hz
        cases h
        exact cw_cpy hy rfl hd hz k
      · split at h
        · rename_i z hz
          cases h
          exact cw_obi hy rfl hd hz k
        · exact cw_cal hy rfl hQ hd h k
    · exact cw_gp hy hd h k
end CKSTP
end
section
/-! ===== the checker: what is done between instructions ===== -/
def ck_tagK (T : List ck_C) (i k g : Nat) : Option (List ck_C) := match T[i]? with
  | some (h, fs) => (match fs[k]? with
    | some (.inl (lo, hi, none)) => if h.1 = 0 ∨ h.1 = 1 ∨ h.1 = 3 ∨ h.1 = 5 then some (T.set i (h, fs.set k (.inl (lo, hi, some (g, 0))))) else none
    | _ => none)
  | none => none
def ck_ph (φ : List (Nat × Nat)) (τ : Nat) : Nat := match ck_lk φ τ with
  | some σ => σ
  | none => τ
def ck_mp (φ : List (Nat × Nat)) : ck_V → ck_V
  | .inr (.inr (2, τ)) => .inr (.inr (2, ck_ph φ τ))
  | x => x
def ck_mpC (φ : List (Nat × Nat)) (c : ck_C) : ck_C := if c.1.1 = 3 then ((2, 0), []) else (c.1, c.2.map (ck_mp φ))
/-- a type, made wider -/
def ck_wid (φ : List (Nat × Nat)) : ck_D → ck_D → Bool
  | .inl (ac, n, sg), .inl (ac', n', sg') => ac == ac' && n == n' && ((sg.length == sg'.length && (sg.zip sg').all (fun q => q.1.1 == q.2.1 && ck_le (ck_mp φ q.1.2) q.2.2)) || (match sg' with
    | [(b, k)] => decide (n ≤ b) && ck_plain k && sg.any (fun q => decide (n ≤ q.1)) && sg.all (fun q => ck_le (ck_mp φ q.2) k && ck_plain q.2)
    | _ => false))
  | .inr (ci, ks), .inr (ci', ks') => ci == ci' && ks.length == ks'.length && (ks.zip ks').all (fun q => ck_le (ck_mp φ q.1) q.2 && ck_plain q.1 && ck_plain q.2)
  | _, _ => false
def ck_rty (tab : List ck_D) (φ : List (Nat × Nat)) : Bool := ck_ph φ 0 == 0 && (List.range tab.length).all (fun τ => τ == 0 || (!(ck_ph φ τ == 0) && (match tab[τ]?, tab[ck_ph φ τ]? with
  | some d, some d' => ck_wid φ d d'
  | _, _ => false)))
def ck_nrf (n : Nat) : ck_V → Bool
  | .inr (.inr (1, i)) => decide (i < n)
  | _ => true
/-- the cells behind the first n are named no more -/
def ck_drp (n : Nat) (B : ck_A) : ck_A := (B.1.map (fun q => (q.1, ck_unf B.2.2 q.2)), B.2.1.map (ck_unf B.2.2), (B.2.2.map (fun c => (c.1, c.2.map (ck_unf B.2.2)))).take n)
def ck_drok (n : Nat) (B : ck_A) : Bool := B.1.all (fun q => ck_nrf n q.2) && B.2.1.all (ck_nrf n) && B.2.2.all (fun c => c.2.all (ck_nrf n))
abbrev ck_O : Type := Nat × Nat × Nat × Int × List (Nat × Nat)
def ck_op1 (tab : List ck_D) (np : Nat) (lw : Bool) (o : ck_O) (B : ck_A) : Option (List ck_A) := match o.1 with
  | 0 => (match B.2.2[o.2.1]? with
    | some d => if ck_fitsT tab o.2.1 o.2.2.1 d = true ∧ o.2.2.1 ≠ 0 ∧ np ≤ o.2.1 then some [ck_clo o.2.1 o.2.2.1 B] else none
    | none => none)
  | 1 => (match ck_loc B.1 o.2.1 with
    | some (.inr (.inr (2, τ))) => (match tab[τ]? with
      | some (.inr (_, ks)) => if ks.all ck_plain = true then some [(ck_setl B.1 o.2.1 (.inr (.inr (1, B.2.2.length))), B.2.1, B.2.2 ++ [((3, τ), ks)])] else none
      | _ => none)
    | _ => none)
  | 2 => (match B.2.2[o.2.1]? with
    | some (h, fs) => (match fs[o.2.2.1]? with
      | some (.inl q) => if q.1 ≤ o.2.2.2.1 ∧ o.2.2.2.1 < q.2.1 then some [(B.1, B.2.1, B.2.2.set o.2.1 (h, fs.set o.2.2.1 (.inl (q.1, o.2.2.2.1, q.2.2)))), (B.1, B.2.1, B.2.2.set o.2.1 (h, fs.set o.2.2.1 (.inl (o.2.2.2.1 + 1, q.2.1, q.2.2))))] else some [B]
      | _ => none)
    | none => none)
  | 3 => (match ck_loc B.1 o.2.1 with
    | some (.inl q) => if q.1 ≤ o.2.2.2.1 ∧ o.2.2.2.1 < q.2.1 then some [(ck_setl B.1 o.2.1 (.inl (q.1, o.2.2.2.1, q.2.2)), B.2.1, B.2.2), (ck_setl B.1 o.2.1 (.inl (o.2.2.2.1 + 1, q.2.1, q.2.2)), B.2.1, B.2.2)] else some [B]
    | _ => none)
  | 4 => if ck_ugA o.2.2.2.1.toNat B = false ∧ 200 ≤ o.2.2.2.1.toNat then (match ck_tagK B.2.2 o.2.1 o.2.2.1 o.2.2.2.1.toNat with
    | some T' => some [(B.1, B.2.1, T')]
    | none => none) else none
  | 5 => if lw = true ∧ ck_rty tab o.2.2.2.2 = true then some [(B.1.map (fun q => (q.1, ck_mp o.2.2.2.2 q.2)), B.2.1.map (ck_mp o.2.2.2.2), B.2.2.map (ck_mpC o.2.2.2.2))] else none
  | 6 => (match B.2.1[o.2.1]? with
    | some (.inr (.inr (1, i))) => (match B.2.2[i]? with
      | some d => if ck_fitsT tab i o.2.2.1 d = true ∧ o.2.2.1 ≠ 0 ∧ np ≤ i then some [ck_clo i o.2.2.1 B] else none
      | none => none)
    | _ => none)
  | 7 => if ck_drok o.2.1 (ck_drp o.2.1 B) = true ∧ np ≤ o.2.1 ∧ o.2.1 ≤ B.2.2.length then some [ck_drp o.2.1 B] else none
  | _ => none
def ck_alT {α : Type} (p : α → Bool) : List α → Bool
  | [] => true
  | [y] => p y
  | y :: z :: t => (match p y with
    | true => ck_alT p (z :: t)
    | false => false)
theorem ck_alT_ok {α : Type} {p : α → Bool} : ∀ {X : List α}, ck_alT p X = true → ∀ y ∈ X, p y = true
  | [], _, y, hy => by cases hy
  | [x], h, y, hy => by
    rw [List.mem_singleton] at hy
    rw [hy]
    exact h
  | x :: z :: t, h, y, hy => by
    unfold ck_alT at h
    split at h
    · rename_i hx
      rcases List.mem_cons.mp hy with rfl | hy
      · exact hx
      · exact ck_alT_ok h y hy
    · cases h
def ck_opsK (tab : List ck_D) (np : Nat) (lw : Bool) (k : ck_A → Bool) : List ck_O → ck_A → Bool
  | [], B => k B
  | o :: t, B => (match ck_op1 tab np lw o B with
    | some Bs => ck_alT (ck_opsK tab np lw k t) Bs
    | none => false)
section CKOP
variable {p : Program} {l : Launch} {e : Env} {R : Room} {s : State} {m : MethodId} {args : Array Value} {below : List Frame} {meth : Method} {c : Code} {ce sl : Nat} {Q : State → Prop}
variable {pc nL nS : Nat} {D : va_G} {AC : Nat → ClassId} {S : Nat → Nat} {tab : List ck_D} {L : Heap} {ρ0 : Nat → Int} {G0 : Nat → Nat} {N0 : List Nat} {H0 : Heap}
variable {A : List (Nat × ck_V)} {st : List ck_V} {T : List ck_C}
theorem ck_vals3 {ρ : Nat → Int} {G : Nat → Nat} {N : List Nat} {H : Heap} {τ a : Nat} {fs : List ck_V} (h : ck_tc D AC S tab L ρ G N H ((3, τ), fs) a) : ∃ f : Nat → Value, (∀ (j : Nat) (v : ck_V), fs[j]? = some v → ck_R S ρ G N v (f j)) ∧ ∀ (ρ' : Nat → Int) (fs' : List ck_V), fs'.length = fs.length → (∀ (j : Nat) (v : ck_V), fs'[j]? = some v → ck_R S ρ' G N v (f j)) → ck_tc D AC S tab L ρ' G N H ((3, τ), fs') a := by
  obtain ⟨l1, l2, ci, ks, vs, z0, z1, z2⟩ := h
  dsimp only at z2
  refine ⟨fun j => vs.getD j .null, fun j v hj => ?_, fun ρ' fs' e2 hc => ?_⟩
  · obtain ⟨b, y1, y2⟩ := z2.get hj
    show ck_R S ρ G N v (vs.getD j .null)
    rw [List.getD_eq_getElem?_getD, y1]
    exact y2
  · refine ⟨l1, l2, ci, ks, vs, z0, z1, by dsimp only; rw [e2]; exact z2.1, fun j x y hx hy => ?_⟩
    have : ck_R S ρ' G N x (vs.getD j .null) := hc j x hx
    rw [List.getD_eq_getElem?_getD, hy] at this
    exact this
/-- a ghost for a number in a named cell -/
theorem cw_tagK {B : ck_A} {i k g : Nat} {T' : List ck_C} (hg : ck_ugA g B = false) (hr : g < 100 ∨ 200 ≤ g) (ht : ck_tagK B.2.2 i k g = some T')
    (kk : ck_W p l e R s m args below meth c Q D AC S tab L nL ρ0 G0 N0 H0 pc (B.1, B.2.1, T') ce sl) : ck_W p l e R s m args below meth c Q D AC S tab L nL ρ0 G0 N0 H0 pc B ce sl := by
  obtain ⟨A, st, T⟩ := B
  intro H ls vs locs h
  obtain ⟨ρ, G, N, lv, h1, h2, h3, h4, h5, h6, h7⟩ := h
  dsimp only at h2 h3 h4 h5 ht kk
  unfold ck_tagK at ht
  split at ht
  · rename_i hh fs hi
    split at ht
    · rename_i lo hi' hk
      split at ht
      · rename_i hkind
        cases ht
        have hil : i < T.length := (List.getElem?_eq_some_iff.mp hi).1
        have hkl : k < fs.length := (List.getElem?_eq_some_iff.mp hk).1
        have hNl : i < N.length := by have := h4.2.1; omega
        obtain ⟨a, ha⟩ : ∃ a, N[i]? = some a := ⟨N[i], List.getElem?_eq_getElem hNl⟩
        have htc := h4.2.2.1 i _ a hi ha
        have hval : ∃ f : Nat → Value, (∀ (j : Nat) (v : ck_V), fs[j]? = some v → ck_R S ρ G N v (f j)) ∧ ∀ (ρ' : Nat → Int) (fs' : List ck_V), fs'.length = fs.length → (∀ (j : Nat) (v : ck_V), fs'[j]? = some v → ck_R S ρ' G N v (f j)) → ck_tc D AC S tab L ρ' G N H (hh, fs') a := by
          obtain ⟨h01, h02⟩ := hh
          dsimp only at hkind
          rcases hkind with rfl | rfl | rfl | rfl
          · obtain ⟨f, f1, f2⟩ := ck_vals htc (Or.inl rfl)
            exact ⟨f, f1, fun ρ' fs' e1 e2 => f2 ρ' N (_, fs') rfl e1 e2⟩
          · obtain ⟨f, f1, f2⟩ := ck_vals htc (Or.inr (Or.inl rfl))
            exact ⟨f, f1, fun ρ' fs' e1 e2 => f2 ρ' N (_, fs') rfl e1 e2⟩
          · exact ck_vals3 htc
          · obtain ⟨f, f1, f2⟩ := ck_vals htc (Or.inr (Or.inr rfl))
            exact ⟨f, f1, fun ρ' fs' e1 e2 => f2 ρ' N (_, fs') rfl e1 e2⟩
        obtain ⟨f, f1, f2⟩ := hval
        obtain ⟨x, ex, x1, x2, -⟩ := f1 k _ hk
        unfold ck_ugA at hg
        simp only [Bool.or_eq_false_iff] at hg
        obtain ⟨⟨g1, g2⟩, g3⟩ := hg
        have hρ : ∀ h, h ≠ g → (fun h => if h = g then x.toInt else ρ h) h = ρ h := fun h hne => by simp [hne]
        have gcell : ∀ (d : ck_C), d ∈ T → ∀ v ∈ d.2, ck_ug g v = false := fun d hd v hv => by
          have h9 : ¬ (d.2.any (ck_ug g) = true) := List.any_eq_false.mp g3 d hd
          have h8 : d.2.any (ck_ug g) = false := by simpa using h9
          simpa using List.any_eq_false.mp h8 v hv
        refine kk H ls vs locs ⟨fun h => if h = g then x.toInt else ρ h, G, N, lv, h1, h2.mono (fun q w hq hw => ⟨hw.1, hw.2.ghost hρ (by simpa using List.any_eq_false.mp g1 q hq)⟩), h3.mono (fun k v hk hv => hv.ghost hρ (by simpa using List.any_eq_false.mp g2 k hk)), ⟨h4.1, by simp [h4.2.1], fun j d b hj hb => ?_, fun j1 j2 d1 d2 b e1 e2 o1 o2 n1 n2 => ?_⟩, ?_, h6, fun h a1 a2 => ?_⟩
        · by_cases e : i = j
          · subst e
            rw [List.getElem?_set_self hil] at hj
            cases hj
            cases ha.symm.trans hb
            refine f2 _ _ (by simp) fun j v hv => ?_
            by_cases e : k = j
            · subst e
              rw [List.getElem?_set_self hkl] at hv
              cases hv
              refine ⟨x, ex, x1, x2, fun g' c' hg' => ?_⟩
              cases hg'
              show x.toInt = (if g = g then x.toInt else ρ g) + 0
              rw [if_pos rfl]
              omega
            · rw [List.getElem?_set_ne e] at hv
              exact (f1 j v hv).ghost hρ (gcell _ (List.mem_of_getElem? hi) v (List.mem_of_getElem? hv))
          · rw [List.getElem?_set_ne e] at hj
            have := (h4.2.2.1 j d b hj hb).mapV (ρ' := fun h => if h = g then x.toInt else ρ h) (G' := G) (N' := N) id (fun _ => rfl) (fun _ => rfl) (fun k v hk hv => hv.ghost hρ (gcell d (List.mem_of_getElem? hj) k hk))
            simpa using this
        · obtain ⟨c1, y1, z1⟩ := ck_set_own (c := (hh, fs.set k (.inl (lo, hi', some (g, 0))))) ⟨_, hi, fun o => o⟩ j1 d1 e1 o1
          obtain ⟨c2, y2, z2⟩ := ck_set_own (c := (hh, fs.set k (.inl (lo, hi', some (g, 0))))) ⟨_, hi, fun o => o⟩ j2 d2 e2 o2
          exact h4.2.2.2 j1 j2 c1 c2 b y1 y2 z1 z2 n1 n2
        · obtain ⟨f1, f2, f3, f4, f5, f6⟩ := h5
          refine ⟨f1, f2, f3, f4, f5, fun j d b hd hb ho hn => ?_⟩
          obtain ⟨d', e1, e2⟩ := ck_set_own (c := (hh, fs.set k (.inl (lo, hi', some (g, 0))))) ⟨_, hi, fun o => o⟩ j d hd ho
          exact f6 j d' b e1 hb e2 hn
        · show (if h = g then x.toInt else ρ h) = ρ0 h
          rw [if_neg (by omega)]
          exact h7 h a1 a2
      · cases ht
    · cases ht
  · cases ht
/-- a local number is cut in two -/
theorem cw_splitL {k : Nat} {q : ck_Q} (x : Int) (hk : ck_loc A k = some (.inl q))
    (k1 : ck_W p l e R s m args below meth c Q D AC S tab L nL ρ0 G0 N0 H0 pc (ck_setl A k (.inl (q.1, x, q.2.2)), st, T) ce sl)
    (k2 : ck_W p l e R s m args below meth c Q D AC S tab L nL ρ0 G0 N0 H0 pc (ck_setl A k (.inl (x + 1, q.2.1, q.2.2)), st, T) ce sl) : ck_W p l e R s m args below meth c Q D AC S tab L nL ρ0 G0 N0 H0 pc (A, st, T) ce sl := by
  intro H ls vs locs h
  obtain ⟨ρ, G, N, lv, h1, h2, h3, h4, h5, h6, h7⟩ := h
  obtain ⟨j, v, g1, ⟨y, rfl, y1, y2, y3⟩⟩ := ck_loc_ok h2 hk
  have hls : ls[k]? = some (.val (.int y)) := lv_at h1 j g1
  have go : ∀ v' : ck_V, ck_R S ρ G N v' (.int y) → ck_all (ck_RL S ρ G N) (ck_setl A k v') lv := by
    intro v' hv'
    refine ⟨by simp [ck_setl, h2.1], fun i q w hq hw => ?_⟩
    simp only [ck_setl, List.getElem?_map] at hq
    obtain ⟨q0, hq0, rfl⟩ := Option.map_eq_some_iff.mp hq
    obtain ⟨r1, r2⟩ := h2.2 i q0 w hq0 hw
    split
    · rename_i he
      have he : q0.1 = k := by simpa using he
      refine ⟨r1, ?_⟩
      have hsl : ls[w.1]? = some (.val w.2) := h1.2.2 w (List.mem_of_getElem? hw)
      rw [← r1, he, hls] at hsl
      have hval : Value.int y = w.2 := by simpa using hsl
      dsimp only
      rw [← hval]
      exact hv'
    · exact ⟨r1, r2⟩
  by_cases hx : y.toInt ≤ x
  · exact k1 H ls vs locs ⟨ρ, G, N, lv, h1, go _ ⟨y, rfl, y1, hx, y3⟩, h3, h4, h5, h6, h7⟩
  · exact k2 H ls vs locs ⟨ρ, G, N, lv, h1, go _ ⟨y, rfl, by dsimp only; omega, y2, y3⟩, h3, h4, h5, h6, h7⟩
theorem ck_mp_ok {φ : List (Nat × Nat)} {ρ : Nat → Int} {G : Nat → Nat} {N : List Nat} {k : ck_V} {v : Value} (h0 : ∀ τ, τ ≠ 0 → (∃ a, G a = τ) → ck_ph φ τ ≠ 0) (h : ck_R S ρ G N k v) : ck_R S ρ (fun q => ck_ph φ (G q)) N (ck_mp φ k) v := by
  match k, h with
  | .inl q, h => exact h
  | .inr (.inl q), h => exact h
  | .inr (.inr (0, _)), h => exact h
  | .inr (.inr (1, i)), h => exact h
  | .inr (.inr (2, τ)), h =>
    obtain ⟨a, e, g, z⟩ := h
    exact ⟨a, e, by dsimp only; rw [g], h0 τ z ⟨a, g⟩⟩
  | .inr (.inr (3, j)), h => exact h
  | .inr (.inr (4, _)), h => exact h
  | .inr (.inr (n + 5, _)), h => exact trivial
theorem ck_kat_any {P : ck_V → Prop} {n j : Nat} (hj : j < n) : ∀ {sg : List (Nat × ck_V)}, sg.any (fun q => decide (n ≤ q.1)) = true → (∀ q ∈ sg, P q.2) → P (ck_kat sg j)
  | [], h, _ => by simp at h
  | (b, k) :: t, h, hp => by
    unfold ck_kat
    split
    · exact hp (b, k) List.mem_cons_self
    · rename_i hb
      simp only [List.any_cons, Bool.or_eq_true, decide_eq_true_eq] at h
      rcases h with h | h
      · omega
      · exact ck_kat_any hj h (fun q hq => hp q (List.mem_cons_of_mem _ hq))
theorem ck_kat_zip {P : ck_V → ck_V → Prop} (h8 : P (.inr (.inr (8, 0))) (.inr (.inr (8, 0)))) (j : Nat) : ∀ {sg sg' : List (Nat × ck_V)}, sg.length = sg'.length → (∀ q ∈ sg.zip sg', q.1.1 = q.2.1 ∧ P q.1.2 q.2.2) → P (ck_kat sg j) (ck_kat sg' j)
  | [], [], _, _ => h8
  | (b, k) :: t, (b', k') :: t', hl, h => by
    have h0 := h ((b, k), (b', k')) (by simp)
    obtain ⟨e, hp⟩ := h0
    dsimp only at e hp
    subst e
    unfold ck_kat
    split
    · exact hp
    · exact ck_kat_zip h8 j (by simpa using hl) (fun q hq => h q (by rw [List.zip_cons_cons]; exact List.mem_cons_of_mem _ hq))
  | [], _ :: _, hl, _ => by simp at hl
  | _ :: _, [], hl, _ => by simp at hl
/-- types are made wider, where the method began with none -/
theorem cw_retype {φ : List (Nat × Nat)} {B : ck_A} (hG0 : ∀ q, G0 q = 0) (hr : ck_rty tab φ = true)
    (kk : ck_W p l e R s m args below meth c Q D AC S tab L nL ρ0 G0 N0 H0 pc (B.1.map (fun q => (q.1, ck_mp φ q.2)), B.2.1.map (ck_mp φ), B.2.2.map (ck_mpC φ)) ce sl) : ck_W p l e R s m args below meth c Q D AC S tab L nL ρ0 G0 N0 H0 pc B ce sl := by
  obtain ⟨A, st, T⟩ := B
  intro H ls vs locs h
  obtain ⟨ρ, G, N, lv, h1, h2, h3, h4, h5, h6, h7⟩ := h
  dsimp only at h2 h3 h4 h5 kk
  unfold ck_rty at hr
  simp only [Bool.and_eq_true, beq_iff_eq] at hr
  obtain ⟨hr0, hr1⟩ := hr
  have hty : ∀ a, G a ≠ 0 → ck_ph φ (G a) ≠ 0 ∧ ∃ d d', tab[G a]? = some d ∧ tab[ck_ph φ (G a)]? = some d' ∧ ck_wid φ d d' = true := by
    intro a ha
    have hlt : G a < tab.length := by
      have := (h4.1.2.2 a ha).2
      unfold ck_ty at this
      rcases Nat.lt_or_ge (G a) tab.length with hl | hl
      · exact hl
      · rw [List.getElem?_eq_none hl] at this
        exact this.elim
    have := List.all_eq_true.mp hr1 (G a) (List.mem_range.mpr hlt)
    simp only [Bool.or_eq_true, beq_iff_eq, Bool.and_eq_true, Bool.not_eq_true'] at this
    rcases this with e | ⟨e1, e2⟩
    · exact absurd e ha
    · refine ⟨by simpa using e1, ?_⟩
      split at e2
      · rename_i d d' hd hd'
        exact ⟨d, d', hd, hd', e2⟩
      · cases e2
  have h0 : ∀ τ, τ ≠ 0 → (∃ a, G a = τ) → ck_ph φ τ ≠ 0 := by
    rintro τ hτ ⟨a, rfl⟩
    exact (hty a hτ).1
  have hR : ∀ (ρ : Nat → Int) (N : List Nat) (k : ck_V) (v : Value), ck_R S ρ G N k v → ck_R S ρ (fun q => ck_ph φ (G q)) N (ck_mp φ k) v := fun ρ N k v h => ck_mp_ok h0 h
  have hG' : ∀ a, ck_ph φ (G a) ≠ 0 → G a ≠ 0 := fun a h hz => h (by rw [hz]; exact hr0)
  refine kk H ls vs locs ⟨ρ, fun q => ck_ph φ (G q), N, lv, h1, h2.map _ (fun q w hw => ⟨hw.1, hR _ _ _ _ hw.2⟩), h3.map _ (fun k v hv => hR _ _ _ _ hv), ⟨⟨h4.1.1, h4.1.2.1, fun a ha => ?_⟩, by simp [h4.2.1], fun i d a hi ha => ?_, fun i j c1 c2 a e1 e2 o1 o2 n1 n2 => ?_⟩, ?_, h6, h7⟩
  · obtain ⟨s1, s2⟩ := h4.1.2.2 a (hG' a ha)
    refine ⟨s1, ?_⟩
    obtain ⟨-, d, d', hd, hd', hw⟩ := hty a (hG' a ha)
    unfold ck_ty at s2 ⊢
    rw [hd] at s2
    dsimp only
    rw [hd']
    unfold ck_wid at hw
    split at hw
    · rename_i ac n sg ac' n' sg'
      simp only [Bool.and_eq_true, Bool.or_eq_true, beq_iff_eq] at hw
      obtain ⟨⟨rfl, rfl⟩, hw⟩ := hw
      obtain ⟨f, f1, f2⟩ := s2
      refine ⟨f, f1, fun j hj => ?_⟩
      rcases hw with ⟨w1, w2⟩ | hw
      · have key := ck_kat_zip (P := fun k k' => ∀ v, ck_R S (fun _ => 0) G [] k v → ck_R S (fun _ => 0) (fun q => ck_ph φ (G q)) [] k' v) (fun v _ => trivial) j w1 (fun q hq => by
          have := List.all_eq_true.mp w2 q hq
          simp only [Bool.and_eq_true, beq_iff_eq] at this
          exact ⟨this.1, fun v hv => (hR _ _ _ _ hv).le this.2⟩)
        exact key _ (f2 j hj)
      · split at hw
        · rename_i b k
          simp only [Bool.and_eq_true, decide_eq_true_eq] at hw
          obtain ⟨⟨⟨w1, w2⟩, w3⟩, w4⟩ := hw
          have e : ck_kat [(b, k)] j = k := by
            unfold ck_kat
            rw [if_pos (by omega)]
          rw [e]
          have key := ck_kat_any (P := fun k0 => ∀ v, ck_R S (fun _ => 0) G [] k0 v → ck_R S (fun _ => 0) (fun q => ck_ph φ (G q)) [] k v) (sg := sg) hj w3 (fun q hq v hv => by
            have := List.all_eq_true.mp w4 q hq
            simp only [Bool.and_eq_true] at this
            exact (hR _ _ _ _ hv).le this.1)
          exact key _ (f2 j hj)
        · cases hw
    · rename_i ci ks ci' ks'
      simp only [Bool.and_eq_true, beq_iff_eq] at hw
      obtain ⟨⟨rfl, w1⟩, w2⟩ := hw
      obtain ⟨us, u1, u2⟩ := s2
      refine ⟨us, u1, by rw [← w1]; exact u2.1, fun j k v hk hv => ?_⟩
      have hjl : j < ks.length := by rw [w1]; exact (List.getElem?_eq_some_iff.mp hk).1
      have hk0 : ks[j]? = some ks[j] := List.getElem?_eq_getElem hjl
      have hz : (ks[j], k) ∈ ks.zip ks' := List.mem_of_getElem? (i := j) (by rw [List.getElem?_zip_eq_some]; exact ⟨hk0, hk⟩)
      have := List.all_eq_true.mp w2 _ hz
      simp only [Bool.and_eq_true] at this
      exact (hR _ _ _ _ (u2.2 j _ v hk0 hv)).le this.1.1
    · cases hw
  · simp only [List.getElem?_map] at hi
    obtain ⟨c0, hc0, rfl⟩ := Option.map_eq_some_iff.mp hi
    unfold ck_mpC
    split
    · exact trivial
    · rename_i hn3
      have htc := h4.2.2.1 i c0 a hc0 ha
      refine htc.mapV (ck_mp φ) (fun ho => ?_) (fun h3 => absurd h3 hn3) (fun k v _ hv => hR _ _ _ _ hv)
      have hz : G a = 0 := by
        obtain ⟨⟨k0, n0⟩, fs⟩ := c0
        unfold ck_own at ho
        simp only [Bool.or_eq_true, beq_iff_eq] at ho
        rcases ho with rfl | rfl
        · exact htc.2.1
        · exact htc.2.1
      show ck_ph φ (G a) = G a
      rw [hz, hr0]
  · have own' : ∀ c0 : ck_C, ck_own (ck_mpC φ c0) = true → ck_own c0 = true := by
      intro c0 ho
      unfold ck_mpC at ho
      split at ho
      · simp [ck_own] at ho
      · exact ho
    simp only [List.getElem?_map] at e1 e2
    obtain ⟨c01, hc1, rfl⟩ := Option.map_eq_some_iff.mp e1
    obtain ⟨c02, hc2, rfl⟩ := Option.map_eq_some_iff.mp e2
    exact h4.2.2.2 i j c01 c02 a hc1 hc2 (own' _ o1) (own' _ o2) n1 n2
  · obtain ⟨f1, f2, f3, f4, f5, f6⟩ := h5
    refine ⟨f1, fun q hq => ?_, f3, f4, f5, fun j d b hd hb ho hn => ?_⟩
    · dsimp only
      rw [f2 q hq, hG0 q]
      exact hr0
    · simp only [List.getElem?_map] at hd
      obtain ⟨c0, hc0, rfl⟩ := Option.map_eq_some_iff.mp hd
      have : ck_own c0 = true := by
        unfold ck_mpC at ho
        split at ho
        · simp [ck_own] at ho
        · exact ho
      exact f6 j c0 b hc0 hb this hn
theorem ck_R.take {ρ : Nat → Int} {G : Nat → Nat} {N : List Nat} {n : Nat} {k : ck_V} {v : Value} (hk : ck_nrf n k = true) (h : ck_R S ρ G N k v) : ck_R S ρ G (N.take n) k v := by
  match k, h with
  | .inl q, h => exact h
  | .inr (.inl q), h => exact h
  | .inr (.inr (0, _)), h => exact h
  | .inr (.inr (1, i)), h =>
    obtain ⟨a, h1, h2⟩ := h
    have hi : i < n := of_decide_eq_true hk
    exact ⟨a, by rw [List.getElem?_take, if_pos hi]; exact h1, h2⟩
  | .inr (.inr (2, τ)), h => exact h
  | .inr (.inr (3, j)), h => exact h
  | .inr (.inr (4, _)), h => exact h
  | .inr (.inr (n + 5, _)), h => exact trivial
/-- cells are named no more -/
theorem cw_drop {n : Nat} {B : ck_A} (hok : ck_drok n (ck_drp n B) = true) (hn : N0.length ≤ n) (hl : n ≤ B.2.2.length)
    (kk : ck_W p l e R s m args below meth c Q D AC S tab L nL ρ0 G0 N0 H0 pc (ck_drp n B) ce sl) : ck_W p l e R s m args below meth c Q D AC S tab L nL ρ0 G0 N0 H0 pc B ce sl := by
  obtain ⟨A, st, T⟩ := B
  intro H ls vs locs h
  obtain ⟨ρ, G, N, lv, h1, h2, h3, h4, h5, h6, h7⟩ := h
  dsimp only at h2 h3 h4 h5 hl
  unfold ck_drok at hok
  simp only [Bool.and_eq_true] at hok
  obtain ⟨⟨k1, k2⟩, k3⟩ := hok
  have hu : ∀ k v, ck_R S ρ G N k v → ck_R S ρ G N (ck_unf T k) v := fun k v hv => ck_unf_ok h4 hv
  have g2 : ck_all (ck_RL S ρ G N) (ck_drp n (A, st, T)).1 lv := h2.map _ (fun q w hw => ⟨hw.1, hu _ _ hw.2⟩)
  have g3 : ck_all (ck_R S ρ G N) (ck_drp n (A, st, T)).2.1 vs := h3.map _ hu
  have g4 := h4.mapV (ρ' := ρ) (ck_unf T) hu
  have g5 := h5.mapV (ck_unf T)
  have hNT : N.length = T.length := h4.2.1
  have hget : ∀ (i : Nat) (d : ck_C), (ck_drp n (A, st, T)).2.2[i]? = some d → i < n ∧ (T.map (fun c => (c.1, c.2.map (ck_unf T))))[i]? = some d := by
    intro i d hi
    have hi' : ((T.map (fun c => (c.1, c.2.map (ck_unf T)))).take n)[i]? = some d := hi
    rw [List.getElem?_take] at hi'
    split at hi'
    · rename_i hlt
      exact ⟨hlt, hi'⟩
    · cases hi'
  have hN : ∀ (i a : Nat), (N.take n)[i]? = some a → N[i]? = some a := by
    intro i a hi
    rw [List.getElem?_take] at hi
    split at hi
    · exact hi
    · cases hi
  refine kk H ls vs locs ⟨ρ, G, N.take n, lv, h1, g2.mono (fun q w hq hw => ⟨hw.1, hw.2.take (List.all_eq_true.mp k1 q hq)⟩), g3.mono (fun k v hk hv => hv.take (List.all_eq_true.mp k2 k hk)), ⟨g4.1, ?_, fun i d a hi ha => ?_, fun i j c1 c2 a e1 e2 o1 o2 n1 n2 => ?_⟩, ?_, h6, h7⟩
  · show (N.take n).length = ((T.map (fun c => (c.1, c.2.map (ck_unf T)))).take n).length
    simp [hNT]
  · obtain ⟨-, hi'⟩ := hget i d hi
    have htc := g4.2.2.1 i d a hi' (hN i a ha)
    have := htc.mapV (ρ' := ρ) (G' := G) (N' := N.take n) id (fun _ => rfl) (fun _ => rfl) (fun k v hk hv => hv.take (List.all_eq_true.mp (List.all_eq_true.mp k3 d (List.mem_of_getElem? hi)) k hk))
    simpa using this
  · exact g4.2.2.2 i j c1 c2 a (hget i c1 e1).2 (hget j c2 e2).2 o1 o2 (hN i a n1) (hN j a n2)
  · obtain ⟨f1, f2, f3, f4, f5, f6⟩ := g5
    refine ⟨f1, f2, f3, by simp; omega, fun i hi => by rw [List.getElem?_take, if_pos (by omega)]; exact f5 i hi, fun i d b hd hb ho hn' => f6 i d b (hget i d hd).2 (hN i b hb) ho hn'⟩
theorem cw_opn {np : Nat} {lw : Bool} {o : ck_O} {B : ck_A} {Bs : List ck_A} (hnp : N0.length = np) (hlw : lw = true → ∀ q, G0 q = 0) (h : ck_op1 tab np lw o B = some Bs)
    (k : ∀ B' ∈ Bs, ck_W p l e R s m args below meth c Q D AC S tab L nL ρ0 G0 N0 H0 pc B' ce sl) : ck_W p l e R s m args below meth c Q D AC S tab L nL ρ0 G0 N0 H0 pc B ce sl := by
  obtain ⟨A, st, T⟩ := B
  unfold ck_op1 at h
  split at h
  · split at h
    · rename_i d hd
      split at h
      · rename_i hc
        cases h
        exact cw_close hd hc.1 hc.2.1 (by omega) (k _ (List.mem_singleton.mpr rfl))
      · cases h
    · cases h
  · split at h
    · rename_i τ hk
      split at h
      · rename_i ci ks hτ
        split at h
        · rename_i hp
          cases h
          exact cw_focus hk hτ hp (k _ (List.mem_singleton.mpr rfl))
        · cases h
      · cases h
    · cases h
  · split at h
    · rename_i hh fs hi
      split at h
      · rename_i q hq
        split at h
        · cases h
          exact cw_split _ hi hq (k _ List.mem_cons_self) (k _ (List.mem_cons_of_mem _ List.mem_cons_self))
        · cases h
          exact k _ (List.mem_singleton.mpr rfl)
      · cases h
    · cases h
  · split at h
    · rename_i q hq
      split at h
      · cases h
        exact cw_splitL _ hq (k _ List.mem_cons_self) (k _ (List.mem_cons_of_mem _ List.mem_cons_self))
      · cases h
        exact k _ (List.mem_singleton.mpr rfl)
    · cases h
  · split at h
    · rename_i hc
      split at h
      · rename_i T' hT
        cases h
        exact cw_tagK hc.1 (Or.inr hc.2) hT (k _ (List.mem_singleton.mpr rfl))
      · cases h
    · cases h
  · split at h
    · rename_i hc
      cases h
      exact cw_retype (hlw hc.1) hc.2 (k _ (List.mem_singleton.mpr rfl))
    · cases h
  · split at h
    · rename_i i hi
      split at h
      · rename_i d hd
        split at h
        · rename_i hc
          cases h
          exact cw_close hd hc.1 hc.2.1 (by omega) (k _ (List.mem_singleton.mpr rfl))
        · cases h
      · cases h
    · cases h
  · split at h
    · rename_i hc
      cases h
      exact cw_drop hc.1 (by omega) hc.2.2 (k _ (List.mem_singleton.mpr rfl))
    · cases h
  · cases h
theorem cw_opsK {np : Nat} {lw : Bool} {kb : ck_A → Bool} (hnp : N0.length = np) (hlw : lw = true → ∀ q, G0 q = 0) (k : ∀ B', kb B' = true → ck_W p l e R s m args below meth c Q D AC S tab L nL ρ0 G0 N0 H0 pc B' ce sl) :
    ∀ {os : List ck_O} {B : ck_A}, ck_opsK tab np lw kb os B = true → ck_W p l e R s m args below meth c Q D AC S tab L nL ρ0 G0 N0 H0 pc B ce sl
  | [], B, h => k B h
  | o :: t, B, h => by
    unfold ck_opsK at h
    split at h
    · rename_i Bs hB
      exact cw_opn hnp hlw hB fun B' hB' => cw_opsK hnp hlw k (ck_alT_ok h B' hB')
    · cases h
end CKOP
end
section
/-! ===== the checker: runs from one marked place to the next; a measure falls ===== -/
def ck_lvI (ls : Array Slot) (i : Nat) : Int := match ls[i]? with
  | some (.val (.int x)) => x.toInt
  | _ => 0
abbrev ck_Ms : Type := Int × List (Nat × Int)
def ck_ev (σ : Nat → Int) (l : List (Nat × Int)) : Int := (l.map (fun q => q.2 * σ q.1)).sum
def ck_ins (g : Nat) (c : Int) : List (Nat × Int) → List (Nat × Int)
  | [] => [(g, c)]
  | (h, d) :: t => if h = g then (h, d + c) :: t else (h, d) :: ck_ins g c t
theorem ck_ins_ev (σ : Nat → Int) (g : Nat) (c : Int) : ∀ l : List (Nat × Int), ck_ev σ (ck_ins g c l) = ck_ev σ l + c * σ g
  | [] => by simp [ck_ins, ck_ev]
  | (h, d) :: t => by
    unfold ck_ins
    split
    · rename_i e
      subst e
      simp only [ck_ev, List.map_cons, List.sum_cons]
      rw [Int.add_mul]
      omega
    · have := ck_ins_ev σ g c t
      simp only [ck_ev, List.map_cons, List.sum_cons] at this ⊢
      omega
def ck_subL (l : List (Nat × Int)) : List (Nat × Int) → List (Nat × Int)
  | [] => l
  | (g, c) :: t => ck_ins g (-c) (ck_subL l t)
theorem ck_subL_ev (σ : Nat → Int) (l : List (Nat × Int)) : ∀ m : List (Nat × Int), ck_ev σ (ck_subL l m) = ck_ev σ l - ck_ev σ m
  | [] => by simp [ck_subL, ck_ev]
  | (g, c) :: t => by
    have := ck_subL_ev σ l t
    unfold ck_subL
    rw [ck_ins_ev, this]
    simp only [ck_ev, List.map_cons, List.sum_cons]
    rw [Int.neg_mul]
    omega
def ck_mx (c lo hi : Int) : Int := ck_max (c * lo) (c * hi)
theorem ck_mx_ok {c lo hi x : Int} (h1 : lo ≤ x) (h2 : x ≤ hi) : c * x ≤ ck_mx c lo hi := by
  have := (ck_lin c h1 h2).2
  unfold ck_mx
  rw [Int.mul_comm c lo, Int.mul_comm c hi, Int.mul_comm c x]
  exact this
theorem ck_mn_ok {c lo hi x : Int} (h1 : lo ≤ x) (h2 : x ≤ hi) : ck_min (c * lo) (c * hi) ≤ c * x := by
  have := (ck_lin c h1 h2).1
  rw [Int.mul_comm c lo, Int.mul_comm c hi, Int.mul_comm c x]
  exact this
def ck_lb (A : List (Nat × ck_V)) : List (Nat × Int) → Option Int
  | [] => some 0
  | (i, c) :: t => (match ck_loc A i, ck_lb A t with
    | some (.inl (lo, hi, _)), some k => some (k + ck_min (c * lo) (c * hi))
    | _, _ => none)
def ck_eb (A : List (Nat × ck_V)) : List (Nat × Int) → Option (Int × List (Nat × Int))
  | [] => some (0, [])
  | (i, c) :: t => (match ck_loc A i, ck_eb A t with
    | some (.inl (_, _, some (g, d))), some (k, l) => if 150 ≤ g ∧ g < 200 then some (k + c * d, ck_ins (g - 150) c l) else none
    | some (.inl (lo, hi, none)), some (k, l) => some (k + ck_mx c lo hi, l)
    | _, _ => none)
def ck_ub (A : List (Nat × ck_V)) : List (Nat × Int) → Option Int
  | [] => some 0
  | (g, c) :: t => (match ck_ub A t with
    | some k => if c = 0 then some k else (match ck_loc A g with
      | some (.inl (lo, hi, _)) => some (k + ck_mx c lo hi)
      | _ => none)
    | none => none)
def ck_dec (m0 : ck_Ms) (A0 : List (Nat × ck_V)) (m1 : ck_Ms) (A1 : List (Nat × ck_V)) : Bool := match ck_eb A1 m1.2 with
  | some (k, l) => (match ck_ub A0 (ck_subL l m0.2) with
    | some u => decide (m1.1 + k + u < m0.1)
    | none => false)
  | none => false
abbrev ck_An : Type := ck_A × ck_Ms × Nat × Nat
def ck_leA (B B' : ck_A) : Bool := B'.1.all (fun q => match ck_loc B.1 q.1 with
    | some v => ck_le v q.2
    | none => false) && B.2.1.length == B'.2.1.length && (B.2.1.zip B'.2.1).all (fun q => ck_le q.1 q.2) && ck_leT B.2.2 B'.2.2
/-- coming to a marked place -/
def ck_arr (z : Option (ck_Ms × List (Nat × ck_V))) (a : ck_An) (y : ck_N) : Bool := y.2.2.1 == a.2.2.1 && y.2.2.2 == a.2.2.2 && ck_leA y.2.1 a.1 && (match ck_lb y.2.1.1 a.2.1.2 with
    | some k => decide (0 ≤ a.2.1.1 + k)
    | none => false) && (match z with
    | none => true
    | some (m0, A0) => ck_dec m0 A0 a.2.1 y.2.1.1)
def ck_oz (ops : List (Nat × List ck_O)) (pc : Nat) : List ck_O := match ck_lk ops pc with
  | some l => l
  | none => []
def ck_ex (E : ck_E) (tab : List ck_D) (nS : Nat) (ms : List ck_MM) (cts : List (Nat × ck_Ct)) (nt : List (Nat × Nat × Nat)) (cod : List (List (Nat × Instr × Nat))) (M : ck_M) (K : ck_Ct) (lw : Bool) (ops : List (Nat × List ck_O)) (ann : List (Nat × ck_An)) (z : Option (ck_Ms × List (Nat × ck_V))) : Nat → ck_N → Bool
  | 0, _ => false
  | f + 1, x => ck_opsK tab K.2.1.length lw (fun B => match ck_step E tab nS ms cts nt cod M K (x.1, B, x.2.2) with
    | some X => ck_alT (fun y => match ck_lk ann y.1 with
      | some a => ck_arr z a y
      | none => ck_ex E tab nS ms cts nt cod M K lw ops ann z f y) X
    | none => false) (ck_oz ops x.1) x.2.1
section CKEX
variable {p : Program} {l : Launch} {e : Env} {R : Room} {s : State} {m : MethodId} {args : Array Value} {below : List Frame} {meth : Method} {c : Code} {ce sl : Nat} {Q : State → Prop}
variable {pc nS : Nat} {D : va_G} {AC : Nat → ClassId} {S : Nat → Nat} {tab : List ck_D} {L : Heap} {ρ0 : Nat → Int} {G0 : Nat → Nat} {N0 : List Nat} {H0 : Heap}
variable {A : List (Nat × ck_V)} {st : List ck_V} {T : List ck_C} {M : ck_M} {K : ck_Ct} {E : ck_E} {ms : List ck_MM} {cts : List (Nat × ck_Ct)} {cod : List (List (Nat × Instr × Nat))} {nt : List (Nat × Nat × Nat)}
theorem cw_ex (hy : ck_Hy p l e R s m meth c M K E ms cts tab nS D AC S L cod) (hQ : ∀ t, ck_Fin D AC S tab L ρ0 G0 N0 K below s t → Q t) (hnp : N0.length = K.2.1.length) {lw : Bool} (hlw : lw = true → ∀ q, G0 q = 0) {ops : List (Nat × List ck_O)} {ann : List (Nat × ck_An)} {z : Option (ck_Ms × List (Nat × ck_V))}
    (ha : ∀ (y : ck_N) (a : ck_An), ck_lk ann y.1 = some a → ck_arr z a y = true → ck_W p l e R s m args below meth c Q D AC S tab L M.2.2.1 ρ0 G0 N0 s.heap y.1 y.2.1 y.2.2.1 y.2.2.2) :
    ∀ (f : Nat) (x : ck_N), ck_ex E tab nS ms cts nt cod M K lw ops ann z f x = true → ck_W p l e R s m args below meth c Q D AC S tab L M.2.2.1 ρ0 G0 N0 s.heap x.1 x.2.1 x.2.2.1 x.2.2.2
  | 0, _, h => by cases h
  | f + 1, x, h => by
    unfold ck_ex at h
    refine cw_opsK hnp hlw (fun B hB => ?_) h
    split at hB
    · rename_i X hX
      refine cw_step (x := (x.1, B, x.2.2)) hy hQ hX fun y hyX => ?_
      have := ck_alT_ok hB y hyX
      split at this
      · rename_i a hal
        exact ha y a hal this
      · exact cw_ex hy hQ hnp hlw ha f y this
    · cases hB
theorem ck_loc_int {ρ : Nat → Int} {G : Nat → Nat} {N : List Nat} {nL : Nat} {ls : Array Slot} {lv : List (Nat × Value)} (h1 : lv_has ls nL lv) (h2 : ck_all (ck_RL S ρ G N) A lv) {i : Nat} {q : ck_Q} (h : ck_loc A i = some (.inl q)) : q.1 ≤ ck_lvI ls i ∧ ck_lvI ls i ≤ q.2.1 ∧ ∀ g c, q.2.2 = some (g, c) → ck_lvI ls i = ρ g + c := by
  obtain ⟨j, v, g1, ⟨x, rfl, gx⟩⟩ := ck_loc_ok h2 h
  have hls : ls[i]? = some (.val (.int x)) := lv_at h1 j g1
  have e : ck_lvI ls i = x.toInt := by
    unfold ck_lvI
    rw [hls]
  rw [e]
  exact gx
theorem ck_lb_ok {ρ : Nat → Int} {G : Nat → Nat} {N : List Nat} {nL : Nat} {ls : Array Slot} {lv : List (Nat × Value)} (h1 : lv_has ls nL lv) (h2 : ck_all (ck_RL S ρ G N) A lv) : ∀ {t : List (Nat × Int)} {k : Int}, ck_lb A t = some k → k ≤ ck_ev (ck_lvI ls) t
  | [], k, h => by cases h; exact Int.le_refl _
  | (i, c) :: t, k, h => by
    unfold ck_lb at h
    split at h
    · rename_i lo hi tg k' hl hk
      cases h
      have := ck_lb_ok h1 h2 hk
      obtain ⟨a1, a2, -⟩ := ck_loc_int h1 h2 hl
      have := ck_mn_ok (c := c) a1 a2
      simp only [ck_ev, List.map_cons, List.sum_cons] at *
      omega
    · cases h
theorem ck_eb_ok {σ : Nat → Int} {ρ : Nat → Int} {G : Nat → Nat} {N : List Nat} {nL : Nat} {ls : Array Slot} {lv : List (Nat × Value)} (hσ : ∀ g, 150 ≤ g → g < 200 → ρ g = σ (g - 150)) (h1 : lv_has ls nL lv) (h2 : ck_all (ck_RL S ρ G N) A lv) : ∀ {t : List (Nat × Int)} {k : Int} {l : List (Nat × Int)}, ck_eb A t = some (k, l) → ck_ev (ck_lvI ls) t ≤ k + ck_ev σ l
  | [], k, l, h => by cases h; simp [ck_ev]
  | (i, c) :: t, k, l, h => by
    unfold ck_eb at h
    split at h
    · rename_i lo hi g d k' l' hl hk
      split at h
      · rename_i hg
        cases h
        have ih := ck_eb_ok hσ h1 h2 hk
        obtain ⟨-, -, a3⟩ := ck_loc_int h1 h2 hl
        have a4 := a3 g d rfl
        rw [hσ g hg.1 hg.2] at a4
        rw [ck_ins_ev]
        simp only [ck_ev, List.map_cons, List.sum_cons] at ih ⊢
        rw [a4, Int.mul_add]
        omega
      · cases h
    · rename_i lo hi k' l' hl hk
      cases h
      have ih := ck_eb_ok hσ h1 h2 hk
      obtain ⟨a1, a2, -⟩ := ck_loc_int h1 h2 hl
      have := ck_mx_ok (c := c) a1 a2
      dsimp only at this
      simp only [ck_ev, List.map_cons, List.sum_cons] at ih ⊢
      omega
    · cases h
theorem ck_ub_ok {σ : Nat → Int} (hσ : ∀ (i : Nat) (q : ck_Q), ck_loc A i = some (.inl q) → q.1 ≤ σ i ∧ σ i ≤ q.2.1) : ∀ {t : List (Nat × Int)} {k : Int}, ck_ub A t = some k → ck_ev σ t ≤ k
  | [], k, h => by cases h; exact Int.le_refl _
  | (g, c) :: t, k, h => by
    unfold ck_ub at h
    split at h
    · rename_i k' hk
      have ih := ck_ub_ok hσ hk
      split at h
      · rename_i hc
        cases h
        simp only [ck_ev, List.map_cons, List.sum_cons] at ih ⊢
        rw [hc, Int.zero_mul]
        omega
      · split at h
        · rename_i lo hi tg hl
          cases h
          obtain ⟨a1, a2⟩ := hσ g _ hl
          have := ck_mx_ok (c := c) a1 a2
          simp only [ck_ev, List.map_cons, List.sum_cons] at ih ⊢
          dsimp only at this
          omega
        · cases h
    · cases h
def ck_me (a : ck_Ms) (ls : Array Slot) : Int := a.1 + ck_ev (ck_lvI ls) a.2
/-- what is described by one state is by a wider one -/
theorem ck_st.le {ρ1 : Nat → Int} {B B' : ck_A} {nL : Nat} {H : Heap} {ls : Array Slot} {vs : List Value} {locs : List Loc} (hl : ck_leA B B' = true) (h : ck_st D AC S tab L nL ρ1 G0 N0 H0 B H ls vs locs) : ck_st D AC S tab L nL ρ1 G0 N0 H0 B' H ls vs locs := by
  obtain ⟨ρ, G, N, lv, h1, h2, h3, h4, h5, h6, h7⟩ := h
  unfold ck_leA at hl
  simp only [Bool.and_eq_true, beq_iff_eq] at hl
  obtain ⟨⟨⟨l1, l2⟩, l3⟩, l4⟩ := hl
  have key : ∀ A' : List (Nat × ck_V), A'.all (fun q => match ck_loc B.1 q.1 with
    | some v => ck_le v q.2
    | none => false) = true → ∃ lv', lv_has ls nL lv' ∧ ck_all (ck_RL S ρ G N) A' lv' := by
    intro A'
    induction A' with
    | nil => exact fun _ => ⟨[], ⟨h1.1, h1.2.1, fun q hq => by cases hq⟩, ck_all.nil⟩
    | cons q t ih =>
      intro hall
      rw [List.all_cons, Bool.and_eq_true] at hall
      obtain ⟨lv', i1, i2⟩ := ih hall.2
      have hq := hall.1
      split at hq
      · rename_i v hv
        obtain ⟨j, w, g1, g2⟩ := ck_loc_ok h2 hv
        have hls : ls[q.1]? = some (.val w) := lv_at h1 j g1
        refine ⟨(q.1, w) :: lv', ⟨h1.1, h1.2.1, fun r hr => ?_⟩, ck_all.cons ⟨rfl, g2.le hq⟩ i2⟩
        rcases List.mem_cons.mp hr with rfl | hr
        · exact hls
        · exact i1.2.2 r hr
      · cases hq
  obtain ⟨lv', i1, i2⟩ := key B'.1 l1
  refine ⟨ρ, G, N, lv', i1, i2, ⟨by rw [← l2]; exact h3.1, fun i k v hk hv => ?_⟩, h4.leT l4, h5.leT l4, h6, h7⟩
  have hil : i < B.2.1.length := by rw [l2]; exact (List.getElem?_eq_some_iff.mp hk).1
  have hk0 : B.2.1[i]? = some B.2.1[i] := List.getElem?_eq_getElem hil
  have hz : (B.2.1[i], k) ∈ B.2.1.zip B'.2.1 := List.mem_of_getElem? (i := i) (by rw [List.getElem?_zip_eq_some]; exact ⟨hk0, hk⟩)
  exact (h3.2 i _ v hk0 hv).le (List.all_eq_true.mp l3 _ hz)
end CKEX
end
section
/-! ===== the checker: a whole method ===== -/
def ck_ngv : ck_V → Bool
  | .inl (_, _, some (g, _)) => !(decide (150 ≤ g) && decide (g < 200))
  | _ => true
def ck_ngA (B : ck_A) : Bool := B.1.all (fun q => ck_ngv q.2) && B.2.1.all ck_ngv && B.2.2.all (fun c => c.2.all ck_ngv)
def ck_tgM (A : List (Nat × ck_V)) : List (Nat × ck_V) := A.map (fun q => (q.1, match q.2 with
  | .inl (lo, hi, none) => if q.1 < 50 then .inl (lo, hi, some (150 + q.1, 0)) else .inl (lo, hi, none)
  | x => x))
def ck_sg (ρ : Nat → Int) (ls : Array Slot) (g : Nat) : Int := if 150 ≤ g ∧ g < 200 then ck_lvI ls (g - 150) else ρ g
def ck_resg (K : ck_Ct) : Bool := K.2.2.1.all (fun c => c.2.all ck_ngv) && (match K.2.2.2.1 with
  | .inl (some k) => ck_ngv k
  | _ => true)
def ck_meth (E : ck_E) (tab : List ck_D) (nS : Nat) (ms : List ck_MM) (cts : List (Nat × ck_Ct)) (nt : List (Nat × Nat × Nat)) (cod : List (List (Nat × Instr × Nat))) (M : ck_M) (K : ck_Ct) (lw : Bool) (ops : List (Nat × List ck_O)) (ann : List (Nat × ck_An)) (f : Nat) : Bool :=
  ck_resg K && K.1.all ck_kn && decide (ck_words K.1 ≤ M.2.2.1) && ck_ngA (ck_largs 0 K.1, [], ck_etag K.2.1) &&
  ck_ex E tab nS ms cts nt cod M K lw ops ann none f (0, (ck_tgM (ck_largs 0 K.1), [], ck_etag K.2.1), 0, 0) &&
  ann.all (fun a => ck_ngA a.2.1 && ck_ex E tab nS ms cts nt cod M K lw ops ann (some (a.2.2.1, a.2.1.1)) f (a.1, (ck_tgM a.2.1.1, a.2.1.2.1, a.2.1.2.2), a.2.2.2.1, a.2.2.2.2))
section CKME
variable {p : Program} {l : Launch} {e : Env} {R : Room} {s : State} {m : MethodId} {args : Array Value} {below : List Frame} {meth : Method} {c : Code} {ce sl : Nat} {Q : State → Prop}
variable {pc nS : Nat} {D : va_G} {AC : Nat → ClassId} {S : Nat → Nat} {tab : List ck_D} {L : Heap} {ρ0 : Nat → Int} {G0 : Nat → Nat} {N0 : List Nat} {H0 : Heap}
variable {M : ck_M} {K : ck_Ct} {E : ck_E} {ms : List ck_MM} {cts : List (Nat × ck_Ct)} {cod : List (List (Nat × Instr × Nat))} {nt : List (Nat × Nat × Nat)}
theorem ck_R.ng {ρ ρ' : Nat → Int} {G : Nat → Nat} {N : List Nat} {k : ck_V} {v : Value} (hg : ∀ g, (g < 150 ∨ 200 ≤ g) → ρ' g = ρ g) (hk : ck_ngv k = true) (h : ck_R S ρ G N k v) : ck_R S ρ' G N k v := by
  match k, h with
  | .inl (lo, hi, none), h => obtain ⟨x, ex, x1, x2, -⟩ := h; exact ⟨x, ex, x1, x2, fun g c q => by cases q⟩
  | .inl (lo, hi, some (g, d)), h =>
    obtain ⟨x, ex, x1, x2, x3⟩ := h
    refine ⟨x, ex, x1, x2, fun g' c' q => ?_⟩
    cases q
    simp only [ck_ngv, Bool.not_eq_true', Bool.and_eq_false_iff, decide_eq_false_iff_not] at hk
    rw [hg g (by omega)]
    exact x3 g d rfl
  | .inr (.inl q), h => exact h
  | .inr (.inr (0, _)), h => exact h
  | .inr (.inr (1, i)), h => exact h
  | .inr (.inr (2, τ)), h => exact h
  | .inr (.inr (3, j)), h => exact h
  | .inr (.inr (4, _)), h => exact h
  | .inr (.inr (n + 5, _)), h => exact trivial
theorem ck_H.ng {ρ ρ' : Nat → Int} {G : Nat → Nat} {N : List Nat} {T : List ck_C} {H : Heap} (hg : ∀ g, (g < 150 ∨ 200 ≤ g) → ρ' g = ρ g) (hT : T.all (fun c => c.2.all ck_ngv) = true) (h : ck_H D AC S tab L ρ G N T H) : ck_H D AC S tab L ρ' G N T H := by
  refine ⟨h.1, h.2.1, fun j d a hj ha => ?_, h.2.2.2⟩
  have := (h.2.2.1 j d a hj ha).mapV (ρ' := ρ') (G' := G) (N' := N) id (fun _ => rfl) (fun _ => rfl) (fun k v hk hv => hv.ng hg (List.all_eq_true.mp (List.all_eq_true.mp hT d (List.mem_of_getElem? hj)) k hk))
  simpa using this
/-- a run begins: its locals have ghosts -/
theorem ck_st.seg {ρ1 : Nat → Int} {B : ck_A} {nL : Nat} {H : Heap} {ls : Array Slot} {vs : List Value} {locs : List Loc} (hn : ck_ngA B = true) (h : ck_st D AC S tab L nL ρ1 G0 N0 H0 B H ls vs locs) : ck_st D AC S tab L nL (ck_sg ρ1 ls) G0 N0 H0 (ck_tgM B.1, B.2.1, B.2.2) H ls vs locs := by
  obtain ⟨ρ, G, N, lv, h1, h2, h3, h4, h5, h6, h7⟩ := h
  unfold ck_ngA at hn
  simp only [Bool.and_eq_true] at hn
  obtain ⟨⟨n1, n2⟩, n3⟩ := hn
  have hg : ∀ g, (g < 150 ∨ 200 ≤ g) → ck_sg ρ ls g = ρ g := fun g hg => by
    unfold ck_sg
    rw [if_neg (by omega)]
  refine ⟨ck_sg ρ ls, G, N, lv, h1, ⟨by simp [ck_tgM, h2.1], fun i q w hq hw => ?_⟩, h3.mono (fun k v hk hv => hv.ng hg (List.all_eq_true.mp n2 k hk)), h4.ng hg n3, h5, h6, fun g a1 a2 => ?_⟩
  · simp only [ck_tgM, List.getElem?_map] at hq
    obtain ⟨q0, hq0, rfl⟩ := Option.map_eq_some_iff.mp hq
    obtain ⟨r1, r2⟩ := h2.2 i q0 w hq0 hw
    have r3 := r2.ng hg (List.all_eq_true.mp n1 q0 (List.mem_of_getElem? hq0))
    refine ⟨r1, ?_⟩
    obtain ⟨q1, q2⟩ := q0
    dsimp only at r1 r2 r3 ⊢
    split
    · split
      · rename_i lo hi hlt
        obtain ⟨x, ex, x1, x2, -⟩ := r2
        refine ⟨x, ex, x1, x2, fun g c hgc => ?_⟩
        cases hgc
        have hsl : ls[w.1]? = some (.val w.2) := h1.2.2 w (List.mem_of_getElem? hw)
        have : ck_sg ρ ls (150 + q1) = x.toInt := by
          unfold ck_sg
          rw [if_pos (by omega), show 150 + q1 - 150 = q1 by omega]
          unfold ck_lvI
          rw [r1, hsl, ex]
        rw [this]
        omega
      · exact r3
    · exact r3
  · unfold ck_sg
    split
    · rfl
    · exact h7 g a1 a2
theorem ck_Fin.sg {ρ0 ρ1 : Nat → Int} (hK : ck_resg K = true) (hg : ∀ g, (g < 150 ∨ 200 ≤ g) → ρ1 g = ρ0 g) {t : State} (h : ck_Fin D AC S tab L ρ1 G0 N0 K below s t) : ck_Fin D AC S tab L ρ0 G0 N0 K below s t := by
  unfold ck_resg at hK
  simp only [Bool.and_eq_true] at hK
  obtain ⟨k1, k2⟩ := hK
  obtain ⟨o, a1, a2, a3, a4, ρ, G, N, b1, b2, b3, b4⟩ := h
  have hg' : ∀ g, (g < 150 ∨ 200 ≤ g) → (fun g => if 150 ≤ g ∧ g < 200 then ρ0 g else ρ g) g = ρ g := fun g hg => by
    dsimp only
    rw [if_neg (by omega)]
  refine ⟨o, a1, a2, a3, a4, fun g => if 150 ≤ g ∧ g < 200 then ρ0 g else ρ g, G, N, b1.ng hg' k1, b2, fun g c1 c2 => ?_, ?_⟩
  · dsimp only
    split
    · rfl
    · rw [b3 g c1 c2, hg g (by omega)]
  · generalize hr : K.2.2.2.1 = r at b4 k2
    match r, b4, k2 with
    | .inl none, b4, k2 => exact b4
    | .inl (some k), b4, k2 =>
      obtain ⟨w, w1, w2⟩ := b4
      exact ⟨w, w1, w2.ng hg' k2⟩
    | .inr x, b4, k2 => exact b4
/-- a method that the checker takes keeps its contract -/
theorem ck_run (hy : ck_Hy p l e R s m meth c M K E ms cts tab nS D AC S L cod) (hnp : N0.length = K.2.1.length) {lw : Bool} (hlw : lw = true → ∀ q, G0 q = 0) {ops : List (Nat × List ck_O)} {ann : List (Nat × ck_An)} {f : Nat} (h : ck_meth E tab nS ms cts nt cod M K lw ops ann f = true)
    {vs : List Value} (hargs : args = vs.toArray) (hv : ck_all (ck_R S ρ0 G0 N0) K.1 vs) (hH : ck_H D AC S tab L ρ0 G0 N0 (ck_etag K.2.1) s.heap) :
    W p l e R s m args below meth c s.heap [] 0 0 (ck_Fin D AC S tab L ρ0 G0 N0 K below s) (entryFrame m args M.2.2.1) := by
  unfold ck_meth at h
  simp only [Bool.and_eq_true, decide_eq_true_eq] at h
  obtain ⟨⟨⟨⟨⟨hres, hkn⟩, hwd⟩, hng⟩, hent⟩, hann⟩ := h
  have hQ : ∀ (ρ1 : Nat → Int) (ls : Array Slot), (∀ g, (g < 150 ∨ 200 ≤ g) → ρ1 g = ρ0 g) → ∀ t, ck_Fin D AC S tab L (ck_sg ρ1 ls) G0 N0 K below s t → ck_Fin D AC S tab L ρ0 G0 N0 K below s t := fun ρ1 ls h1 t ht => ht.sg hres (fun g hg => by
    unfold ck_sg
    rw [if_neg (by omega)]
    exact h1 g hg)
  have key : ∀ (n : Nat) (ρ1 : Nat → Int), (∀ g, (g < 150 ∨ 200 ≤ g) → ρ1 g = ρ0 g) → ∀ (pc : Nat) (a : ck_An), (pc, a) ∈ ann → ∀ (H : Heap) (ls : Array Slot) (st : List Value) (locs : List Loc), ck_st D AC S tab L M.2.2.1 ρ1 G0 N0 s.heap a.1 H ls st locs → ck_me a.2.1 ls < (n : Int) → 0 ≤ ck_me a.2.1 ls → W p l e R s m args below meth c H locs a.2.2.1 a.2.2.2 (ck_Fin D AC S tab L ρ0 G0 N0 K below s) (F0 m pc ls st) := by
    intro n
    induction n with
    | zero => intro _ _ _ _ _ _ _ _ _ _ h1 h2; omega
    | succ n ih =>
      intro ρ1 hρ1 pc a hmem H ls st locs hst hm hm0
      have hseg := List.all_eq_true.mp hann _ hmem
      simp only [Bool.and_eq_true] at hseg
      obtain ⟨g1, g2⟩ := hseg
      have hst' := hst.seg g1
      refine cw_ex hy (hQ ρ1 ls hρ1) hnp hlw (fun y a' hl harr => ?_) f _ g2 H ls st locs hst'
      intro H' ls' st' locs' hs'
      unfold ck_arr at harr
      simp only [Bool.and_eq_true, beq_iff_eq] at harr
      obtain ⟨⟨⟨⟨e1, e2⟩, e3⟩, e4⟩, e5⟩ := harr
      obtain ⟨ρ, G, N, lv, z1, z2, z3, z4, z5, z6, z7⟩ := hs'
      have hs' : ck_st D AC S tab L M.2.2.1 (ck_sg ρ1 ls) G0 N0 s.heap y.2.1 H' ls' st' locs' := ⟨ρ, G, N, lv, z1, z2, z3, z4, z5, z6, z7⟩
      rw [e1, e2]
      have hlow : 0 ≤ ck_me a'.2.1 ls' := by
        split at e4
        · rename_i k hk
          have := ck_lb_ok z1 z2 hk
          have := of_decide_eq_true e4
          unfold ck_me
          omega
        · cases e4
      refine ih (ck_sg ρ1 ls) (fun g hg => by
        unfold ck_sg
        rw [if_neg (by omega)]
        exact hρ1 g hg) y.1 a' (ck_lk_mem hl) H' ls' st' locs' (hs'.le e3) ?_ hlow
      unfold ck_dec at e5
      split at e5
      · rename_i k lt hk
        split at e5
        · rename_i u hu
          have e5 := of_decide_eq_true e5
          have b1 := ck_eb_ok (σ := ck_lvI ls) (fun g q1 q2 => by
            rw [z7 g (by omega) q2]
            unfold ck_sg
            rw [if_pos ⟨q1, q2⟩]) z1 z2 hk
          obtain ⟨ρs, Gs, Ns, lvs, y1, y2, y3⟩ := hst
          have b2 := ck_ub_ok (σ := ck_lvI ls) (fun i q hq => by
            obtain ⟨u1, u2, -⟩ := ck_loc_int y1 y2 hq
            exact ⟨u1, u2⟩) hu
          rw [ck_subL_ev] at b2
          unfold ck_me at hm ⊢
          omega
        · cases e5
      · cases e5
  refine cw_entry (M := M) (K := K) hy.1.2.2.1 hargs hv hH hkn hwd ?_
  intro H ls st locs hst
  refine cw_ex hy (hQ ρ0 ls (fun _ _ => rfl)) hnp hlw (fun y a' hl harr => ?_) f _ hent H ls st locs (hst.seg hng)
  intro H' ls' st' locs' hs'
  unfold ck_arr at harr
  simp only [Bool.and_eq_true, beq_iff_eq] at harr
  obtain ⟨⟨⟨⟨e1, e2⟩, e3⟩, e4⟩, e5⟩ := harr
  obtain ⟨ρ, G, N, lv, z1, z2, z3, z4, z5, z6, z7⟩ := hs'
  have hs' : ck_st D AC S tab L M.2.2.1 (ck_sg ρ0 ls) G0 N0 s.heap y.2.1 H' ls' st' locs' := ⟨ρ, G, N, lv, z1, z2, z3, z4, z5, z6, z7⟩
  rw [e1, e2]
  have hlow : 0 ≤ ck_me a'.2.1 ls' := by
    split at e4
    · rename_i k hk
      have := ck_lb_ok z1 z2 hk
      have := of_decide_eq_true e4
      unfold ck_me
      omega
    · cases e4
  exact key (ck_me a'.2.1 ls' + 1).toNat (ck_sg ρ0 ls) (fun g hg => by
    unfold ck_sg
    rw [if_neg (by omega)]) y.1 a' (ck_lk_mem hl) H' ls' st' locs' (hs'.le e3) (by omega) hlow
/-- so it may be called -/
theorem ck_done {ops : List (Nat × List ck_O)} {ann : List (Nat × ck_An)} {f : Nat} (h : ck_meth E tab nS ms cts nt cod M K false ops ann f = true) (hE : ck_Eok ms E) (hEM : E.1 = M.1.cls) (hms : ∀ q ∈ ms, ck_Mok q) (hcts : ∀ q ∈ cts, ∃ M' : ck_MM, ms[q.1]? = some M' ∧ ck_Ok l tab nS M'.1 q.2) (hg : ck_Glob) (hcod : ∀ pc i n, ck_cdAt cod pc = some (i, n) → decode M.2.1 pc = .ok (i, n)) : ck_Ok l tab nS M K := by
  intro p e R s m args below meth c D AC S L ρ0 G0 N0 vs hB htr r1 r2 r3 r4 hKf hargs hv hH
  have hnp : N0.length = K.2.1.length := by
    rw [hH.2.1]
    match K.2.1 with
    | [] => rfl
    | (h, fs) :: t => rfl
  exact ck_run ⟨hB, htr, ⟨r1, r2, r3, r4⟩, hKf, hE, hEM, hms, hcts, hg, hcod⟩ hnp (fun h => by cases h) h hargs hv hH
end CKME
end
section
/-! ===== the classes' links, printed ===== -/
def ck_pw (p : Nat) (w : Cond) : Bool := decide (tables_1[p]? = some w) && ck_mv w
theorem ck_pw_ok {p : Nat} {w : Cond} (h : ck_pw p w = true) : w ∈ ck_tb := by
  unfold ck_pw at h
  simp only [Bool.and_eq_true, decide_eq_true_eq] at h
  exact ck_tabi p h.1 h.2
def ck_vf (own : String) (q : Nat × Nat × Nat × Nat) : Bool := match ck_cl[q.2.2.1]? with
  | some (C, TT, n) => decide (q.2.2.2 < n) && ck_pw q.1 (.fieldLink own q.2.1 C (TT q.2.2.2).2.1 (TT q.2.2.2).2.2.1)
  | none => false
theorem ck_vf_ok {own : String} {l : List (Nat × Nat × Nat × Nat)} (h : l.all (ck_vf own) = true) : ∀ q ∈ l.map (fun q => q.2), ck_lnk own q.1 q.2.1 q.2.2 := by
  intro q hq
  obtain ⟨r, hr, rfl⟩ := List.mem_map.mp hq
  have := List.all_eq_true.mp h r hr
  unfold ck_vf at this
  split at this
  · rename_i C TT n hc
    simp only [Bool.and_eq_true, decide_eq_true_eq] at this
    exact ⟨C, TT, n, hc, this.1, ck_pw_ok this.2⟩
  · cases this
def ck_vk (own : String) (q : Nat × Nat × Int) : Bool := ck_iok q.2.2 q.2.2 && ck_pw q.1 (.constant own q.2.1 (Int32.ofInt q.2.2))
theorem ck_vk_ok {own : String} {l : List (Nat × Nat × Int)} (h : l.all (ck_vk own) = true) : ∀ q ∈ l.map (fun q => q.2), ∃ v : Int32, v.toInt = q.2 ∧ Cond.constant own q.1 v ∈ ck_tb := by
  intro q hq
  obtain ⟨r, hr, rfl⟩ := List.mem_map.mp hq
  have := List.all_eq_true.mp h r hr
  unfold ck_vk at this
  simp only [Bool.and_eq_true] at this
  have hb := ck_iok_of this.1
  exact ⟨_, ck_ofInt hb.1 hb.2, ck_pw_ok this.2⟩
def ck_vj (own : String) (q : Nat × Nat × Int) : Bool := decide (-9223372036854775808 ≤ q.2.2) && decide (q.2.2 ≤ 9223372036854775807) && ck_pw q.1 (.constantLong own q.2.1 (Int64.ofInt q.2.2))
theorem ck_vj_ok {own : String} {l : List (Nat × Nat × Int)} (h : l.all (ck_vj own) = true) : ∀ q ∈ l.map (fun q => q.2), ∃ v : Int64, v.toInt = q.2 ∧ Cond.constantLong own q.1 v ∈ ck_tb := by
  intro q hq
  obtain ⟨r, hr, rfl⟩ := List.mem_map.mp hq
  have := List.all_eq_true.mp h r hr
  unfold ck_vj at this
  simp only [Bool.and_eq_true, decide_eq_true_eq] at this
  exact ⟨_, ck_ofInt64 this.1.1 this.1.2, ck_pw_ok this.2⟩
def ck_vn (own : String) (q : Nat × Nat × Nat) : Bool := match ck_cl[q.2.2]? with
  | some (C, _, _) => ck_pw q.1 (.classLink own q.2.1 C)
  | none => false
theorem ck_vn_ok {own : String} {l : List (Nat × Nat × Nat)} (h : l.all (ck_vn own) = true) : ∀ q ∈ l.map (fun q => q.2), ∃ (C : String) (TT : u_T) (n : Nat), ck_cl[q.2]? = some (C, TT, n) ∧ Cond.classLink own q.1 C ∈ ck_tb := by
  intro q hq
  obtain ⟨r, hr, rfl⟩ := List.mem_map.mp hq
  have := List.all_eq_true.mp h r hr
  unfold ck_vn at this
  split at this
  · rename_i C TT n hc
    exact ⟨C, TT, n, hc, ck_pw_ok this⟩
  · cases this
def ck_va (own : String) (q : (Nat × Nat) × Nat × Nat) : Bool := match ck_tyK q.2.2 with
  | some (.object C) => ck_pw q.1.1 (.classLink own q.2.1 C) && ck_pw q.1.2 (.arrayOver (.object C))
  | _ => false
theorem ck_va_ok {own : String} {l : List ((Nat × Nat) × Nat × Nat)} (h : l.all (ck_va own) = true) : ∀ q ∈ l.map (fun q => q.2), ∃ C : String, ck_tyK q.2 = some (.object C) ∧ Cond.classLink own q.1 C ∈ ck_tb ∧ Cond.arrayOver (.object C) ∈ ck_tb := by
  intro q hq
  obtain ⟨r, hr, rfl⟩ := List.mem_map.mp hq
  have := List.all_eq_true.mp h r hr
  unfold ck_va at this
  split at this
  · rename_i C hc
    simp only [Bool.and_eq_true] at this
    exact ⟨C, hc, ck_pw_ok this.1, ck_pw_ok this.2⟩
  · cases this
def ck_vg (own : String) (q : Nat × Nat × Nat) : Bool := decide (q.2.2 < 2) && ck_pw q.1 (.fieldLink own q.2.1 "RatchetDesk$Hash" (ck_roots q.2.2) "[I")
theorem ck_vg_ok {own : String} {l : List (Nat × Nat × Nat)} (h : l.all (ck_vg own) = true) : ∀ q ∈ l.map (fun q => q.2), q.2 < 2 ∧ Cond.fieldLink own q.1 "RatchetDesk$Hash" (ck_roots q.2) "[I" ∈ ck_tb := by
  intro q hq
  obtain ⟨r, hr, rfl⟩ := List.mem_map.mp hq
  have := List.all_eq_true.mp h r hr
  unfold ck_vg at this
  simp only [Bool.and_eq_true, decide_eq_true_eq] at this
  exact ⟨this.1, ck_pw_ok this.2⟩
def ck_vx (own : String) (q : Nat × Nat × Nat) : Bool := decide (q.2.2 < 3) && !(q.2.1 == 0) && ck_pw q.1 (.classLink own q.2.1 (ck_xn q.2.2))
theorem ck_vx_ok {own : String} {l : List (Nat × Nat × Nat)} (h : l.all (ck_vx own) = true) : ∀ q ∈ l.map (fun q => q.2), Cond.classLink own q.1 (ck_xn q.2) ∈ ck_tb ∧ q.2 < 3 ∧ q.1 ≠ 0 := by
  intro q hq
  obtain ⟨r, hr, rfl⟩ := List.mem_map.mp hq
  have := List.all_eq_true.mp h r hr
  unfold ck_vx at this
  simp only [Bool.and_eq_true, decide_eq_true_eq, Bool.not_eq_true'] at this
  exact ⟨ck_pw_ok this.2, this.1.1, by simpa using this.1.2⟩
def ck_vi (own : String) (q : Nat × Nat) : Bool := (Jvm.Bundle.ownAtoms own q.1 (ck_xn q.2) ck_up2).all (fun w => decide (w ∈ ck_4) || (decide (w ∈ tables_1) && ck_mv w))
theorem ck_vi_ok {own : String} {l : List (Nat × Nat)} (h : l.all (ck_vi own) = true) : ∀ q ∈ l, ∀ w ∈ Jvm.Bundle.ownAtoms own q.1 (ck_xn q.2) ck_up2, w ∈ ck_tb ∨ w ∈ ck_4 := by
  intro q hq w hw
  have := List.all_eq_true.mp (List.all_eq_true.mp h q hq) w hw
  simp only [Bool.or_eq_true, Bool.and_eq_true, decide_eq_true_eq] at this
  rcases this with z | ⟨z1, z2⟩
  · exact Or.inr z
  · exact Or.inl (ck_tab z1 z2)
def ck_vm (ms : List ck_MM) (own : String) (q : (Nat × String) × Nat × Nat) : Bool := match ms[q.2.2]? with
  | some M => if q.1.2 = "" then ck_pw q.1.1 (.methodLink own q.2.1 M.1.1) else ck_pw q.1.1 (.methodLinkNest own q.2.1 M.1.1 q.1.2)
  | none => false
theorem ck_vm_ok {ms : List ck_MM} {own : String} {l : List ((Nat × String) × Nat × Nat)} (h : l.all (ck_vm ms own) = true) : ∀ q ∈ l.map (fun q => q.2), ∃ M : ck_MM, ms[q.2]? = some M ∧ (Cond.methodLink own q.1 M.1.1 ∈ ck_tb ∨ ∃ host, Cond.methodLinkNest own q.1 M.1.1 host ∈ ck_tb) := by
  intro q hq
  obtain ⟨r, hr, rfl⟩ := List.mem_map.mp hq
  have := List.all_eq_true.mp h r hr
  unfold ck_vm at this
  split at this
  · rename_i M hM
    split at this
    · exact ⟨M, hM, Or.inl (ck_pw_ok this)⟩
    · exact ⟨M, hM, Or.inr ⟨_, ck_pw_ok this⟩⟩
  · cases this
def ck_vc (own : String) (q : Nat × Nat) : Bool := ck_pw q.1 (.methodLink own q.2 arraycopyName)
theorem ck_vc_ok {own : String} {l : List (Nat × Nat)} (h : l.all (ck_vc own) = true) : ∀ q ∈ l.map (fun q => q.2), Cond.methodLink own q arraycopyName ∈ ck_tb := by
  intro q hq
  obtain ⟨r, hr, rfl⟩ := List.mem_map.mp hq
  exact ck_pw_ok (List.all_eq_true.mp h r hr)
def ck_vo (own : String) (q : Nat × Nat) : Bool := ck_pw q.1 (.methodLink own q.2 Lib.objectInit)
theorem ck_vo_ok {own : String} {l : List (Nat × Nat)} (h : l.all (ck_vo own) = true) : ∀ q ∈ l.map (fun q => q.2), Cond.methodLink own q Lib.objectInit ∈ ck_tb := by
  intro q hq
  obtain ⟨r, hr, rfl⟩ := List.mem_map.mp hq
  exact ck_pw_ok (List.all_eq_true.mp h r hr)
def ck_v2 (own : String) (q : Nat × Nat) : Bool := ck_pw q.1 (.classLink own q.2 "[[I")
theorem ck_v2_ok {own : String} {l : List (Nat × Nat)} (h : l.all (ck_v2 own) = true) : ∀ q ∈ l.map (fun q => q.2), Cond.classLink own q "[[I" ∈ ck_tb := by
  intro q hq
  obtain ⟨r, hr, rfl⟩ := List.mem_map.mp hq
  exact ck_pw_ok (List.all_eq_true.mp h r hr)
end
section
/-! ===== the methods, printed ===== -/
def cm_0 : ck_MM := ((⟨"RatchetDeskLaw", "cell", "([II)I"⟩, method_2_code, 2, some .int, []), 0, 2, 99)
set_option maxRecDepth 100000 in
theorem cm_k0 : ck_Mok cm_0 := ⟨Or.inl ⟨rfl, ck_tabi 428 rfl rfl⟩, by decide +kernel, by decide +kernel, by decide +kernel, ⟨ck_tabi 427 (by decide +kernel) rfl, ck_tabi 0 (by decide +kernel) rfl⟩⟩
def cm_1 : ck_MM := ((⟨"RatchetDesk$Secret", "<init>", "()V"⟩, prog_10_method_1_code, 1, none, []), 2, 0, 1)
set_option maxRecDepth 100000 in
theorem cm_k1 : ck_Mok cm_1 := ⟨Or.inl ⟨rfl, ck_tabi 40 rfl rfl⟩, by decide +kernel, by decide +kernel, by decide +kernel, ⟨ck_tabi 39 (by decide +kernel) rfl, rfl, ck_tabi 40 rfl rfl⟩⟩
def cm_2 : ck_MM := ((⟨"RatchetDesk$Hash", "<init>", "()V"⟩, prog_5_method_1_code, 1, none, []), 2, 0, 3)
set_option maxRecDepth 100000 in
theorem cm_k2 : ck_Mok cm_2 := ⟨Or.inl ⟨rfl, ck_tabi 65 rfl rfl⟩, by decide +kernel, by decide +kernel, by decide +kernel, ⟨ck_tabi 64 (by decide +kernel) rfl, rfl, ck_tabi 65 rfl rfl⟩⟩
def cm_3 : ck_MM := ((⟨"RatchetDesk$Curve", "<init>", "()V"⟩, prog_3_method_1_code, 1, none, []), 2, 0, 4)
set_option maxRecDepth 100000 in
theorem cm_k3 : ck_Mok cm_3 := ⟨Or.inl ⟨rfl, ck_tabi 98 rfl rfl⟩, by decide +kernel, by decide +kernel, by decide +kernel, ⟨ck_tabi 97 (by decide +kernel) rfl, rfl, ck_tabi 98 rfl rfl⟩⟩
def cm_4 : ck_MM := ((⟨"RatchetDesk$Seal", "<init>", "()V"⟩, prog_9_method_1_code, 1, none, []), 2, 0, 5)
set_option maxRecDepth 100000 in
theorem cm_k4 : ck_Mok cm_4 := ⟨Or.inl ⟨rfl, ck_tabi 146 rfl rfl⟩, by decide +kernel, by decide +kernel, by decide +kernel, ⟨ck_tabi 145 (by decide +kernel) rfl, rfl, ck_tabi 146 rfl rfl⟩⟩
def cm_5 : ck_MM := ((⟨"RatchetDesk$Tools", "<init>", "()V"⟩, prog_11_method_1_code, 1, none, []), 2, 0, 2)
set_option maxRecDepth 100000 in
theorem cm_k5 : ck_Mok cm_5 := ⟨Or.inl ⟨rfl, ck_tabi 59 rfl rfl⟩, by decide +kernel, by decide +kernel, by decide +kernel, ⟨ck_tabi 58 (by decide +kernel) rfl, rfl, ck_tabi 59 rfl rfl⟩⟩
def cm_6 : ck_MM := ((⟨"RatchetDesk$Chain", "<init>", "()V"⟩, prog_2_method_1_code, 1, none, []), 2, 0, 7)
set_option maxRecDepth 100000 in
theorem cm_k6 : ck_Mok cm_6 := ⟨Or.inl ⟨rfl, ck_tabi 202 rfl rfl⟩, by decide +kernel, by decide +kernel, by decide +kernel, ⟨ck_tabi 201 (by decide +kernel) rfl, rfl, ck_tabi 202 rfl rfl⟩⟩
def cm_7 : ck_MM := ((⟨"RatchetDesk$KeptKeys", "<init>", "()V"⟩, prog_6_method_1_code, 1, none, []), 2, 0, 8)
set_option maxRecDepth 100000 in
theorem cm_k7 : ck_Mok cm_7 := ⟨Or.inl ⟨rfl, ck_tabi 223 rfl rfl⟩, by decide +kernel, by decide +kernel, by decide +kernel, ⟨ck_tabi 222 (by decide +kernel) rfl, rfl, ck_tabi 223 rfl rfl⟩⟩
def cm_8 : ck_MM := ((⟨"RatchetDesk$End", "<init>", "()V"⟩, prog_4_method_1_code, 1, none, []), 2, 0, 6)
set_option maxRecDepth 100000 in
theorem cm_k8 : ck_Mok cm_8 := ⟨Or.inl ⟨rfl, ck_tabi 194 rfl rfl⟩, by decide +kernel, by decide +kernel, by decide +kernel, ⟨ck_tabi 193 (by decide +kernel) rfl, rfl, ck_tabi 194 rfl rfl⟩⟩
def cm_9 : ck_MM := ((⟨"RatchetDesk$Person", "<init>", "()V"⟩, prog_8_method_1_code, 2, none, []), 2, 0, 9)
set_option maxRecDepth 100000 in
theorem cm_k9 : ck_Mok cm_9 := ⟨Or.inl ⟨rfl, ck_tabi 299 rfl rfl⟩, by decide +kernel, by decide +kernel, by decide +kernel, ⟨ck_tabi 298 (by decide +kernel) rfl, rfl, ck_tabi 299 rfl rfl⟩⟩
def cm_10 : ck_MM := ((⟨"RatchetDesk$Letter", "<init>", "()V"⟩, prog_7_method_1_code, 1, none, []), 2, 0, 10)
set_option maxRecDepth 100000 in
theorem cm_k10 : ck_Mok cm_10 := ⟨Or.inl ⟨rfl, ck_tabi 327 rfl rfl⟩, by decide +kernel, by decide +kernel, by decide +kernel, ⟨ck_tabi 326 (by decide +kernel) rfl, rfl, ck_tabi 327 rfl rfl⟩⟩
def cm_11 : ck_MM := ((⟨"RatchetDesk$Hash", "start", "()V"⟩, prog_5_method_2_code, 1, none, []), 1, 0, 3)
set_option maxRecDepth 100000 in
theorem cm_k11 : ck_Mok cm_11 := ⟨Or.inl ⟨rfl, ck_tabi 356 rfl rfl⟩, by decide +kernel, by decide +kernel, by decide +kernel, ⟨ck_tabi 354 (by decide +kernel) rfl, ck_tabi 355 (by decide +kernel) rfl, _, _, rfl⟩⟩
def cm_12 : ck_MM := ((⟨"RatchetDesk$Hash", "add", "(I)V"⟩, prog_5_method_3_code, 2, none, []), 1, 1, 3)
set_option maxRecDepth 100000 in
theorem cm_k12 : ck_Mok cm_12 := ⟨Or.inl ⟨rfl, ck_tabi 364 rfl rfl⟩, by decide +kernel, by decide +kernel, by decide +kernel, ⟨ck_tabi 362 (by decide +kernel) rfl, ck_tabi 363 (by decide +kernel) rfl, _, _, rfl⟩⟩
def cm_13 : ck_MM := ((⟨"RatchetDesk$Hash", "addWord", "(I)V"⟩, prog_5_method_5_code, 3, none, []), 1, 1, 3)
set_option maxRecDepth 100000 in
theorem cm_k13 : ck_Mok cm_13 := ⟨Or.inl ⟨rfl, ck_tabi 360 rfl rfl⟩, by decide +kernel, by decide +kernel, by decide +kernel, ⟨ck_tabi 358 (by decide +kernel) rfl, ck_tabi 359 (by decide +kernel) rfl, _, _, rfl⟩⟩
def cm_14 : ck_MM := ((⟨"RatchetDesk$Hash", "fillWords", "(I)V"⟩, prog_5_method_11_code, 7, none, []), 1, 1, 3)
set_option maxRecDepth 100000 in
theorem cm_k14 : ck_Mok cm_14 := ⟨Or.inl ⟨rfl, ck_tabi 377 rfl rfl⟩, by decide +kernel, by decide +kernel, by decide +kernel, ⟨ck_tabi 376 (by decide +kernel) rfl, ck_seli 2 (by decide +kernel) rfl, _, _, rfl⟩⟩
def cm_15 : ck_MM := ((⟨"RatchetDesk$Hash", "mixWords", "()V"⟩, prog_5_method_12_code, 12, none, []), 1, 0, 3)
set_option maxRecDepth 100000 in
theorem cm_k15 : ck_Mok cm_15 := ⟨Or.inl ⟨rfl, ck_tabi 381 rfl rfl⟩, by decide +kernel, by decide +kernel, by decide +kernel, ⟨ck_tabi 380 (by decide +kernel) rfl, ck_seli 3 (by decide +kernel) rfl, _, _, rfl⟩⟩
def cm_16 : ck_MM := ((⟨"RatchetDesk$Hash", "finish", "([I)V"⟩, prog_5_method_6_code, 4, none, []), 1, 1, 3)
set_option maxRecDepth 100000 in
theorem cm_k16 : ck_Mok cm_16 := ⟨Or.inl ⟨rfl, ck_tabi 368 rfl rfl⟩, by decide +kernel, by decide +kernel, by decide +kernel, ⟨ck_tabi 366 (by decide +kernel) rfl, ck_tabi 367 (by decide +kernel) rfl, _, _, rfl⟩⟩
def cm_17 : ck_MM := ((⟨"RatchetDesk$Secret", "make", "(IILRatchetDesk$Hash;)V"⟩, prog_10_method_2_code, 4, none, []), 1, 3, 1)
set_option maxRecDepth 100000 in
theorem cm_k17 : ck_Mok cm_17 := ⟨Or.inl ⟨rfl, ck_tabi 352 rfl rfl⟩, by decide +kernel, by decide +kernel, by decide +kernel, ⟨ck_tabi 350 (by decide +kernel) rfl, ck_tabi 351 (by decide +kernel) rfl, _, _, rfl⟩⟩
def cm_18 : ck_MM := ((⟨"RatchetDesk", "makeSecret", "(LRatchetDesk$Secret;)V"⟩, prog_1_method_26_code, 2, none, []), 1, 1, 0)
set_option maxRecDepth 100000 in
theorem cm_k18 : ck_Mok cm_18 := ⟨Or.inl ⟨rfl, ck_tabi 348 rfl rfl⟩, by decide +kernel, by decide +kernel, by decide +kernel, ⟨ck_tabi 347 (by decide +kernel) rfl, ck_seli 1 (by decide +kernel) rfl, _, _, rfl⟩⟩
def cm_19 : ck_MM := ((⟨"RatchetDesk", "makeFirstSecrets", "()V"⟩, prog_1_method_25_code, 2, none, []), 1, 0, 0)
set_option maxRecDepth 100000 in
theorem cm_k19 : ck_Mok cm_19 := ⟨Or.inl ⟨rfl, ck_tabi 344 rfl rfl⟩, by decide +kernel, by decide +kernel, by decide +kernel, ⟨ck_tabi 343 (by decide +kernel) rfl, ck_seli 0 (by decide +kernel) rfl, _, _, rfl⟩⟩
def cm_20 : ck_MM := ((⟨"RatchetDesk", "<init>", "(I)V"⟩, prog_1_method_1_code, 3, none, []), 2, 1, 0)
set_option maxRecDepth 100000 in
theorem cm_k20 : ck_Mok cm_20 := ⟨Or.inl ⟨rfl, ck_tabi 24 rfl rfl⟩, by decide +kernel, by decide +kernel, by decide +kernel, ⟨ck_tabi 23 (by decide +kernel) rfl, rfl, ck_tabi 24 rfl rfl⟩⟩
def cm_21 : ck_MM := ((⟨"RatchetDeskModel", "four", "(IIIII)V"⟩, prog_13_method_2_code, 6, none, []), 1, 5, 11)
set_option maxRecDepth 100000 in
theorem cm_k21 : ck_Mok cm_21 := ⟨Or.inl ⟨rfl, ck_tabi 970 rfl rfl⟩, by decide +kernel, by decide +kernel, by decide +kernel, ⟨ck_tabi 969 (by decide +kernel) rfl, ck_seli 14 (by decide +kernel) rfl, _, _, rfl⟩⟩
def cm_22 : ck_MM := ((⟨"RatchetDeskModel", "<init>", "(I)V"⟩, prog_13_method_1_code, 2, none, []), 2, 1, 11)
set_option maxRecDepth 100000 in
theorem cm_k22 : ck_Mok cm_22 := ⟨Or.inl ⟨rfl, ck_tabi 961 rfl rfl⟩, by decide +kernel, by decide +kernel, by decide +kernel, ⟨ck_tabi 960 (by decide +kernel) rfl, rfl, ck_tabi 961 rfl rfl⟩⟩
def cm_23 : ck_MM := ((⟨"RatchetDesk", "checkIndex", "(II)V"⟩, prog_1_method_23_code, 2, none, []), 0, 2, 0)
set_option maxRecDepth 100000 in
theorem cm_k23 : ck_Mok cm_23 := ⟨Or.inl ⟨rfl, ck_tabi 439 rfl rfl⟩, by decide +kernel, by decide +kernel, by decide +kernel, ⟨ck_tabi 438 (by decide +kernel) rfl, ck_tabi 1 (by decide +kernel) rfl⟩⟩
def cm_24 : ck_MM := ((⟨"RatchetDesk", "word", "(III)J"⟩, prog_1_method_22_code, 5, some .long, []), 1, 3, 0)
set_option maxRecDepth 100000 in
theorem cm_k24 : ck_Mok cm_24 := ⟨Or.inl ⟨rfl, ck_tabi 956 rfl rfl⟩, by decide +kernel, by decide +kernel, by decide +kernel, ⟨ck_tabi 954 (by decide +kernel) rfl, ck_tabi 955 (by decide +kernel) rfl, _, _, rfl⟩⟩
def cm_25 : ck_MM := ((⟨"RatchetDeskLaw", "word", "(LRatchetDesk;III[J)I"⟩, method_21_code, 6, some .int, [(0, 11, 14, 13)]), 0, 5, 99)
set_option maxRecDepth 100000 in
theorem cm_k25 : ck_Mok cm_25 := ⟨Or.inr (ck_tabi 952 rfl rfl), by decide +kernel, by decide +kernel, by decide +kernel, ⟨ck_tabi 951 (by decide +kernel) rfl, ck_tabi 0 (by decide +kernel) rfl⟩⟩
def cm_26 : ck_MM := ((⟨"RatchetDeskModel", "isIn", "(II)Z"⟩, prog_13_method_5_code, 2, some .boolean, []), 0, 2, 11)
set_option maxRecDepth 100000 in
theorem cm_k26 : ck_Mok cm_26 := ⟨Or.inl ⟨rfl, ck_tabi 1162 rfl rfl⟩, by decide +kernel, by decide +kernel, by decide +kernel, ⟨ck_tabi 1161 (by decide +kernel) rfl, ck_tabi 13 (by decide +kernel) rfl⟩⟩
def cm_27 : ck_MM := ((⟨"RatchetDeskModel", "refused", "(I)Z"⟩, prog_13_method_4_code, 2, some .boolean, []), 1, 1, 11)
set_option maxRecDepth 100000 in
theorem cm_k27 : ck_Mok cm_27 := ⟨Or.inl ⟨rfl, ck_tabi 1166 rfl rfl⟩, by decide +kernel, by decide +kernel, by decide +kernel, ⟨ck_tabi 1165 (by decide +kernel) rfl, ck_seli 15 (by decide +kernel) rfl, _, _, rfl⟩⟩
def cm_28 : ck_MM := ((⟨"RatchetDeskModel", "word", "(III)J"⟩, prog_13_method_70_code, 4, some .long, []), 1, 3, 11)
set_option maxRecDepth 100000 in
theorem cm_k28 : ck_Mok cm_28 := ⟨Or.inl ⟨rfl, ck_tabi 1427 rfl rfl⟩, by decide +kernel, by decide +kernel, by decide +kernel, ⟨ck_tabi 1425 (by decide +kernel) rfl, ck_tabi 1426 (by decide +kernel) rfl, _, _, rfl⟩⟩
def cm_29 : ck_MM := ((⟨"RatchetDeskModel", "thrown", "()I"⟩, prog_13_method_3_code, 1, some .int, []), 1, 0, 11)
set_option maxRecDepth 100000 in
theorem cm_k29 : ck_Mok cm_29 := ⟨Or.inl ⟨rfl, ck_tabi 1155 rfl rfl⟩, by decide +kernel, by decide +kernel, by decide +kernel, ⟨ck_tabi 1153 (by decide +kernel) rfl, ck_tabi 1154 (by decide +kernel) rfl, _, _, rfl⟩⟩
def cm_30 : ck_MM := ((⟨"RatchetDesk", "keeps", "(II)Z"⟩, prog_1_method_21_code, 3, some .boolean, []), 1, 2, 0)
set_option maxRecDepth 100000 in
theorem cm_k30 : ck_Mok cm_30 := ⟨Or.inl ⟨rfl, ck_tabi 948 rfl rfl⟩, by decide +kernel, by decide +kernel, by decide +kernel, ⟨ck_tabi 946 (by decide +kernel) rfl, ck_tabi 947 (by decide +kernel) rfl, _, _, rfl⟩⟩
def cm_31 : ck_MM := ((⟨"RatchetDeskLaw", "keeps", "(LRatchetDesk;II[J)I"⟩, method_20_code, 5, some .int, [(0, 17, 20, 13)]), 0, 4, 99)
set_option maxRecDepth 100000 in
theorem cm_k31 : ck_Mok cm_31 := ⟨Or.inr (ck_tabi 944 rfl rfl), by decide +kernel, by decide +kernel, by decide +kernel, ⟨ck_tabi 943 (by decide +kernel) rfl, ck_tabi 0 (by decide +kernel) rfl⟩⟩
def cm_32 : ck_MM := ((⟨"RatchetDeskModel", "keeps", "(II)Z"⟩, prog_13_method_69_code, 3, some .boolean, []), 1, 2, 11)
set_option maxRecDepth 100000 in
theorem cm_k32 : ck_Mok cm_32 := ⟨Or.inl ⟨rfl, ck_tabi 1423 rfl rfl⟩, by decide +kernel, by decide +kernel, by decide +kernel, ⟨ck_tabi 1421 (by decide +kernel) rfl, ck_tabi 1422 (by decide +kernel) rfl, _, _, rfl⟩⟩
def cm_33 : ck_MM := ((⟨"RatchetDesk", "count", "(II)I"⟩, prog_1_method_20_code, 4, some .int, []), 1, 2, 0)
set_option maxRecDepth 100000 in
theorem cm_k33 : ck_Mok cm_33 := ⟨Or.inl ⟨rfl, ck_tabi 941 rfl rfl⟩, by decide +kernel, by decide +kernel, by decide +kernel, ⟨ck_tabi 939 (by decide +kernel) rfl, ck_tabi 940 (by decide +kernel) rfl, _, _, rfl⟩⟩
def cm_34 : ck_MM := ((⟨"RatchetDeskLaw", "count", "(LRatchetDesk;II[J)I"⟩, method_19_code, 5, some .int, [(0, 10, 13, 13)]), 0, 4, 99)
set_option maxRecDepth 100000 in
theorem cm_k34 : ck_Mok cm_34 := ⟨Or.inr (ck_tabi 937 rfl rfl), by decide +kernel, by decide +kernel, by decide +kernel, ⟨ck_tabi 936 (by decide +kernel) rfl, ck_tabi 0 (by decide +kernel) rfl⟩⟩
def cm_35 : ck_MM := ((⟨"RatchetDeskModel", "count", "(II)I"⟩, prog_13_method_68_code, 3, some .int, []), 1, 2, 11)
set_option maxRecDepth 100000 in
theorem cm_k35 : ck_Mok cm_35 := ⟨Or.inl ⟨rfl, ck_tabi 1419 rfl rfl⟩, by decide +kernel, by decide +kernel, by decide +kernel, ⟨ck_tabi 1417 (by decide +kernel) rfl, ck_tabi 1418 (by decide +kernel) rfl, _, _, rfl⟩⟩
def cm_36 : ck_MM := ((⟨"RatchetDesk", "wire", "(II)I"⟩, prog_1_method_19_code, 3, some .int, []), 1, 2, 0)
set_option maxRecDepth 100000 in
theorem cm_k36 : ck_Mok cm_36 := ⟨Or.inl ⟨rfl, ck_tabi 934 rfl rfl⟩, by decide +kernel, by decide +kernel, by decide +kernel, ⟨ck_tabi 932 (by decide +kernel) rfl, ck_tabi 933 (by decide +kernel) rfl, _, _, rfl⟩⟩
def cm_37 : ck_MM := ((⟨"RatchetDeskLaw", "wire", "(LRatchetDesk;II[J)I"⟩, method_18_code, 5, some .int, [(0, 10, 13, 13)]), 0, 4, 99)
set_option maxRecDepth 100000 in
theorem cm_k37 : ck_Mok cm_37 := ⟨Or.inr (ck_tabi 930 rfl rfl), by decide +kernel, by decide +kernel, by decide +kernel, ⟨ck_tabi 929 (by decide +kernel) rfl, ck_tabi 0 (by decide +kernel) rfl⟩⟩
def cm_38 : ck_MM := ((⟨"RatchetDeskModel", "wire", "(II)I"⟩, prog_13_method_67_code, 4, some .int, []), 1, 2, 11)
set_option maxRecDepth 100000 in
theorem cm_k38 : ck_Mok cm_38 := ⟨Or.inl ⟨rfl, ck_tabi 1415 rfl rfl⟩, by decide +kernel, by decide +kernel, by decide +kernel, ⟨ck_tabi 1413 (by decide +kernel) rfl, ck_tabi 1414 (by decide +kernel) rfl, _, _, rfl⟩⟩
def cm_39 : ck_MM := ((⟨"RatchetDesk", "length", "(I)I"⟩, prog_1_method_18_code, 2, some .int, []), 1, 1, 0)
set_option maxRecDepth 100000 in
theorem cm_k39 : ck_Mok cm_39 := ⟨Or.inl ⟨rfl, ck_tabi 927 rfl rfl⟩, by decide +kernel, by decide +kernel, by decide +kernel, ⟨ck_tabi 925 (by decide +kernel) rfl, ck_tabi 926 (by decide +kernel) rfl, _, _, rfl⟩⟩
def cm_40 : ck_MM := ((⟨"RatchetDeskLaw", "length", "(LRatchetDesk;I[J)I"⟩, method_17_code, 4, some .int, [(0, 9, 12, 13)]), 0, 3, 99)
set_option maxRecDepth 100000 in
theorem cm_k40 : ck_Mok cm_40 := ⟨Or.inr (ck_tabi 923 rfl rfl), by decide +kernel, by decide +kernel, by decide +kernel, ⟨ck_tabi 922 (by decide +kernel) rfl, ck_tabi 0 (by decide +kernel) rfl⟩⟩
def cm_41 : ck_MM := ((⟨"RatchetDeskModel", "length", "(I)I"⟩, prog_13_method_66_code, 2, some .int, []), 1, 1, 11)
set_option maxRecDepth 100000 in
theorem cm_k41 : ck_Mok cm_41 := ⟨Or.inl ⟨rfl, ck_tabi 1411 rfl rfl⟩, by decide +kernel, by decide +kernel, by decide +kernel, ⟨ck_tabi 1409 (by decide +kernel) rfl, ck_tabi 1410 (by decide +kernel) rfl, _, _, rfl⟩⟩
def cm_42 : ck_MM := ((⟨"RatchetDesk", "letters", "()I"⟩, prog_1_method_17_code, 1, some .int, []), 1, 0, 0)
set_option maxRecDepth 100000 in
theorem cm_k42 : ck_Mok cm_42 := ⟨Or.inl ⟨rfl, ck_tabi 425 rfl rfl⟩, by decide +kernel, by decide +kernel, by decide +kernel, ⟨ck_tabi 423 (by decide +kernel) rfl, ck_tabi 424 (by decide +kernel) rfl, _, _, rfl⟩⟩
def cm_43 : ck_MM := ((⟨"RatchetDeskModel", "letters", "()I"⟩, prog_13_method_65_code, 1, some .int, []), 1, 0, 11)
set_option maxRecDepth 100000 in
theorem cm_k43 : ck_Mok cm_43 := ⟨Or.inl ⟨rfl, ck_tabi 1407 rfl rfl⟩, by decide +kernel, by decide +kernel, by decide +kernel, ⟨ck_tabi 1405 (by decide +kernel) rfl, ck_tabi 1406 (by decide +kernel) rfl, _, _, rfl⟩⟩
def cm_44 : ck_MM := ((⟨"RatchetDesk", "person", "(IZ)I"⟩, prog_1_method_16_code, 3, some .int, []), 1, 2, 0)
set_option maxRecDepth 100000 in
theorem cm_k44 : ck_Mok cm_44 := ⟨Or.inl ⟨rfl, ck_tabi 920 rfl rfl⟩, by decide +kernel, by decide +kernel, by decide +kernel, ⟨ck_tabi 918 (by decide +kernel) rfl, ck_tabi 919 (by decide +kernel) rfl, _, _, rfl⟩⟩
def cm_45 : ck_MM := ((⟨"RatchetDeskLaw", "person", "(LRatchetDesk;IZ[J)I"⟩, method_16_code, 5, some .int, [(0, 10, 13, 13)]), 0, 4, 99)
set_option maxRecDepth 100000 in
theorem cm_k45 : ck_Mok cm_45 := ⟨Or.inr (ck_tabi 916 rfl rfl), by decide +kernel, by decide +kernel, by decide +kernel, ⟨ck_tabi 915 (by decide +kernel) rfl, ck_tabi 0 (by decide +kernel) rfl⟩⟩
def cm_46 : ck_MM := ((⟨"RatchetDeskModel", "person", "(IZ)I"⟩, prog_13_method_64_code, 3, some .int, []), 1, 2, 11)
set_option maxRecDepth 100000 in
theorem cm_k46 : ck_Mok cm_46 := ⟨Or.inl ⟨rfl, ck_tabi 1403 rfl rfl⟩, by decide +kernel, by decide +kernel, by decide +kernel, ⟨ck_tabi 1401 (by decide +kernel) rfl, ck_tabi 1402 (by decide +kernel) rfl, _, _, rfl⟩⟩
def cm_47 : ck_MM := ((⟨"RatchetDesk", "ends", "()I"⟩, prog_1_method_15_code, 1, some .int, []), 1, 0, 0)
set_option maxRecDepth 100000 in
theorem cm_k47 : ck_Mok cm_47 := ⟨Or.inl ⟨rfl, ck_tabi 421 rfl rfl⟩, by decide +kernel, by decide +kernel, by decide +kernel, ⟨ck_tabi 419 (by decide +kernel) rfl, ck_tabi 420 (by decide +kernel) rfl, _, _, rfl⟩⟩
def cm_48 : ck_MM := ((⟨"RatchetDeskModel", "ends", "()I"⟩, prog_13_method_63_code, 1, some .int, []), 1, 0, 11)
set_option maxRecDepth 100000 in
theorem cm_k48 : ck_Mok cm_48 := ⟨Or.inl ⟨rfl, ck_tabi 1399 rfl rfl⟩, by decide +kernel, by decide +kernel, by decide +kernel, ⟨ck_tabi 1397 (by decide +kernel) rfl, ck_tabi 1398 (by decide +kernel) rfl, _, _, rfl⟩⟩
def cm_49 : ck_MM := ((⟨"RatchetDesk", "text", "(I)J"⟩, prog_1_method_14_code, 2, some .long, []), 1, 1, 0)
set_option maxRecDepth 100000 in
theorem cm_k49 : ck_Mok cm_49 := ⟨Or.inl ⟨rfl, ck_tabi 913 rfl rfl⟩, by decide +kernel, by decide +kernel, by decide +kernel, ⟨ck_tabi 911 (by decide +kernel) rfl, ck_tabi 912 (by decide +kernel) rfl, _, _, rfl⟩⟩
def cm_50 : ck_MM := ((⟨"RatchetDeskLaw", "text", "(LRatchetDesk;I[J)I"⟩, method_15_code, 4, some .int, [(0, 8, 11, 13)]), 0, 3, 99)
set_option maxRecDepth 100000 in
theorem cm_k50 : ck_Mok cm_50 := ⟨Or.inr (ck_tabi 909 rfl rfl), by decide +kernel, by decide +kernel, by decide +kernel, ⟨ck_tabi 908 (by decide +kernel) rfl, ck_tabi 0 (by decide +kernel) rfl⟩⟩
def cm_51 : ck_MM := ((⟨"RatchetDeskModel", "text", "(I)J"⟩, prog_13_method_62_code, 2, some .long, []), 1, 1, 11)
set_option maxRecDepth 100000 in
theorem cm_k51 : ck_Mok cm_51 := ⟨Or.inl ⟨rfl, ck_tabi 1395 rfl rfl⟩, by decide +kernel, by decide +kernel, by decide +kernel, ⟨ck_tabi 1393 (by decide +kernel) rfl, ck_tabi 1394 (by decide +kernel) rfl, _, _, rfl⟩⟩
def cm_52 : ck_MM := ((⟨"RatchetDesk", "open", "(II)I"⟩, prog_1_method_13_code, 4, some .int, []), 1, 2, 0)
set_option maxRecDepth 100000 in
theorem cm_k52 : ck_Mok cm_52 := ⟨Or.inl ⟨rfl, ck_tabi 891 rfl rfl⟩, by decide +kernel, by decide +kernel, by decide +kernel, ⟨ck_tabi 889 (by decide +kernel) rfl, ck_tabi 890 (by decide +kernel) rfl, _, _, rfl⟩⟩
def cm_53 : ck_MM := ((⟨"RatchetDeskLaw", "open", "(LRatchetDesk;II[J)I"⟩, method_14_code, 5, some .int, [(0, 10, 13, 13)]), 0, 4, 99)
set_option maxRecDepth 100000 in
theorem cm_k53 : ck_Mok cm_53 := ⟨Or.inr (ck_tabi 887 rfl rfl), by decide +kernel, by decide +kernel, by decide +kernel, ⟨ck_tabi 886 (by decide +kernel) rfl, ck_tabi 0 (by decide +kernel) rfl⟩⟩
def cm_54 : ck_MM := ((⟨"RatchetDeskModel", "open", "(II)I"⟩, prog_13_method_59_code, 4, some .int, []), 1, 2, 11)
set_option maxRecDepth 100000 in
theorem cm_k54 : ck_Mok cm_54 := ⟨Or.inl ⟨rfl, ck_tabi 1351 rfl rfl⟩, by decide +kernel, by decide +kernel, by decide +kernel, ⟨ck_tabi 1349 (by decide +kernel) rfl, ck_tabi 1350 (by decide +kernel) rfl, _, _, rfl⟩⟩
def cm_55 : ck_MM := ((⟨"RatchetDesk", "answer", "(II)I"⟩, prog_1_method_12_code, 7, some .int, []), 1, 2, 0)
set_option maxRecDepth 100000 in
theorem cm_k55 : ck_Mok cm_55 := ⟨Or.inl ⟨rfl, ck_tabi 802 rfl rfl⟩, by decide +kernel, by decide +kernel, by decide +kernel, ⟨ck_tabi 800 (by decide +kernel) rfl, ck_tabi 801 (by decide +kernel) rfl, _, _, rfl⟩⟩
def cm_56 : ck_MM := ((⟨"RatchetDeskLaw", "answer", "(LRatchetDesk;II[J)I"⟩, method_13_code, 5, some .int, [(0, 10, 13, 13), (0, 10, 17, 34)]), 0, 4, 99)
set_option maxRecDepth 100000 in
theorem cm_k56 : ck_Mok cm_56 := ⟨Or.inr (ck_tabi 798 rfl rfl), by decide +kernel, by decide +kernel, by decide +kernel, ⟨ck_tabi 797 (by decide +kernel) rfl, ck_tabi 0 (by decide +kernel) rfl⟩⟩
def cm_57 : ck_MM := ((⟨"RatchetDeskModel", "answer", "(II)I"⟩, prog_13_method_61_code, 7, some .int, []), 1, 2, 11)
set_option maxRecDepth 100000 in
theorem cm_k57 : ck_Mok cm_57 := ⟨Or.inl ⟨rfl, ck_tabi 1387 rfl rfl⟩, by decide +kernel, by decide +kernel, by decide +kernel, ⟨ck_tabi 1385 (by decide +kernel) rfl, ck_tabi 1386 (by decide +kernel) rfl, _, _, rfl⟩⟩
def cm_58 : ck_MM := ((⟨"RatchetDesk", "forge", "(III)I"⟩, prog_1_method_11_code, 4, some .int, []), 1, 3, 0)
set_option maxRecDepth 100000 in
theorem cm_k58 : ck_Mok cm_58 := ⟨Or.inl ⟨rfl, ck_tabi 789 rfl rfl⟩, by decide +kernel, by decide +kernel, by decide +kernel, ⟨ck_tabi 787 (by decide +kernel) rfl, ck_tabi 788 (by decide +kernel) rfl, _, _, rfl⟩⟩
def cm_59 : ck_MM := ((⟨"RatchetDeskLaw", "forge", "(LRatchetDesk;III[J)I"⟩, method_12_code, 6, some .int, [(0, 12, 15, 13), (0, 12, 19, 43), (0, 12, 23, 34)]), 0, 5, 99)
set_option maxRecDepth 100000 in
theorem cm_k59 : ck_Mok cm_59 := ⟨Or.inr (ck_tabi 785 rfl rfl), by decide +kernel, by decide +kernel, by decide +kernel, ⟨ck_tabi 784 (by decide +kernel) rfl, ck_tabi 0 (by decide +kernel) rfl⟩⟩
def cm_60 : ck_MM := ((⟨"RatchetDeskModel", "forge", "(III)I"⟩, prog_13_method_52_code, 6, some .int, []), 1, 3, 11)
set_option maxRecDepth 100000 in
theorem cm_k60 : ck_Mok cm_60 := ⟨Or.inl ⟨rfl, ck_tabi 1347 rfl rfl⟩, by decide +kernel, by decide +kernel, by decide +kernel, ⟨ck_tabi 1345 (by decide +kernel) rfl, ck_tabi 1346 (by decide +kernel) rfl, _, _, rfl⟩⟩
def cm_61 : ck_MM := ((⟨"RatchetDesk", "send", "(IJ)I"⟩, prog_1_method_10_code, 4, some .int, []), 1, 2, 0)
set_option maxRecDepth 100000 in
theorem cm_k61 : ck_Mok cm_61 := ⟨Or.inl ⟨rfl, ck_tabi 748 rfl rfl⟩, by decide +kernel, by decide +kernel, by decide +kernel, ⟨ck_tabi 746 (by decide +kernel) rfl, ck_tabi 747 (by decide +kernel) rfl, _, _, rfl⟩⟩
def cm_62 : ck_MM := ((⟨"RatchetDeskLaw", "send", "(LRatchetDesk;IJ[J)I"⟩, method_11_code, 6, some .int, [(0, 11, 14, 13), (0, 11, 18, 34)]), 0, 4, 99)
set_option maxRecDepth 100000 in
theorem cm_k62 : ck_Mok cm_62 := ⟨Or.inr (ck_tabi 744 rfl rfl), by decide +kernel, by decide +kernel, by decide +kernel, ⟨ck_tabi 743 (by decide +kernel) rfl, ck_tabi 0 (by decide +kernel) rfl⟩⟩
def cm_63 : ck_MM := ((⟨"RatchetDeskModel", "send", "(IJ)I"⟩, prog_13_method_51_code, 8, some .int, []), 1, 2, 11)
set_option maxRecDepth 100000 in
theorem cm_k63 : ck_Mok cm_63 := ⟨Or.inl ⟨rfl, ck_tabi 1323 rfl rfl⟩, by decide +kernel, by decide +kernel, by decide +kernel, ⟨ck_tabi 1321 (by decide +kernel) rfl, ck_tabi 1322 (by decide +kernel) rfl, _, _, rfl⟩⟩
def cm_64 : ck_MM := ((⟨"RatchetDesk", "begin", "(II)I"⟩, prog_1_method_9_code, 4, some .int, []), 1, 2, 0)
set_option maxRecDepth 100000 in
theorem cm_k64 : ck_Mok cm_64 := ⟨Or.inl ⟨rfl, ck_tabi 661 rfl rfl⟩, by decide +kernel, by decide +kernel, by decide +kernel, ⟨ck_tabi 659 (by decide +kernel) rfl, ck_tabi 660 (by decide +kernel) rfl, _, _, rfl⟩⟩
def cm_65 : ck_MM := ((⟨"RatchetDeskLaw", "begin", "(LRatchetDesk;II[J)I"⟩, method_10_code, 5, some .int, [(0, 10, 13, 13), (0, 10, 17, 43), (0, 10, 21, 34)]), 0, 4, 99)
set_option maxRecDepth 100000 in
theorem cm_k65 : ck_Mok cm_65 := ⟨Or.inr (ck_tabi 656 rfl rfl), by decide +kernel, by decide +kernel, by decide +kernel, ⟨ck_tabi 655 (by decide +kernel) rfl, ck_tabi 0 (by decide +kernel) rfl⟩⟩
def cm_66 : ck_MM := ((⟨"RatchetDeskModel", "begin", "(II)I"⟩, prog_13_method_45_code, 7, some .int, []), 1, 2, 11)
set_option maxRecDepth 100000 in
theorem cm_k66 : ck_Mok cm_66 := ⟨Or.inl ⟨rfl, ck_tabi 1280 rfl rfl⟩, by decide +kernel, by decide +kernel, by decide +kernel, ⟨ck_tabi 1278 (by decide +kernel) rfl, ck_tabi 1279 (by decide +kernel) rfl, _, _, rfl⟩⟩
def cm_67 : ck_MM := ((⟨"RatchetDesk", "checkRoom", "(II)V"⟩, prog_1_method_24_code, 2, none, []), 0, 2, 0)
set_option maxRecDepth 100000 in
theorem cm_k67 : ck_Mok cm_67 := ⟨Or.inl ⟨rfl, ck_tabi 622 rfl rfl⟩, by decide +kernel, by decide +kernel, by decide +kernel, ⟨ck_tabi 621 (by decide +kernel) rfl, ck_tabi 1 (by decide +kernel) rfl⟩⟩
def cm_68 : ck_MM := ((⟨"RatchetDesk$Person", "takeOffer", "()I"⟩, prog_8_method_4_code, 2, some .int, []), 1, 0, 9)
set_option maxRecDepth 100000 in
theorem cm_k68 : ck_Mok cm_68 := ⟨Or.inl ⟨rfl, ck_tabi 681 rfl rfl⟩, by decide +kernel, by decide +kernel, by decide +kernel, ⟨ck_tabi 679 (by decide +kernel) rfl, ck_tabi 680 (by decide +kernel) rfl, _, _, rfl⟩⟩
def cm_69 : ck_MM := ((⟨"RatchetDesk$Chain", "clear", "()V"⟩, prog_2_method_2_code, 1, none, []), 1, 0, 7)
set_option maxRecDepth 100000 in
theorem cm_k69 : ck_Mok cm_69 := ⟨Or.inl ⟨rfl, ck_tabi 689 rfl rfl⟩, by decide +kernel, by decide +kernel, by decide +kernel, ⟨ck_tabi 687 (by decide +kernel) rfl, ck_tabi 688 (by decide +kernel) rfl, _, _, rfl⟩⟩
def cm_70 : ck_MM := ((⟨"RatchetDesk$End", "renew", "(II)V"⟩, prog_4_method_2_code, 3, none, []), 1, 2, 6)
set_option maxRecDepth 100000 in
theorem cm_k70 : ck_Mok cm_70 := ⟨Or.inl ⟨rfl, ck_tabi 685 rfl rfl⟩, by decide +kernel, by decide +kernel, by decide +kernel, ⟨ck_tabi 683 (by decide +kernel) rfl, ck_tabi 684 (by decide +kernel) rfl, _, _, rfl⟩⟩
def cm_71 : ck_MM := ((⟨"RatchetDesk$Curve", "readNumber", "([I[J)V"⟩, prog_3_method_7_code, 6, none, []), 0, 2, 4)
set_option maxRecDepth 100000 in
theorem cm_k71 : ck_Mok cm_71 := ⟨Or.inl ⟨rfl, ck_tabi 534 rfl rfl⟩, by decide +kernel, by decide +kernel, by decide +kernel, ⟨ck_tabi 533 (by decide +kernel) rfl, ck_tabi 5 (by decide +kernel) rfl⟩⟩
def cm_72 : ck_MM := ((⟨"RatchetDesk$Curve", "setNumber", "([JI)V"⟩, prog_3_method_6_code, 3, none, []), 0, 2, 4)
set_option maxRecDepth 100000 in
theorem cm_k72 : ck_Mok cm_72 := ⟨Or.inl ⟨rfl, ck_tabi 537 rfl rfl⟩, by decide +kernel, by decide +kernel, by decide +kernel, ⟨ck_tabi 536 (by decide +kernel) rfl, ck_tabi 5 (by decide +kernel) rfl⟩⟩
def cm_73 : ck_MM := ((⟨"RatchetDesk$Curve", "isSet", "([II)Z"⟩, prog_3_method_3_code, 2, some .boolean, []), 0, 2, 4)
set_option maxRecDepth 100000 in
theorem cm_k73 : ck_Mok cm_73 := ⟨Or.inl ⟨rfl, ck_tabi 541 rfl rfl⟩, by decide +kernel, by decide +kernel, by decide +kernel, ⟨ck_tabi 540 (by decide +kernel) rfl, ck_tabi 5 (by decide +kernel) rfl⟩⟩
def cm_74 : ck_MM := ((⟨"RatchetDesk$Curve", "add", "([J[J[J)V"⟩, prog_3_method_10_code, 4, none, []), 0, 3, 4)
set_option maxRecDepth 100000 in
theorem cm_k74 : ck_Mok cm_74 := ⟨Or.inl ⟨rfl, ck_tabi 548 rfl rfl⟩, by decide +kernel, by decide +kernel, by decide +kernel, ⟨ck_tabi 547 (by decide +kernel) rfl, ck_tabi 5 (by decide +kernel) rfl⟩⟩
def cm_75 : ck_MM := ((⟨"RatchetDesk$Curve", "subtract", "([J[J[J)V"⟩, prog_3_method_11_code, 4, none, []), 0, 3, 4)
set_option maxRecDepth 100000 in
theorem cm_k75 : ck_Mok cm_75 := ⟨Or.inl ⟨rfl, ck_tabi 551 rfl rfl⟩, by decide +kernel, by decide +kernel, by decide +kernel, ⟨ck_tabi 550 (by decide +kernel) rfl, ck_tabi 5 (by decide +kernel) rfl⟩⟩
def cm_76 : ck_MM := ((⟨"RatchetDesk$Curve", "multiply", "([J[J[J)V"⟩, prog_3_method_13_code, 83, none, []), 0, 3, 4)
set_option maxRecDepth 100000 in
theorem cm_k76 : ck_Mok cm_76 := ⟨Or.inl ⟨rfl, ck_tabi 554 rfl rfl⟩, by decide +kernel, by decide +kernel, by decide +kernel, ⟨ck_tabi 553 (by decide +kernel) rfl, ck_tabi 5 (by decide +kernel) rfl⟩⟩
def cm_77 : ck_MM := ((⟨"RatchetDesk$Curve", "scale", "([J[J)V"⟩, prog_3_method_12_code, 8, none, []), 0, 2, 4)
set_option maxRecDepth 100000 in
theorem cm_k77 : ck_Mok cm_77 := ⟨Or.inl ⟨rfl, ck_tabi 561 rfl rfl⟩, by decide +kernel, by decide +kernel, by decide +kernel, ⟨ck_tabi 560 (by decide +kernel) rfl, ck_tabi 5 (by decide +kernel) rfl⟩⟩
def cm_78 : ck_MM := ((⟨"RatchetDesk$Curve", "step", "([J[J[J[J)V"⟩, prog_3_method_4_code, 5, none, []), 1, 4, 4)
set_option maxRecDepth 100000 in
theorem cm_k78 : ck_Mok cm_78 := ⟨Or.inl ⟨rfl, ck_tabi 545 rfl rfl⟩, by decide +kernel, by decide +kernel, by decide +kernel, ⟨ck_tabi 544 (by decide +kernel) rfl, ck_seli 5 (by decide +kernel) rfl, _, _, rfl⟩⟩
def cm_79 : ck_MM := ((⟨"RatchetDesk$Curve", "invert", "([J[J)V"⟩, prog_3_method_5_code, 3, none, []), 0, 2, 4)
set_option maxRecDepth 100000 in
theorem cm_k79 : ck_Mok cm_79 := ⟨Or.inl ⟨rfl, ck_tabi 565 rfl rfl⟩, by decide +kernel, by decide +kernel, by decide +kernel, ⟨ck_tabi 564 (by decide +kernel) rfl, ck_tabi 5 (by decide +kernel) rfl⟩⟩
def cm_80 : ck_MM := ((⟨"RatchetDesk$Curve", "reduce", "([J)V"⟩, prog_3_method_9_code, 9, none, []), 0, 1, 4)
set_option maxRecDepth 100000 in
theorem cm_k80 : ck_Mok cm_80 := ⟨Or.inl ⟨rfl, ck_tabi 568 rfl rfl⟩, by decide +kernel, by decide +kernel, by decide +kernel, ⟨ck_tabi 567 (by decide +kernel) rfl, ck_tabi 5 (by decide +kernel) rfl⟩⟩
def cm_81 : ck_MM := ((⟨"RatchetDesk$Curve", "writeNumber", "([J[I)V"⟩, prog_3_method_8_code, 6, none, []), 0, 2, 4)
set_option maxRecDepth 100000 in
theorem cm_k81 : ck_Mok cm_81 := ⟨Or.inl ⟨rfl, ck_tabi 571 rfl rfl⟩, by decide +kernel, by decide +kernel, by decide +kernel, ⟨ck_tabi 570 (by decide +kernel) rfl, ck_tabi 5 (by decide +kernel) rfl⟩⟩
def cm_82 : ck_MM := ((⟨"RatchetDesk$Curve", "reckon", "([I[I[I)V"⟩, prog_3_method_2_code, 5, none, []), 1, 3, 4)
set_option maxRecDepth 100000 in
theorem cm_k82 : ck_Mok cm_82 := ⟨Or.inl ⟨rfl, ck_tabi 531 rfl rfl⟩, by decide +kernel, by decide +kernel, by decide +kernel, ⟨ck_tabi 529 (by decide +kernel) rfl, ck_tabi 530 (by decide +kernel) rfl, _, _, rfl⟩⟩
def cm_83 : ck_MM := ((⟨"RatchetDesk$Secret", "shown", "(LRatchetDesk$Curve;)[I"⟩, prog_10_method_4_code, 2, some (.array .int), []), 1, 1, 1)
set_option maxRecDepth 100000 in
theorem cm_k83 : ck_Mok cm_83 := ⟨Or.inl ⟨rfl, ck_tabi 697 rfl rfl⟩, by decide +kernel, by decide +kernel, by decide +kernel, ⟨ck_tabi 695 (by decide +kernel) rfl, ck_tabi 696 (by decide +kernel) rfl, _, _, rfl⟩⟩
def cm_84 : ck_MM := ((⟨"RatchetDesk", "tieTrial", "(II)V"⟩, prog_1_method_27_code, 5, none, []), 1, 2, 0)
set_option maxRecDepth 100000 in
theorem cm_k84 : ck_Mok cm_84 := ⟨Or.inl ⟨rfl, ck_tabi 693 rfl rfl⟩, by decide +kernel, by decide +kernel, by decide +kernel, ⟨ck_tabi 692 (by decide +kernel) rfl, ck_seli 7 (by decide +kernel) rfl, _, _, rfl⟩⟩
def cm_85 : ck_MM := ((⟨"RatchetDesk", "copyKey", "([I[I)V"⟩, prog_1_method_32_code, 2, none, []), 0, 2, 0)
set_option maxRecDepth 100000 in
theorem cm_k85 : ck_Mok cm_85 := ⟨Or.inl ⟨rfl, ck_tabi 585 rfl rfl⟩, by decide +kernel, by decide +kernel, by decide +kernel, ⟨ck_tabi 584 (by decide +kernel) rfl, ck_tabi 1 (by decide +kernel) rfl⟩⟩
def cm_86 : ck_MM := ((⟨"RatchetDesk$Hash", "startPad", "(I)V"⟩, prog_5_method_10_code, 3, none, []), 1, 1, 3)
set_option maxRecDepth 100000 in
theorem cm_k86 : ck_Mok cm_86 := ⟨Or.inl ⟨rfl, ck_tabi 590 rfl rfl⟩, by decide +kernel, by decide +kernel, by decide +kernel, ⟨ck_tabi 589 (by decide +kernel) rfl, ck_seli 6 (by decide +kernel) rfl, _, _, rfl⟩⟩
def cm_87 : ck_MM := ((⟨"RatchetDesk$Hash", "startMac", "([I)V"⟩, prog_5_method_7_code, 2, none, []), 1, 1, 3)
set_option maxRecDepth 100000 in
theorem cm_k87 : ck_Mok cm_87 := ⟨Or.inl ⟨rfl, ck_tabi 582 rfl rfl⟩, by decide +kernel, by decide +kernel, by decide +kernel, ⟨ck_tabi 580 (by decide +kernel) rfl, ck_tabi 581 (by decide +kernel) rfl, _, _, rfl⟩⟩
def cm_88 : ck_MM := ((⟨"RatchetDesk$Tools", "startRoot", "()V"⟩, prog_11_method_2_code, 2, none, []), 1, 0, 2)
set_option maxRecDepth 100000 in
theorem cm_k88 : ck_Mok cm_88 := ⟨Or.inl ⟨rfl, ck_tabi 706 rfl rfl⟩, by decide +kernel, by decide +kernel, by decide +kernel, ⟨ck_tabi 704 (by decide +kernel) rfl, ck_tabi 705 (by decide +kernel) rfl, _, _, rfl⟩⟩
def cm_89 : ck_MM := ((⟨"RatchetDesk$Hash", "addRow", "([II)V"⟩, prog_5_method_4_code, 4, none, []), 1, 2, 3)
set_option maxRecDepth 100000 in
theorem cm_k89 : ck_Mok cm_89 := ⟨Or.inl ⟨rfl, ck_tabi 595 rfl rfl⟩, by decide +kernel, by decide +kernel, by decide +kernel, ⟨ck_tabi 593 (by decide +kernel) rfl, ck_tabi 594 (by decide +kernel) rfl, _, _, rfl⟩⟩
def cm_90 : ck_MM := ((⟨"RatchetDesk$Tools", "addAgreement", "([I[I)V"⟩, prog_11_method_3_code, 3, none, []), 1, 2, 2)
set_option maxRecDepth 100000 in
theorem cm_k90 : ck_Mok cm_90 := ⟨Or.inl ⟨rfl, ck_tabi 712 rfl rfl⟩, by decide +kernel, by decide +kernel, by decide +kernel, ⟨ck_tabi 710 (by decide +kernel) rfl, ck_tabi 711 (by decide +kernel) rfl, _, _, rfl⟩⟩
def cm_91 : ck_MM := ((⟨"RatchetDesk$Hash", "finishMac", "([I)V"⟩, prog_5_method_8_code, 2, none, []), 1, 1, 3)
set_option maxRecDepth 100000 in
theorem cm_k91 : ck_Mok cm_91 := ⟨Or.inl ⟨rfl, ck_tabi 599 rfl rfl⟩, by decide +kernel, by decide +kernel, by decide +kernel, ⟨ck_tabi 597 (by decide +kernel) rfl, ck_tabi 598 (by decide +kernel) rfl, _, _, rfl⟩⟩
def cm_92 : ck_MM := ((⟨"RatchetDesk$Hash", "finishSpread", "(I[I[I)V"⟩, prog_5_method_9_code, 4, none, []), 1, 3, 3)
set_option maxRecDepth 100000 in
theorem cm_k92 : ck_Mok cm_92 := ⟨Or.inl ⟨rfl, ck_tabi 722 rfl rfl⟩, by decide +kernel, by decide +kernel, by decide +kernel, ⟨ck_tabi 720 (by decide +kernel) rfl, ck_tabi 721 (by decide +kernel) rfl, _, _, rfl⟩⟩
def cm_93 : ck_MM := ((⟨"RatchetDesk$Tools", "finishRoot", "([I)V"⟩, prog_11_method_4_code, 2, none, []), 1, 1, 2)
set_option maxRecDepth 100000 in
theorem cm_k93 : ck_Mok cm_93 := ⟨Or.inl ⟨rfl, ck_tabi 718 rfl rfl⟩, by decide +kernel, by decide +kernel, by decide +kernel, ⟨ck_tabi 716 (by decide +kernel) rfl, ck_tabi 717 (by decide +kernel) rfl, _, _, rfl⟩⟩
def cm_94 : ck_MM := ((⟨"RatchetDesk", "reckonRootOfBeginner", "(LRatchetDesk$Person;LRatchetDesk$Person;I)V"⟩, prog_1_method_28_code, 4, none, []), 1, 3, 0)
set_option maxRecDepth 100000 in
theorem cm_k94 : ck_Mok cm_94 := ⟨Or.inl ⟨rfl, ck_tabi 702 rfl rfl⟩, by decide +kernel, by decide +kernel, by decide +kernel, ⟨ck_tabi 701 (by decide +kernel) rfl, ck_seli 8 (by decide +kernel) rfl, _, _, rfl⟩⟩
def cm_95 : ck_MM := ((⟨"RatchetDesk$End", "introduce", "(II[I)V"⟩, prog_4_method_4_code, 4, none, []), 1, 3, 6)
set_option maxRecDepth 100000 in
theorem cm_k95 : ck_Mok cm_95 := ⟨Or.inl ⟨rfl, ck_tabi 729 rfl rfl⟩, by decide +kernel, by decide +kernel, by decide +kernel, ⟨ck_tabi 727 (by decide +kernel) rfl, ck_tabi 728 (by decide +kernel) rfl, _, _, rfl⟩⟩
def cm_96 : ck_MM := ((⟨"RatchetDesk$Chain", "restart", "([I[I[ILRatchetDesk$Tools;)V"⟩, prog_2_method_4_code, 5, none, []), 1, 4, 7)
set_option maxRecDepth 100000 in
theorem cm_k96 : ck_Mok cm_96 := ⟨Or.inl ⟨rfl, ck_tabi 738 rfl rfl⟩, by decide +kernel, by decide +kernel, by decide +kernel, ⟨ck_tabi 736 (by decide +kernel) rfl, ck_tabi 737 (by decide +kernel) rfl, _, _, rfl⟩⟩
def cm_97 : ck_MM := ((⟨"RatchetDesk", "placeTrial", "(I)V"⟩, prog_1_method_31_code, 3, none, []), 1, 1, 0)
set_option maxRecDepth 100000 in
theorem cm_k97 : ck_Mok cm_97 := ⟨Or.inl ⟨rfl, ck_tabi 734 rfl rfl⟩, by decide +kernel, by decide +kernel, by decide +kernel, ⟨ck_tabi 733 (by decide +kernel) rfl, ck_seli 9 (by decide +kernel) rfl, _, _, rfl⟩⟩
def cm_98 : ck_MM := ((⟨"RatchetDeskModel", "placeOf", "(I)I"⟩, prog_13_method_39_code, 1, some .int, []), 0, 1, 11)
set_option maxRecDepth 100000 in
theorem cm_k98 : ck_Mok cm_98 := ⟨Or.inl ⟨rfl, ck_tabi 1287 rfl rfl⟩, by decide +kernel, by decide +kernel, by decide +kernel, ⟨ck_tabi 1286 (by decide +kernel) rfl, ck_tabi 13 (by decide +kernel) rfl⟩⟩
def cm_99 : ck_MM := ((⟨"RatchetDeskModel", "clearEnd", "(IIIZ)V"⟩, prog_13_method_42_code, 6, none, []), 1, 4, 11)
set_option maxRecDepth 100000 in
theorem cm_k99 : ck_Mok cm_99 := ⟨Or.inl ⟨rfl, ck_tabi 1284 rfl rfl⟩, by decide +kernel, by decide +kernel, by decide +kernel, ⟨ck_tabi 1283 (by decide +kernel) rfl, ck_seli 34 (by decide +kernel) rfl, _, _, rfl⟩⟩
def cm_100 : ck_MM := ((⟨"RatchetDeskModel", "right", "(II)I"⟩, prog_13_method_6_code, 2, some .int, []), 0, 2, 11)
set_option maxRecDepth 100000 in
theorem cm_k100 : ck_Mok cm_100 := ⟨Or.inl ⟨rfl, ck_tabi 1264 rfl rfl⟩, by decide +kernel, by decide +kernel, by decide +kernel, ⟨ck_tabi 1263 (by decide +kernel) rfl, ck_tabi 13 (by decide +kernel) rfl⟩⟩
def cm_101 : ck_MM := ((⟨"RatchetDeskModel", "block", "(I)V"⟩, prog_13_method_7_code, 8, none, []), 1, 1, 11)
set_option maxRecDepth 100000 in
theorem cm_k101 : ck_Mok cm_101 := ⟨Or.inl ⟨rfl, ck_tabi 1261 rfl rfl⟩, by decide +kernel, by decide +kernel, by decide +kernel, ⟨ck_tabi 1260 (by decide +kernel) rfl, ck_seli 33 (by decide +kernel) rfl, _, _, rfl⟩⟩
def cm_102 : ck_MM := ((⟨"RatchetDeskModel", "hashRow", "(II)V"⟩, prog_13_method_8_code, 5, none, []), 1, 2, 11)
set_option maxRecDepth 100000 in
theorem cm_k102 : ck_Mok cm_102 := ⟨Or.inl ⟨rfl, ck_tabi 1257 rfl rfl⟩, by decide +kernel, by decide +kernel, by decide +kernel, ⟨ck_tabi 1256 (by decide +kernel) rfl, ck_seli 32 (by decide +kernel) rfl, _, _, rfl⟩⟩
def cm_103 : ck_MM := ((⟨"RatchetDeskModel", "makeSecret", "(II)V"⟩, prog_13_method_27_code, 4, none, []), 1, 2, 11)
set_option maxRecDepth 100000 in
theorem cm_k103 : ck_Mok cm_103 := ⟨Or.inl ⟨rfl, ck_tabi 1299 rfl rfl⟩, by decide +kernel, by decide +kernel, by decide +kernel, ⟨ck_tabi 1298 (by decide +kernel) rfl, ck_seli 37 (by decide +kernel) rfl, _, _, rfl⟩⟩
def cm_104 : ck_MM := ((⟨"RatchetDeskModel", "unpack", "(II)V"⟩, prog_13_method_22_code, 6, none, []), 1, 2, 11)
set_option maxRecDepth 100000 in
theorem cm_k104 : ck_Mok cm_104 := ⟨Or.inl ⟨rfl, ck_tabi 1186 rfl rfl⟩, by decide +kernel, by decide +kernel, by decide +kernel, ⟨ck_tabi 1185 (by decide +kernel) rfl, ck_seli 18 (by decide +kernel) rfl, _, _, rfl⟩⟩
def cm_105 : ck_MM := ((⟨"RatchetDeskModel", "set", "(IJ)V"⟩, prog_13_method_20_code, 5, none, []), 1, 2, 11)
set_option maxRecDepth 100000 in
theorem cm_k105 : ck_Mok cm_105 := ⟨Or.inl ⟨rfl, ck_tabi 1191 rfl rfl⟩, by decide +kernel, by decide +kernel, by decide +kernel, ⟨ck_tabi 1190 (by decide +kernel) rfl, ck_seli 19 (by decide +kernel) rfl, _, _, rfl⟩⟩
def cm_106 : ck_MM := ((⟨"RatchetDeskModel", "bitOf", "(II)I"⟩, prog_13_method_25_code, 2, some .int, []), 0, 2, 11)
set_option maxRecDepth 100000 in
theorem cm_k106 : ck_Mok cm_106 := ⟨Or.inl ⟨rfl, ck_tabi 1194 rfl rfl⟩, by decide +kernel, by decide +kernel, by decide +kernel, ⟨ck_tabi 1193 (by decide +kernel) rfl, ck_tabi 13 (by decide +kernel) rfl⟩⟩
def cm_107 : ck_MM := ((⟨"RatchetDeskModel", "change", "(II)V"⟩, prog_13_method_21_code, 6, none, []), 1, 2, 11)
set_option maxRecDepth 100000 in
theorem cm_k107 : ck_Mok cm_107 := ⟨Or.inl ⟨rfl, ck_tabi 1198 rfl rfl⟩, by decide +kernel, by decide +kernel, by decide +kernel, ⟨ck_tabi 1197 (by decide +kernel) rfl, ck_seli 20 (by decide +kernel) rfl, _, _, rfl⟩⟩
def cm_108 : ck_MM := ((⟨"RatchetDeskModel", "carry", "(I)V"⟩, prog_13_method_17_code, 6, none, []), 1, 1, 11)
set_option maxRecDepth 100000 in
theorem cm_k108 : ck_Mok cm_108 := ⟨Or.inl ⟨rfl, ck_tabi 1206 rfl rfl⟩, by decide +kernel, by decide +kernel, by decide +kernel, ⟨ck_tabi 1205 (by decide +kernel) rfl, ck_seli 22 (by decide +kernel) rfl, _, _, rfl⟩⟩
def cm_109 : ck_MM := ((⟨"RatchetDeskModel", "plus", "(IIIJ)V"⟩, prog_13_method_19_code, 7, none, []), 1, 4, 11)
set_option maxRecDepth 100000 in
theorem cm_k109 : ck_Mok cm_109 := ⟨Or.inl ⟨rfl, ck_tabi 1202 rfl rfl⟩, by decide +kernel, by decide +kernel, by decide +kernel, ⟨ck_tabi 1201 (by decide +kernel) rfl, ck_seli 21 (by decide +kernel) rfl, _, _, rfl⟩⟩
def cm_110 : ck_MM := ((⟨"RatchetDeskModel", "times", "(III)V"⟩, prog_13_method_18_code, 6, none, []), 1, 3, 11)
set_option maxRecDepth 100000 in
theorem cm_k110 : ck_Mok cm_110 := ⟨Or.inl ⟨rfl, ck_tabi 1212 rfl rfl⟩, by decide +kernel, by decide +kernel, by decide +kernel, ⟨ck_tabi 1211 (by decide +kernel) rfl, ck_seli 23 (by decide +kernel) rfl, _, _, rfl⟩⟩
def cm_111 : ck_MM := ((⟨"RatchetDeskModel", "invert", "()V"⟩, prog_13_method_24_code, 2, none, []), 1, 0, 11)
set_option maxRecDepth 100000 in
theorem cm_k111 : ck_Mok cm_111 := ⟨Or.inl ⟨rfl, ck_tabi 1217 rfl rfl⟩, by decide +kernel, by decide +kernel, by decide +kernel, ⟨ck_tabi 1216 (by decide +kernel) rfl, ck_seli 24 (by decide +kernel) rfl, _, _, rfl⟩⟩
def cm_112 : ck_MM := ((⟨"RatchetDeskModel", "pack", "(II)V"⟩, prog_13_method_23_code, 11, none, []), 1, 2, 11)
set_option maxRecDepth 100000 in
theorem cm_k112 : ck_Mok cm_112 := ⟨Or.inl ⟨rfl, ck_tabi 1221 rfl rfl⟩, by decide +kernel, by decide +kernel, by decide +kernel, ⟨ck_tabi 1220 (by decide +kernel) rfl, ck_seli 25 (by decide +kernel) rfl, _, _, rfl⟩⟩
def cm_113 : ck_MM := ((⟨"RatchetDeskModel", "reckon", "(III)V"⟩, prog_13_method_26_code, 6, none, []), 1, 3, 11)
set_option maxRecDepth 100000 in
theorem cm_k113 : ck_Mok cm_113 := ⟨Or.inl ⟨rfl, ck_tabi 1182 rfl rfl⟩, by decide +kernel, by decide +kernel, by decide +kernel, ⟨ck_tabi 1181 (by decide +kernel) rfl, ck_seli 17 (by decide +kernel) rfl, _, _, rfl⟩⟩
def cm_114 : ck_MM := ((⟨"RatchetDeskModel", "makePublic", "(II)V"⟩, prog_13_method_28_code, 3, none, []), 1, 2, 11)
set_option maxRecDepth 100000 in
theorem cm_k114 : ck_Mok cm_114 := ⟨Or.inl ⟨rfl, ck_tabi 1295 rfl rfl⟩, by decide +kernel, by decide +kernel, by decide +kernel, ⟨ck_tabi 1294 (by decide +kernel) rfl, ck_seli 36 (by decide +kernel) rfl, _, _, rfl⟩⟩
def cm_115 : ck_MM := ((⟨"RatchetDeskModel", "known", "(I)I"⟩, prog_13_method_29_code, 2, some .int, []), 1, 1, 11)
set_option maxRecDepth 100000 in
theorem cm_k115 : ck_Mok cm_115 := ⟨Or.inl ⟨rfl, ck_tabi 1291 rfl rfl⟩, by decide +kernel, by decide +kernel, by decide +kernel, ⟨ck_tabi 1290 (by decide +kernel) rfl, ck_seli 35 (by decide +kernel) rfl, _, _, rfl⟩⟩
def cm_116 : ck_MM := ((⟨"RatchetDeskModel", "reckonWith", "(III)V"⟩, prog_13_method_30_code, 4, none, []), 1, 3, 11)
set_option maxRecDepth 100000 in
theorem cm_k116 : ck_Mok cm_116 := ⟨Or.inl ⟨rfl, ck_tabi 1303 rfl rfl⟩, by decide +kernel, by decide +kernel, by decide +kernel, ⟨ck_tabi 1302 (by decide +kernel) rfl, ck_seli 38 (by decide +kernel) rfl, _, _, rfl⟩⟩
def cm_117 : ck_MM := ((⟨"RatchetDeskModel", "clearMessage", "()V"⟩, prog_13_method_9_code, 1, none, []), 1, 0, 11)
set_option maxRecDepth 100000 in
theorem cm_k117 : ck_Mok cm_117 := ⟨Or.inl ⟨rfl, ck_tabi 1237 rfl rfl⟩, by decide +kernel, by decide +kernel, by decide +kernel, ⟨ck_tabi 1236 (by decide +kernel) rfl, ck_seli 27 (by decide +kernel) rfl, _, _, rfl⟩⟩
def cm_118 : ck_MM := ((⟨"RatchetDeskModel", "say", "(I)V"⟩, prog_13_method_10_code, 2, none, []), 1, 1, 11)
set_option maxRecDepth 100000 in
theorem cm_k118 : ck_Mok cm_118 := ⟨Or.inl ⟨rfl, ck_tabi 1245 rfl rfl⟩, by decide +kernel, by decide +kernel, by decide +kernel, ⟨ck_tabi 1244 (by decide +kernel) rfl, ck_seli 29 (by decide +kernel) rfl, _, _, rfl⟩⟩
def cm_119 : ck_MM := ((⟨"RatchetDeskModel", "sayKey", "(I)V"⟩, prog_13_method_11_code, 3, none, []), 1, 1, 11)
set_option maxRecDepth 100000 in
theorem cm_k119 : ck_Mok cm_119 := ⟨Or.inl ⟨rfl, ck_tabi 1241 rfl rfl⟩, by decide +kernel, by decide +kernel, by decide +kernel, ⟨ck_tabi 1240 (by decide +kernel) rfl, ck_seli 28 (by decide +kernel) rfl, _, _, rfl⟩⟩
def cm_120 : ck_MM := ((⟨"RatchetDeskModel", "pad", "(II)V"⟩, prog_13_method_12_code, 4, none, []), 1, 2, 11)
set_option maxRecDepth 100000 in
theorem cm_k120 : ck_Mok cm_120 := ⟨Or.inl ⟨rfl, ck_tabi 1253 rfl rfl⟩, by decide +kernel, by decide +kernel, by decide +kernel, ⟨ck_tabi 1252 (by decide +kernel) rfl, ck_seli 31 (by decide +kernel) rfl, _, _, rfl⟩⟩
def cm_121 : ck_MM := ((⟨"RatchetDeskModel", "markMessage", "(II)V"⟩, prog_13_method_13_code, 4, none, []), 1, 2, 11)
set_option maxRecDepth 100000 in
theorem cm_k121 : ck_Mok cm_121 := ⟨Or.inl ⟨rfl, ck_tabi 1249 rfl rfl⟩, by decide +kernel, by decide +kernel, by decide +kernel, ⟨ck_tabi 1248 (by decide +kernel) rfl, ck_seli 30 (by decide +kernel) rfl, _, _, rfl⟩⟩
def cm_122 : ck_MM := ((⟨"RatchetDeskModel", "spread", "(II)V"⟩, prog_13_method_14_code, 3, none, []), 1, 2, 11)
set_option maxRecDepth 100000 in
theorem cm_k122 : ck_Mok cm_122 := ⟨Or.inl ⟨rfl, ck_tabi 1311 rfl rfl⟩, by decide +kernel, by decide +kernel, by decide +kernel, ⟨ck_tabi 1310 (by decide +kernel) rfl, ck_seli 40 (by decide +kernel) rfl, _, _, rfl⟩⟩
def cm_123 : ck_MM := ((⟨"RatchetDeskModel", "copyKey", "(II)V"⟩, prog_13_method_15_code, 4, none, []), 1, 2, 11)
set_option maxRecDepth 100000 in
theorem cm_k123 : ck_Mok cm_123 := ⟨Or.inl ⟨rfl, ck_tabi 1229 rfl rfl⟩, by decide +kernel, by decide +kernel, by decide +kernel, ⟨ck_tabi 1228 (by decide +kernel) rfl, ck_seli 26 (by decide +kernel) rfl, _, _, rfl⟩⟩
def cm_124 : ck_MM := ((⟨"RatchetDeskModel", "firstRoot", "(II)V"⟩, prog_13_method_44_code, 4, none, []), 1, 2, 11)
set_option maxRecDepth 100000 in
theorem cm_k124 : ck_Mok cm_124 := ⟨Or.inl ⟨rfl, ck_tabi 1307 rfl rfl⟩, by decide +kernel, by decide +kernel, by decide +kernel, ⟨ck_tabi 1306 (by decide +kernel) rfl, ck_seli 39 (by decide +kernel) rfl, _, _, rfl⟩⟩
def cm_125 : ck_MM := ((⟨"RatchetDeskModel", "turnRoot", "(III)V"⟩, prog_13_method_40_code, 4, none, []), 1, 3, 11)
set_option maxRecDepth 100000 in
theorem cm_k125 : ck_Mok cm_125 := ⟨Or.inl ⟨rfl, ck_tabi 1319 rfl rfl⟩, by decide +kernel, by decide +kernel, by decide +kernel, ⟨ck_tabi 1318 (by decide +kernel) rfl, ck_seli 42 (by decide +kernel) rfl, _, _, rfl⟩⟩
def cm_126 : ck_MM := ((⟨"RatchetDeskModel", "turn", "(I)V"⟩, prog_13_method_41_code, 3, none, []), 1, 1, 11)
set_option maxRecDepth 100000 in
theorem cm_k126 : ck_Mok cm_126 := ⟨Or.inl ⟨rfl, ck_tabi 1315 rfl rfl⟩, by decide +kernel, by decide +kernel, by decide +kernel, ⟨ck_tabi 1314 (by decide +kernel) rfl, ck_seli 41 (by decide +kernel) rfl, _, _, rfl⟩⟩
def cm_127 : ck_MM := ((⟨"RatchetDesk", "offers", "(I)I"⟩, prog_1_method_8_code, 2, some .int, []), 1, 1, 0)
set_option maxRecDepth 100000 in
theorem cm_k127 : ck_Mok cm_127 := ⟨Or.inl ⟨rfl, ck_tabi 649 rfl rfl⟩, by decide +kernel, by decide +kernel, by decide +kernel, ⟨ck_tabi 647 (by decide +kernel) rfl, ck_tabi 648 (by decide +kernel) rfl, _, _, rfl⟩⟩
def cm_128 : ck_MM := ((⟨"RatchetDeskLaw", "offers", "(LRatchetDesk;I[J)I"⟩, method_9_code, 4, some .int, [(0, 9, 12, 13)]), 0, 3, 99)
set_option maxRecDepth 100000 in
theorem cm_k128 : ck_Mok cm_128 := ⟨Or.inr (ck_tabi 645 rfl rfl), by decide +kernel, by decide +kernel, by decide +kernel, ⟨ck_tabi 644 (by decide +kernel) rfl, ck_tabi 0 (by decide +kernel) rfl⟩⟩
def cm_129 : ck_MM := ((⟨"RatchetDeskModel", "offers", "(I)I"⟩, prog_13_method_38_code, 4, some .int, []), 1, 1, 11)
set_option maxRecDepth 100000 in
theorem cm_k129 : ck_Mok cm_129 := ⟨Or.inl ⟨rfl, ck_tabi 1276 rfl rfl⟩, by decide +kernel, by decide +kernel, by decide +kernel, ⟨ck_tabi 1274 (by decide +kernel) rfl, ck_tabi 1275 (by decide +kernel) rfl, _, _, rfl⟩⟩
def cm_130 : ck_MM := ((⟨"RatchetDesk$Person", "offered", "()I"⟩, prog_8_method_3_code, 3, some .int, []), 1, 0, 9)
set_option maxRecDepth 100000 in
theorem cm_k130 : ck_Mok cm_130 := ⟨Or.inl ⟨rfl, ck_tabi 653 rfl rfl⟩, by decide +kernel, by decide +kernel, by decide +kernel, ⟨ck_tabi 651 (by decide +kernel) rfl, ck_tabi 652 (by decide +kernel) rfl, _, _, rfl⟩⟩
def cm_131 : ck_MM := ((⟨"RatchetDesk", "stock", "(I)I"⟩, prog_1_method_7_code, 3, some .int, []), 1, 1, 0)
set_option maxRecDepth 100000 in
theorem cm_k131 : ck_Mok cm_131 := ⟨Or.inl ⟨rfl, ck_tabi 619 rfl rfl⟩, by decide +kernel, by decide +kernel, by decide +kernel, ⟨ck_tabi 617 (by decide +kernel) rfl, ck_tabi 618 (by decide +kernel) rfl, _, _, rfl⟩⟩
def cm_132 : ck_MM := ((⟨"RatchetDeskLaw", "stock", "(LRatchetDesk;I[J)I"⟩, method_8_code, 4, some .int, [(0, 9, 12, 13), (0, 9, 15, 34)]), 0, 3, 99)
set_option maxRecDepth 100000 in
theorem cm_k132 : ck_Mok cm_132 := ⟨Or.inr (ck_tabi 614 rfl rfl), by decide +kernel, by decide +kernel, by decide +kernel, ⟨ck_tabi 613 (by decide +kernel) rfl, ck_tabi 0 (by decide +kernel) rfl⟩⟩
def cm_133 : ck_MM := ((⟨"RatchetDeskModel", "stock", "(I)I"⟩, prog_13_method_37_code, 3, some .int, []), 1, 1, 11)
set_option maxRecDepth 100000 in
theorem cm_k133 : ck_Mok cm_133 := ⟨Or.inl ⟨rfl, ck_tabi 1272 rfl rfl⟩, by decide +kernel, by decide +kernel, by decide +kernel, ⟨ck_tabi 1270 (by decide +kernel) rfl, ck_tabi 1271 (by decide +kernel) rfl, _, _, rfl⟩⟩
def cm_134 : ck_MM := ((⟨"RatchetDesk$Person", "offerNext", "()I"⟩, prog_8_method_2_code, 1, some .int, []), 1, 0, 9)
set_option maxRecDepth 100000 in
theorem cm_k134 : ck_Mok cm_134 := ⟨Or.inl ⟨rfl, ck_tabi 642 rfl rfl⟩, by decide +kernel, by decide +kernel, by decide +kernel, ⟨ck_tabi 640 (by decide +kernel) rfl, ck_tabi 641 (by decide +kernel) rfl, _, _, rfl⟩⟩
def cm_135 : ck_MM := ((⟨"RatchetDesk", "digest", "(II)V"⟩, prog_1_method_6_code, 4, none, []), 1, 2, 0)
set_option maxRecDepth 100000 in
theorem cm_k135 : ck_Mok cm_135 := ⟨Or.inl ⟨rfl, ck_tabi 608 rfl rfl⟩, by decide +kernel, by decide +kernel, by decide +kernel, ⟨ck_tabi 606 (by decide +kernel) rfl, ck_tabi 607 (by decide +kernel) rfl, _, _, rfl⟩⟩
def cm_136 : ck_MM := ((⟨"RatchetDeskLaw", "digest", "(LRatchetDesk;II)I"⟩, method_7_code, 4, some .int, [(0, 6, 9, 13)]), 0, 3, 99)
set_option maxRecDepth 100000 in
theorem cm_k136 : ck_Mok cm_136 := ⟨Or.inr (ck_tabi 604 rfl rfl), by decide +kernel, by decide +kernel, by decide +kernel, ⟨ck_tabi 603 (by decide +kernel) rfl, ck_tabi 0 (by decide +kernel) rfl⟩⟩
def cm_137 : ck_MM := ((⟨"RatchetDeskModel", "digest", "(II)V"⟩, prog_13_method_36_code, 4, none, []), 1, 2, 11)
set_option maxRecDepth 100000 in
theorem cm_k137 : ck_Mok cm_137 := ⟨Or.inl ⟨rfl, ck_tabi 1268 rfl rfl⟩, by decide +kernel, by decide +kernel, by decide +kernel, ⟨ck_tabi 1266 (by decide +kernel) rfl, ck_tabi 1267 (by decide +kernel) rfl, _, _, rfl⟩⟩
def cm_138 : ck_MM := ((⟨"RatchetDesk", "mac", "(III)V"⟩, prog_1_method_5_code, 4, none, []), 1, 3, 0)
set_option maxRecDepth 100000 in
theorem cm_k138 : ck_Mok cm_138 := ⟨Or.inl ⟨rfl, ck_tabi 578 rfl rfl⟩, by decide +kernel, by decide +kernel, by decide +kernel, ⟨ck_tabi 576 (by decide +kernel) rfl, ck_tabi 577 (by decide +kernel) rfl, _, _, rfl⟩⟩
def cm_139 : ck_MM := ((⟨"RatchetDeskLaw", "mac", "(LRatchetDesk;III)I"⟩, method_6_code, 5, some .int, [(0, 7, 10, 13)]), 0, 4, 99)
set_option maxRecDepth 100000 in
theorem cm_k139 : ck_Mok cm_139 := ⟨Or.inr (ck_tabi 574 rfl rfl), by decide +kernel, by decide +kernel, by decide +kernel, ⟨ck_tabi 573 (by decide +kernel) rfl, ck_tabi 0 (by decide +kernel) rfl⟩⟩
def cm_140 : ck_MM := ((⟨"RatchetDeskModel", "mac", "(III)V"⟩, prog_13_method_35_code, 4, none, []), 1, 3, 11)
set_option maxRecDepth 100000 in
theorem cm_k140 : ck_Mok cm_140 := ⟨Or.inl ⟨rfl, ck_tabi 1233 rfl rfl⟩, by decide +kernel, by decide +kernel, by decide +kernel, ⟨ck_tabi 1231 (by decide +kernel) rfl, ck_tabi 1232 (by decide +kernel) rfl, _, _, rfl⟩⟩
def cm_141 : ck_MM := ((⟨"RatchetDesk", "agree", "(III)V"⟩, prog_1_method_4_code, 4, none, []), 1, 3, 0)
set_option maxRecDepth 100000 in
theorem cm_k141 : ck_Mok cm_141 := ⟨Or.inl ⟨rfl, ck_tabi 527 rfl rfl⟩, by decide +kernel, by decide +kernel, by decide +kernel, ⟨ck_tabi 525 (by decide +kernel) rfl, ck_tabi 526 (by decide +kernel) rfl, _, _, rfl⟩⟩
def cm_142 : ck_MM := ((⟨"RatchetDeskLaw", "agree", "(LRatchetDesk;III)I"⟩, method_5_code, 5, some .int, [(0, 7, 10, 13)]), 0, 4, 99)
set_option maxRecDepth 100000 in
theorem cm_k142 : ck_Mok cm_142 := ⟨Or.inr (ck_tabi 523 rfl rfl), by decide +kernel, by decide +kernel, by decide +kernel, ⟨ck_tabi 522 (by decide +kernel) rfl, ck_tabi 0 (by decide +kernel) rfl⟩⟩
def cm_143 : ck_MM := ((⟨"RatchetDeskModel", "agree", "(III)V"⟩, prog_13_method_34_code, 4, none, []), 1, 3, 11)
set_option maxRecDepth 100000 in
theorem cm_k143 : ck_Mok cm_143 := ⟨Or.inl ⟨rfl, ck_tabi 1178 rfl rfl⟩, by decide +kernel, by decide +kernel, by decide +kernel, ⟨ck_tabi 1176 (by decide +kernel) rfl, ck_tabi 1177 (by decide +kernel) rfl, _, _, rfl⟩⟩
def cm_144 : ck_MM := ((⟨"RatchetDesk", "get", "(II)J"⟩, prog_1_method_3_code, 3, some .long, []), 1, 2, 0)
set_option maxRecDepth 100000 in
theorem cm_k144 : ck_Mok cm_144 := ⟨Or.inl ⟨rfl, ck_tabi 517 rfl rfl⟩, by decide +kernel, by decide +kernel, by decide +kernel, ⟨ck_tabi 515 (by decide +kernel) rfl, ck_tabi 516 (by decide +kernel) rfl, _, _, rfl⟩⟩
def cm_145 : ck_MM := ((⟨"RatchetDeskLaw", "get", "(LRatchetDesk;II[J)I"⟩, method_4_code, 5, some .int, [(0, 9, 12, 13)]), 0, 4, 99)
set_option maxRecDepth 100000 in
theorem cm_k145 : ck_Mok cm_145 := ⟨Or.inr (ck_tabi 513 rfl rfl), by decide +kernel, by decide +kernel, by decide +kernel, ⟨ck_tabi 512 (by decide +kernel) rfl, ck_tabi 0 (by decide +kernel) rfl⟩⟩
def cm_146 : ck_MM := ((⟨"RatchetDeskModel", "get", "(II)J"⟩, prog_13_method_33_code, 3, some .long, []), 1, 2, 11)
set_option maxRecDepth 100000 in
theorem cm_k146 : ck_Mok cm_146 := ⟨Or.inl ⟨rfl, ck_tabi 1170 rfl rfl⟩, by decide +kernel, by decide +kernel, by decide +kernel, ⟨ck_tabi 1168 (by decide +kernel) rfl, ck_tabi 1169 (by decide +kernel) rfl, _, _, rfl⟩⟩
def cm_147 : ck_MM := ((⟨"RatchetDesk", "readEight", "([II)J"⟩, prog_1_method_34_code, 5, some .long, []), 0, 2, 0)
set_option maxRecDepth 100000 in
theorem cm_k147 : ck_Mok cm_147 := ⟨Or.inl ⟨rfl, ck_tabi 520 rfl rfl⟩, by decide +kernel, by decide +kernel, by decide +kernel, ⟨ck_tabi 519 (by decide +kernel) rfl, ck_tabi 1 (by decide +kernel) rfl⟩⟩
def cm_148 : ck_MM := ((⟨"RatchetDeskModel", "eightAt", "(I)J"⟩, prog_13_method_32_code, 5, some .long, []), 1, 1, 11)
set_option maxRecDepth 100000 in
theorem cm_k148 : ck_Mok cm_148 := ⟨Or.inl ⟨rfl, ck_tabi 1174 rfl rfl⟩, by decide +kernel, by decide +kernel, by decide +kernel, ⟨ck_tabi 1173 (by decide +kernel) rfl, ck_seli 16 (by decide +kernel) rfl, _, _, rfl⟩⟩
def cm_149 : ck_MM := ((⟨"RatchetDesk", "put", "(IIJ)V"⟩, prog_1_method_2_code, 5, none, []), 1, 3, 0)
set_option maxRecDepth 100000 in
theorem cm_k149 : ck_Mok cm_149 := ⟨Or.inl ⟨rfl, ck_tabi 436 rfl rfl⟩, by decide +kernel, by decide +kernel, by decide +kernel, ⟨ck_tabi 434 (by decide +kernel) rfl, ck_tabi 435 (by decide +kernel) rfl, _, _, rfl⟩⟩
def cm_150 : ck_MM := ((⟨"RatchetDeskLaw", "put", "(LRatchetDesk;IIJ)I"⟩, method_3_code, 6, some .int, [(0, 7, 10, 13)]), 0, 4, 99)
set_option maxRecDepth 100000 in
theorem cm_k150 : ck_Mok cm_150 := ⟨Or.inr (ck_tabi 431 rfl rfl), by decide +kernel, by decide +kernel, by decide +kernel, ⟨ck_tabi 430 (by decide +kernel) rfl, ck_tabi 0 (by decide +kernel) rfl⟩⟩
def cm_151 : ck_MM := ((⟨"RatchetDeskModel", "put", "(IIJ)V"⟩, prog_13_method_31_code, 6, none, []), 1, 3, 11)
set_option maxRecDepth 100000 in
theorem cm_k151 : ck_Mok cm_151 := ⟨Or.inl ⟨rfl, ck_tabi 1159 rfl rfl⟩, by decide +kernel, by decide +kernel, by decide +kernel, ⟨ck_tabi 1157 (by decide +kernel) rfl, ck_tabi 1158 (by decide +kernel) rfl, _, _, rfl⟩⟩
def cm_152 : ck_MM := ((⟨"RatchetDesk", "writeEight", "([IIJ)V"⟩, prog_1_method_35_code, 5, none, []), 0, 3, 0)
set_option maxRecDepth 100000 in
theorem cm_k152 : ck_Mok cm_152 := ⟨Or.inl ⟨rfl, ck_tabi 510 rfl rfl⟩, by decide +kernel, by decide +kernel, by decide +kernel, ⟨ck_tabi 509 (by decide +kernel) rfl, ck_tabi 1 (by decide +kernel) rfl⟩⟩
def cm_ms0 : List ck_MM := [cm_0, cm_1, cm_2, cm_3, cm_4, cm_5, cm_6, cm_7, cm_8, cm_9, cm_10, cm_11, cm_12, cm_13, cm_14, cm_15, cm_16, cm_17, cm_18, cm_19]
theorem cm_oc0 : ∀ q ∈ cm_ms0, ck_Mok q := (List.forall_mem_cons.mpr ⟨cm_k0, (List.forall_mem_cons.mpr ⟨cm_k1, (List.forall_mem_cons.mpr ⟨cm_k2, (List.forall_mem_cons.mpr ⟨cm_k3, (List.forall_mem_cons.mpr ⟨cm_k4, (List.forall_mem_cons.mpr ⟨cm_k5, (List.forall_mem_cons.mpr ⟨cm_k6, (List.forall_mem_cons.mpr ⟨cm_k7, (List.forall_mem_cons.mpr ⟨cm_k8, (List.forall_mem_cons.mpr ⟨cm_k9, (List.forall_mem_cons.mpr ⟨cm_k10, (List.forall_mem_cons.mpr ⟨cm_k11, (List.forall_mem_cons.mpr ⟨cm_k12, (List.forall_mem_cons.mpr ⟨cm_k13, (List.forall_mem_cons.mpr ⟨cm_k14, (List.forall_mem_cons.mpr ⟨cm_k15, (List.forall_mem_cons.mpr ⟨cm_k16, (List.forall_mem_cons.mpr ⟨cm_k17, (List.forall_mem_cons.mpr ⟨cm_k18, (List.forall_mem_cons.mpr ⟨cm_k19, (fun _ h => by cases h)⟩)⟩)⟩)⟩)⟩)⟩)⟩)⟩)⟩)⟩)⟩)⟩)⟩)⟩)⟩)⟩)⟩)⟩)⟩)⟩)
def cm_ms1 : List ck_MM := [cm_20, cm_21, cm_22, cm_23, cm_24, cm_25, cm_26, cm_27, cm_28, cm_29, cm_30, cm_31, cm_32, cm_33, cm_34, cm_35, cm_36, cm_37, cm_38, cm_39]
theorem cm_oc1 : ∀ q ∈ cm_ms1, ck_Mok q := (List.forall_mem_cons.mpr ⟨cm_k20, (List.forall_mem_cons.mpr ⟨cm_k21, (List.forall_mem_cons.mpr ⟨cm_k22, (List.forall_mem_cons.mpr ⟨cm_k23, (List.forall_mem_cons.mpr ⟨cm_k24, (List.forall_mem_cons.mpr ⟨cm_k25, (List.forall_mem_cons.mpr ⟨cm_k26, (List.forall_mem_cons.mpr ⟨cm_k27, (List.forall_mem_cons.mpr ⟨cm_k28, (List.forall_mem_cons.mpr ⟨cm_k29, (List.forall_mem_cons.mpr ⟨cm_k30, (List.forall_mem_cons.mpr ⟨cm_k31, (List.forall_mem_cons.mpr ⟨cm_k32, (List.forall_mem_cons.mpr ⟨cm_k33, (List.forall_mem_cons.mpr ⟨cm_k34, (List.forall_mem_cons.mpr ⟨cm_k35, (List.forall_mem_cons.mpr ⟨cm_k36, (List.forall_mem_cons.mpr ⟨cm_k37, (List.forall_mem_cons.mpr ⟨cm_k38, (List.forall_mem_cons.mpr ⟨cm_k39, (fun _ h => by cases h)⟩)⟩)⟩)⟩)⟩)⟩)⟩)⟩)⟩)⟩)⟩)⟩)⟩)⟩)⟩)⟩)⟩)⟩)⟩)⟩)
def cm_ms2 : List ck_MM := [cm_40, cm_41, cm_42, cm_43, cm_44, cm_45, cm_46, cm_47, cm_48, cm_49, cm_50, cm_51, cm_52, cm_53, cm_54, cm_55, cm_56, cm_57, cm_58, cm_59]
theorem cm_oc2 : ∀ q ∈ cm_ms2, ck_Mok q := (List.forall_mem_cons.mpr ⟨cm_k40, (List.forall_mem_cons.mpr ⟨cm_k41, (List.forall_mem_cons.mpr ⟨cm_k42, (List.forall_mem_cons.mpr ⟨cm_k43, (List.forall_mem_cons.mpr ⟨cm_k44, (List.forall_mem_cons.mpr ⟨cm_k45, (List.forall_mem_cons.mpr ⟨cm_k46, (List.forall_mem_cons.mpr ⟨cm_k47, (List.forall_mem_cons.mpr ⟨cm_k48, (List.forall_mem_cons.mpr ⟨cm_k49, (List.forall_mem_cons.mpr ⟨cm_k50, (List.forall_mem_cons.mpr ⟨cm_k51, (List.forall_mem_cons.mpr ⟨cm_k52, (List.forall_mem_cons.mpr ⟨cm_k53, (List.forall_mem_cons.mpr ⟨cm_k54, (List.forall_mem_cons.mpr ⟨cm_k55, (List.forall_mem_cons.mpr ⟨cm_k56, (List.forall_mem_cons.mpr ⟨cm_k57, (List.forall_mem_cons.mpr ⟨cm_k58, (List.forall_mem_cons.mpr ⟨cm_k59, (fun _ h => by cases h)⟩)⟩)⟩)⟩)⟩)⟩)⟩)⟩)⟩)⟩)⟩)⟩)⟩)⟩)⟩)⟩)⟩)⟩)⟩)⟩)
def cm_ms3 : List ck_MM := [cm_60, cm_61, cm_62, cm_63, cm_64, cm_65, cm_66, cm_67, cm_68, cm_69, cm_70, cm_71, cm_72, cm_73, cm_74, cm_75, cm_76, cm_77, cm_78, cm_79]
theorem cm_oc3 : ∀ q ∈ cm_ms3, ck_Mok q := (List.forall_mem_cons.mpr ⟨cm_k60, (List.forall_mem_cons.mpr ⟨cm_k61, (List.forall_mem_cons.mpr ⟨cm_k62, (List.forall_mem_cons.mpr ⟨cm_k63, (List.forall_mem_cons.mpr ⟨cm_k64, (List.forall_mem_cons.mpr ⟨cm_k65, (List.forall_mem_cons.mpr ⟨cm_k66, (List.forall_mem_cons.mpr ⟨cm_k67, (List.forall_mem_cons.mpr ⟨cm_k68, (List.forall_mem_cons.mpr ⟨cm_k69, (List.forall_mem_cons.mpr ⟨cm_k70, (List.forall_mem_cons.mpr ⟨cm_k71, (List.forall_mem_cons.mpr ⟨cm_k72, (List.forall_mem_cons.mpr ⟨cm_k73, (List.forall_mem_cons.mpr ⟨cm_k74, (List.forall_mem_cons.mpr ⟨cm_k75, (List.forall_mem_cons.mpr ⟨cm_k76, (List.forall_mem_cons.mpr ⟨cm_k77, (List.forall_mem_cons.mpr ⟨cm_k78, (List.forall_mem_cons.mpr ⟨cm_k79, (fun _ h => by cases h)⟩)⟩)⟩)⟩)⟩)⟩)⟩)⟩)⟩)⟩)⟩)⟩)⟩)⟩)⟩)⟩)⟩)⟩)⟩)⟩)
def cm_ms4 : List ck_MM := [cm_80, cm_81, cm_82, cm_83, cm_84, cm_85, cm_86, cm_87, cm_88, cm_89, cm_90, cm_91, cm_92, cm_93, cm_94, cm_95, cm_96, cm_97, cm_98, cm_99]
theorem cm_oc4 : ∀ q ∈ cm_ms4, ck_Mok q := (List.forall_mem_cons.mpr ⟨cm_k80, (List.forall_mem_cons.mpr ⟨cm_k81, (List.forall_mem_cons.mpr ⟨cm_k82, (List.forall_mem_cons.mpr ⟨cm_k83, (List.forall_mem_cons.mpr ⟨cm_k84, (List.forall_mem_cons.mpr ⟨cm_k85, (List.forall_mem_cons.mpr ⟨cm_k86, (List.forall_mem_cons.mpr ⟨cm_k87, (List.forall_mem_cons.mpr ⟨cm_k88, (List.forall_mem_cons.mpr ⟨cm_k89, (List.forall_mem_cons.mpr ⟨cm_k90, (List.forall_mem_cons.mpr ⟨cm_k91, (List.forall_mem_cons.mpr ⟨cm_k92, (List.forall_mem_cons.mpr ⟨cm_k93, (List.forall_mem_cons.mpr ⟨cm_k94, (List.forall_mem_cons.mpr ⟨cm_k95, (List.forall_mem_cons.mpr ⟨cm_k96, (List.forall_mem_cons.mpr ⟨cm_k97, (List.forall_mem_cons.mpr ⟨cm_k98, (List.forall_mem_cons.mpr ⟨cm_k99, (fun _ h => by cases h)⟩)⟩)⟩)⟩)⟩)⟩)⟩)⟩)⟩)⟩)⟩)⟩)⟩)⟩)⟩)⟩)⟩)⟩)⟩)⟩)
def cm_ms5 : List ck_MM := [cm_100, cm_101, cm_102, cm_103, cm_104, cm_105, cm_106, cm_107, cm_108, cm_109, cm_110, cm_111, cm_112, cm_113, cm_114, cm_115, cm_116, cm_117, cm_118, cm_119]
theorem cm_oc5 : ∀ q ∈ cm_ms5, ck_Mok q := (List.forall_mem_cons.mpr ⟨cm_k100, (List.forall_mem_cons.mpr ⟨cm_k101, (List.forall_mem_cons.mpr ⟨cm_k102, (List.forall_mem_cons.mpr ⟨cm_k103, (List.forall_mem_cons.mpr ⟨cm_k104, (List.forall_mem_cons.mpr ⟨cm_k105, (List.forall_mem_cons.mpr ⟨cm_k106, (List.forall_mem_cons.mpr ⟨cm_k107, (List.forall_mem_cons.mpr ⟨cm_k108, (List.forall_mem_cons.mpr ⟨cm_k109, (List.forall_mem_cons.mpr ⟨cm_k110, (List.forall_mem_cons.mpr ⟨cm_k111, (List.forall_mem_cons.mpr ⟨cm_k112, (List.forall_mem_cons.mpr ⟨cm_k113, (List.forall_mem_cons.mpr ⟨cm_k114, (List.forall_mem_cons.mpr ⟨cm_k115, (List.forall_mem_cons.mpr ⟨cm_k116, (List.forall_mem_cons.mpr ⟨cm_k117, (List.forall_mem_cons.mpr ⟨cm_k118, (List.forall_mem_cons.mpr ⟨cm_k119, (fun _ h => by cases h)⟩)⟩)⟩)⟩)⟩)⟩)⟩)⟩)⟩)⟩)⟩)⟩)⟩)⟩)⟩)⟩)⟩)⟩)⟩)⟩)
def cm_ms6 : List ck_MM := [cm_120, cm_121, cm_122, cm_123, cm_124, cm_125, cm_126, cm_127, cm_128, cm_129, cm_130, cm_131, cm_132, cm_133, cm_134, cm_135, cm_136, cm_137, cm_138, cm_139]
theorem cm_oc6 : ∀ q ∈ cm_ms6, ck_Mok q := (List.forall_mem_cons.mpr ⟨cm_k120, (List.forall_mem_cons.mpr ⟨cm_k121, (List.forall_mem_cons.mpr ⟨cm_k122, (List.forall_mem_cons.mpr ⟨cm_k123, (List.forall_mem_cons.mpr ⟨cm_k124, (List.forall_mem_cons.mpr ⟨cm_k125, (List.forall_mem_cons.mpr ⟨cm_k126, (List.forall_mem_cons.mpr ⟨cm_k127, (List.forall_mem_cons.mpr ⟨cm_k128, (List.forall_mem_cons.mpr ⟨cm_k129, (List.forall_mem_cons.mpr ⟨cm_k130, (List.forall_mem_cons.mpr ⟨cm_k131, (List.forall_mem_cons.mpr ⟨cm_k132, (List.forall_mem_cons.mpr ⟨cm_k133, (List.forall_mem_cons.mpr ⟨cm_k134, (List.forall_mem_cons.mpr ⟨cm_k135, (List.forall_mem_cons.mpr ⟨cm_k136, (List.forall_mem_cons.mpr ⟨cm_k137, (List.forall_mem_cons.mpr ⟨cm_k138, (List.forall_mem_cons.mpr ⟨cm_k139, (fun _ h => by cases h)⟩)⟩)⟩)⟩)⟩)⟩)⟩)⟩)⟩)⟩)⟩)⟩)⟩)⟩)⟩)⟩)⟩)⟩)⟩)⟩)
def cm_ms7 : List ck_MM := [cm_140, cm_141, cm_142, cm_143, cm_144, cm_145, cm_146, cm_147, cm_148, cm_149, cm_150, cm_151, cm_152]
theorem cm_oc7 : ∀ q ∈ cm_ms7, ck_Mok q := (List.forall_mem_cons.mpr ⟨cm_k140, (List.forall_mem_cons.mpr ⟨cm_k141, (List.forall_mem_cons.mpr ⟨cm_k142, (List.forall_mem_cons.mpr ⟨cm_k143, (List.forall_mem_cons.mpr ⟨cm_k144, (List.forall_mem_cons.mpr ⟨cm_k145, (List.forall_mem_cons.mpr ⟨cm_k146, (List.forall_mem_cons.mpr ⟨cm_k147, (List.forall_mem_cons.mpr ⟨cm_k148, (List.forall_mem_cons.mpr ⟨cm_k149, (List.forall_mem_cons.mpr ⟨cm_k150, (List.forall_mem_cons.mpr ⟨cm_k151, (List.forall_mem_cons.mpr ⟨cm_k152, (fun _ h => by cases h)⟩)⟩)⟩)⟩)⟩)⟩)⟩)⟩)⟩)⟩)⟩)⟩)⟩)
def cm_ms : List ck_MM := cm_ms0 ++ (cm_ms1 ++ (cm_ms2 ++ (cm_ms3 ++ (cm_ms4 ++ (cm_ms5 ++ (cm_ms6 ++ (cm_ms7)))))))
theorem cm_g0 : cm_ms[0]? = some cm_0 := rfl
theorem cm_g1 : cm_ms[1]? = some cm_1 := rfl
theorem cm_g2 : cm_ms[2]? = some cm_2 := rfl
theorem cm_g3 : cm_ms[3]? = some cm_3 := rfl
theorem cm_g4 : cm_ms[4]? = some cm_4 := rfl
theorem cm_g5 : cm_ms[5]? = some cm_5 := rfl
theorem cm_g6 : cm_ms[6]? = some cm_6 := rfl
theorem cm_g7 : cm_ms[7]? = some cm_7 := rfl
theorem cm_g8 : cm_ms[8]? = some cm_8 := rfl
theorem cm_g9 : cm_ms[9]? = some cm_9 := rfl
theorem cm_g10 : cm_ms[10]? = some cm_10 := rfl
theorem cm_g11 : cm_ms[11]? = some cm_11 := rfl
theorem cm_g12 : cm_ms[12]? = some cm_12 := rfl
theorem cm_g13 : cm_ms[13]? = some cm_13 := rfl
theorem cm_g14 : cm_ms[14]? = some cm_14 := rfl
theorem cm_g15 : cm_ms[15]? = some cm_15 := rfl
theorem cm_g16 : cm_ms[16]? = some cm_16 := rfl
theorem cm_g17 : cm_ms[17]? = some cm_17 := rfl
theorem cm_g18 : cm_ms[18]? = some cm_18 := rfl
theorem cm_g19 : cm_ms[19]? = some cm_19 := rfl
theorem cm_g20 : cm_ms[20]? = some cm_20 := rfl
theorem cm_g21 : cm_ms[21]? = some cm_21 := rfl
theorem cm_g22 : cm_ms[22]? = some cm_22 := rfl
theorem cm_g23 : cm_ms[23]? = some cm_23 := rfl
theorem cm_g24 : cm_ms[24]? = some cm_24 := rfl
theorem cm_g25 : cm_ms[25]? = some cm_25 := rfl
theorem cm_g26 : cm_ms[26]? = some cm_26 := rfl
theorem cm_g27 : cm_ms[27]? = some cm_27 := rfl
theorem cm_g28 : cm_ms[28]? = some cm_28 := rfl
theorem cm_g29 : cm_ms[29]? = some cm_29 := rfl
theorem cm_g30 : cm_ms[30]? = some cm_30 := rfl
theorem cm_g31 : cm_ms[31]? = some cm_31 := rfl
theorem cm_g32 : cm_ms[32]? = some cm_32 := rfl
theorem cm_g33 : cm_ms[33]? = some cm_33 := rfl
theorem cm_g34 : cm_ms[34]? = some cm_34 := rfl
theorem cm_g35 : cm_ms[35]? = some cm_35 := rfl
theorem cm_g36 : cm_ms[36]? = some cm_36 := rfl
theorem cm_g37 : cm_ms[37]? = some cm_37 := rfl
theorem cm_g38 : cm_ms[38]? = some cm_38 := rfl
theorem cm_g39 : cm_ms[39]? = some cm_39 := rfl
theorem cm_g40 : cm_ms[40]? = some cm_40 := rfl
theorem cm_g41 : cm_ms[41]? = some cm_41 := rfl
theorem cm_g42 : cm_ms[42]? = some cm_42 := rfl
theorem cm_g43 : cm_ms[43]? = some cm_43 := rfl
theorem cm_g44 : cm_ms[44]? = some cm_44 := rfl
theorem cm_g45 : cm_ms[45]? = some cm_45 := rfl
theorem cm_g46 : cm_ms[46]? = some cm_46 := rfl
theorem cm_g47 : cm_ms[47]? = some cm_47 := rfl
theorem cm_g48 : cm_ms[48]? = some cm_48 := rfl
theorem cm_g49 : cm_ms[49]? = some cm_49 := rfl
theorem cm_g50 : cm_ms[50]? = some cm_50 := rfl
theorem cm_g51 : cm_ms[51]? = some cm_51 := rfl
theorem cm_g52 : cm_ms[52]? = some cm_52 := rfl
theorem cm_g53 : cm_ms[53]? = some cm_53 := rfl
theorem cm_g54 : cm_ms[54]? = some cm_54 := rfl
theorem cm_g55 : cm_ms[55]? = some cm_55 := rfl
theorem cm_g56 : cm_ms[56]? = some cm_56 := rfl
theorem cm_g57 : cm_ms[57]? = some cm_57 := rfl
theorem cm_g58 : cm_ms[58]? = some cm_58 := rfl
theorem cm_g59 : cm_ms[59]? = some cm_59 := rfl
theorem cm_g60 : cm_ms[60]? = some cm_60 := rfl
theorem cm_g61 : cm_ms[61]? = some cm_61 := rfl
theorem cm_g62 : cm_ms[62]? = some cm_62 := rfl
theorem cm_g63 : cm_ms[63]? = some cm_63 := rfl
theorem cm_g64 : cm_ms[64]? = some cm_64 := rfl
theorem cm_g65 : cm_ms[65]? = some cm_65 := rfl
theorem cm_g66 : cm_ms[66]? = some cm_66 := rfl
theorem cm_g67 : cm_ms[67]? = some cm_67 := rfl
theorem cm_g68 : cm_ms[68]? = some cm_68 := rfl
theorem cm_g69 : cm_ms[69]? = some cm_69 := rfl
theorem cm_g70 : cm_ms[70]? = some cm_70 := rfl
theorem cm_g71 : cm_ms[71]? = some cm_71 := rfl
theorem cm_g72 : cm_ms[72]? = some cm_72 := rfl
theorem cm_g73 : cm_ms[73]? = some cm_73 := rfl
theorem cm_g74 : cm_ms[74]? = some cm_74 := rfl
theorem cm_g75 : cm_ms[75]? = some cm_75 := rfl
theorem cm_g76 : cm_ms[76]? = some cm_76 := rfl
theorem cm_g77 : cm_ms[77]? = some cm_77 := rfl
theorem cm_g78 : cm_ms[78]? = some cm_78 := rfl
theorem cm_g79 : cm_ms[79]? = some cm_79 := rfl
theorem cm_g80 : cm_ms[80]? = some cm_80 := rfl
theorem cm_g81 : cm_ms[81]? = some cm_81 := rfl
theorem cm_g82 : cm_ms[82]? = some cm_82 := rfl
theorem cm_g83 : cm_ms[83]? = some cm_83 := rfl
theorem cm_g84 : cm_ms[84]? = some cm_84 := rfl
theorem cm_g85 : cm_ms[85]? = some cm_85 := rfl
theorem cm_g86 : cm_ms[86]? = some cm_86 := rfl
theorem cm_g87 : cm_ms[87]? = some cm_87 := rfl
theorem cm_g88 : cm_ms[88]? = some cm_88 := rfl
theorem cm_g89 : cm_ms[89]? = some cm_89 := rfl
theorem cm_g90 : cm_ms[90]? = some cm_90 := rfl
theorem cm_g91 : cm_ms[91]? = some cm_91 := rfl
theorem cm_g92 : cm_ms[92]? = some cm_92 := rfl
theorem cm_g93 : cm_ms[93]? = some cm_93 := rfl
theorem cm_g94 : cm_ms[94]? = some cm_94 := rfl
theorem cm_g95 : cm_ms[95]? = some cm_95 := rfl
theorem cm_g96 : cm_ms[96]? = some cm_96 := rfl
theorem cm_g97 : cm_ms[97]? = some cm_97 := rfl
theorem cm_g98 : cm_ms[98]? = some cm_98 := rfl
theorem cm_g99 : cm_ms[99]? = some cm_99 := rfl
theorem cm_g100 : cm_ms[100]? = some cm_100 := rfl
theorem cm_g101 : cm_ms[101]? = some cm_101 := rfl
theorem cm_g102 : cm_ms[102]? = some cm_102 := rfl
theorem cm_g103 : cm_ms[103]? = some cm_103 := rfl
theorem cm_g104 : cm_ms[104]? = some cm_104 := rfl
theorem cm_g105 : cm_ms[105]? = some cm_105 := rfl
theorem cm_g106 : cm_ms[106]? = some cm_106 := rfl
theorem cm_g107 : cm_ms[107]? = some cm_107 := rfl
theorem cm_g108 : cm_ms[108]? = some cm_108 := rfl
theorem cm_g109 : cm_ms[109]? = some cm_109 := rfl
theorem cm_g110 : cm_ms[110]? = some cm_110 := rfl
theorem cm_g111 : cm_ms[111]? = some cm_111 := rfl
theorem cm_g112 : cm_ms[112]? = some cm_112 := rfl
theorem cm_g113 : cm_ms[113]? = some cm_113 := rfl
theorem cm_g114 : cm_ms[114]? = some cm_114 := rfl
theorem cm_g115 : cm_ms[115]? = some cm_115 := rfl
theorem cm_g116 : cm_ms[116]? = some cm_116 := rfl
theorem cm_g117 : cm_ms[117]? = some cm_117 := rfl
theorem cm_g118 : cm_ms[118]? = some cm_118 := rfl
theorem cm_g119 : cm_ms[119]? = some cm_119 := rfl
theorem cm_g120 : cm_ms[120]? = some cm_120 := rfl
theorem cm_g121 : cm_ms[121]? = some cm_121 := rfl
theorem cm_g122 : cm_ms[122]? = some cm_122 := rfl
theorem cm_g123 : cm_ms[123]? = some cm_123 := rfl
theorem cm_g124 : cm_ms[124]? = some cm_124 := rfl
theorem cm_g125 : cm_ms[125]? = some cm_125 := rfl
theorem cm_g126 : cm_ms[126]? = some cm_126 := rfl
theorem cm_g127 : cm_ms[127]? = some cm_127 := rfl
theorem cm_g128 : cm_ms[128]? = some cm_128 := rfl
theorem cm_g129 : cm_ms[129]? = some cm_129 := rfl
theorem cm_g130 : cm_ms[130]? = some cm_130 := rfl
theorem cm_g131 : cm_ms[131]? = some cm_131 := rfl
theorem cm_g132 : cm_ms[132]? = some cm_132 := rfl
theorem cm_g133 : cm_ms[133]? = some cm_133 := rfl
theorem cm_g134 : cm_ms[134]? = some cm_134 := rfl
theorem cm_g135 : cm_ms[135]? = some cm_135 := rfl
theorem cm_g136 : cm_ms[136]? = some cm_136 := rfl
theorem cm_g137 : cm_ms[137]? = some cm_137 := rfl
theorem cm_g138 : cm_ms[138]? = some cm_138 := rfl
theorem cm_g139 : cm_ms[139]? = some cm_139 := rfl
theorem cm_g140 : cm_ms[140]? = some cm_140 := rfl
theorem cm_g141 : cm_ms[141]? = some cm_141 := rfl
theorem cm_g142 : cm_ms[142]? = some cm_142 := rfl
theorem cm_g143 : cm_ms[143]? = some cm_143 := rfl
theorem cm_g144 : cm_ms[144]? = some cm_144 := rfl
theorem cm_g145 : cm_ms[145]? = some cm_145 := rfl
theorem cm_g146 : cm_ms[146]? = some cm_146 := rfl
theorem cm_g147 : cm_ms[147]? = some cm_147 := rfl
theorem cm_g148 : cm_ms[148]? = some cm_148 := rfl
theorem cm_g149 : cm_ms[149]? = some cm_149 := rfl
theorem cm_g150 : cm_ms[150]? = some cm_150 := rfl
theorem cm_g151 : cm_ms[151]? = some cm_151 := rfl
theorem cm_g152 : cm_ms[152]? = some cm_152 := rfl
theorem cm_ok : ∀ q ∈ cm_ms, ck_Mok q := (List.forall_mem_append.mpr ⟨cm_oc0, (List.forall_mem_append.mpr ⟨cm_oc1, (List.forall_mem_append.mpr ⟨cm_oc2, (List.forall_mem_append.mpr ⟨cm_oc3, (List.forall_mem_append.mpr ⟨cm_oc4, (List.forall_mem_append.mpr ⟨cm_oc5, (List.forall_mem_append.mpr ⟨cm_oc6, cm_oc7⟩)⟩)⟩)⟩)⟩)⟩)⟩)
end
section
/-! ===== the classes' links ===== -/
def ce_f0 : List (Nat × Nat × Nat × Nat) := []
def ce_k0 : List (Nat × Nat × Int) := []
def ce_j0 : List (Nat × Nat × Int) := [(1428, 96, 4294967295)]
def ce_n0 : List (Nat × Nat × Nat) := [(20, 8, 0), (957, 93, 11)]
def ce_a0 : List ((Nat × Nat) × Nat × Nat) := []
def ce_g0 : List (Nat × Nat × Nat) := []
def ce_x0 : List (Nat × Nat × Nat) := [(432, 13, 0), (615, 34, 1), (657, 43, 2)]
def ce_i0 : List (Nat × Nat) := []
def ce_m0 : List ((Nat × String) × Nat × Nat) := [((433, ""), 7, 149), ((514, ""), 15, 144), ((524, ""), 19, 141), ((575, ""), 23, 138), ((605, ""), 26, 135), ((616, ""), 30, 131), ((646, ""), 36, 127), ((658, ""), 39, 64), ((745, ""), 45, 61), ((786, ""), 49, 58), ((799, ""), 53, 55), ((888, ""), 56, 52), ((910, ""), 59, 49), ((917, ""), 63, 44), ((924, ""), 67, 39), ((931, ""), 70, 36), ((938, ""), 73, 33), ((945, ""), 76, 30), ((953, ""), 80, 24), ((426, ""), 84, 0), ((22, ""), 90, 20), ((959, ""), 95, 22), ((429, ""), 98, 150), ((1156, ""), 101, 151), ((1152, ""), 102, 29), ((511, ""), 106, 145), ((1167, ""), 109, 146), ((521, ""), 110, 142), ((1175, ""), 113, 143), ((572, ""), 114, 139), ((1230, ""), 116, 140), ((602, ""), 117, 136), ((1265, ""), 120, 137), ((612, ""), 121, 132), ((1269, ""), 124, 133), ((643, ""), 125, 128), ((1273, ""), 127, 129), ((654, ""), 128, 65), ((1277, ""), 130, 66), ((742, ""), 131, 62), ((1320, ""), 134, 63), ((783, ""), 135, 59), ((1344, ""), 138, 60), ((796, ""), 139, 56), ((1384, ""), 141, 57), ((885, ""), 142, 53), ((1348, ""), 144, 54), ((907, ""), 145, 50), ((1392, ""), 147, 51), ((418, ""), 148, 47), ((1396, ""), 151, 48), ((914, ""), 152, 45), ((1400, ""), 155, 46), ((422, ""), 156, 42), ((1404, ""), 159, 43), ((921, ""), 160, 40), ((1408, ""), 162, 41), ((928, ""), 163, 37), ((1412, ""), 165, 38), ((935, ""), 166, 34), ((1416, ""), 168, 35), ((942, ""), 169, 31), ((1420, ""), 171, 32), ((950, ""), 172, 25), ((1424, ""), 174, 28)]
def ce_c0 : List (Nat × Nat) := []
def ce_d0 : List (Nat × Nat) := []
def ce_o0 : List (Nat × Nat) := []
def ce_0 : ck_E := ("RatchetDeskLaw", ce_f0.map (fun q => q.2), ce_k0.map (fun q => q.2), ce_j0.map (fun q => q.2), ce_n0.map (fun q => q.2), ce_a0.map (fun q => q.2), ce_g0.map (fun q => q.2), ce_x0.map (fun q => q.2), ce_i0, ce_m0.map (fun q => q.2), ce_c0.map (fun q => q.2), ce_d0.map (fun q => q.2), ce_o0.map (fun q => q.2))
theorem ce_ok0 : ck_Eok cm_ms ce_0 := ⟨ck_vf_ok (by decide +kernel), ck_vk_ok (by decide +kernel), ck_vj_ok (by decide +kernel), ck_vn_ok (by decide +kernel), ck_va_ok (by decide +kernel), ck_vg_ok (by decide +kernel), ck_vx_ok (by decide +kernel), ck_vi_ok (by decide +kernel), ck_vm_ok (by decide +kernel), ck_vc_ok (by decide +kernel), ck_v2_ok (by decide +kernel), ck_vo_ok (by decide +kernel)⟩
def ce_f1 : List (Nat × Nat × Nat × Nat) := [(42, 9, 1, 0), (45, 15, 1, 1), (46, 31, 1, 2), (101, 39, 4, 0)]
def ce_k1 : List (Nat × Nat × Int) := []
def ce_j1 : List (Nat × Nat × Int) := []
def ce_n1 : List (Nat × Nat × Nat) := []
def ce_a1 : List ((Nat × Nat) × Nat × Nat) := []
def ce_g1 : List (Nat × Nat × Nat) := []
def ce_x1 : List (Nat × Nat × Nat) := []
def ce_i1 : List (Nat × Nat) := []
def ce_m1 : List ((Nat × String) × Nat × Nat) := [((353, ""), 18, 11), ((357, ""), 23, 13), ((365, ""), 27, 16), ((698, ""), 44, 82)]
def ce_c1 : List (Nat × Nat) := []
def ce_d1 : List (Nat × Nat) := []
def ce_o1 : List (Nat × Nat) := [(41, 3)]
def ce_1 : ck_E := ("RatchetDesk$Secret", ce_f1.map (fun q => q.2), ce_k1.map (fun q => q.2), ce_j1.map (fun q => q.2), ce_n1.map (fun q => q.2), ce_a1.map (fun q => q.2), ce_g1.map (fun q => q.2), ce_x1.map (fun q => q.2), ce_i1, ce_m1.map (fun q => q.2), ce_c1.map (fun q => q.2), ce_d1.map (fun q => q.2), ce_o1.map (fun q => q.2))
theorem ce_ok1 : ck_Eok cm_ms ce_1 := ⟨ck_vf_ok (by decide +kernel), ck_vk_ok (by decide +kernel), ck_vj_ok (by decide +kernel), ck_vn_ok (by decide +kernel), ck_va_ok (by decide +kernel), ck_vg_ok (by decide +kernel), ck_vx_ok (by decide +kernel), ck_vi_ok (by decide +kernel), ck_vm_ok (by decide +kernel), ck_vc_ok (by decide +kernel), ck_v2_ok (by decide +kernel), ck_vo_ok (by decide +kernel)⟩
def ce_f2 : List (Nat × Nat × Nat × Nat) := [(67, 9, 3, 0), (70, 15, 3, 1), (72, 18, 3, 3), (73, 21, 3, 4), (74, 24, 3, 5), (75, 27, 3, 6), (76, 30, 3, 7), (71, 33, 3, 2)]
def ce_k2 : List (Nat × Nat × Int) := []
def ce_j2 : List (Nat × Nat × Int) := []
def ce_n2 : List (Nat × Nat × Nat) := []
def ce_a2 : List ((Nat × Nat) × Nat × Nat) := []
def ce_g2 : List (Nat × Nat × Nat) := [(369, 41, 0), (382, 80, 1)]
def ce_x2 : List (Nat × Nat × Nat) := []
def ce_i2 : List (Nat × Nat) := []
def ce_m2 : List ((Nat × String) × Nat × Nat) := [((361, ""), 37, 12), ((374, ""), 50, 14), ((378, ""), 53, 15), ((583, "RatchetDesk"), 56, 85), ((587, ""), 60, 86), ((600, ""), 63, 16), ((601, ""), 67, 89), ((723, ""), 71, 91), ((724, ""), 74, 87), ((591, ""), 77, 11)]
def ce_c2 : List (Nat × Nat) := [(371, 44)]
def ce_d2 : List (Nat × Nat) := []
def ce_o2 : List (Nat × Nat) := [(66, 3)]
def ce_2 : ck_E := ("RatchetDesk$Hash", ce_f2.map (fun q => q.2), ce_k2.map (fun q => q.2), ce_j2.map (fun q => q.2), ce_n2.map (fun q => q.2), ce_a2.map (fun q => q.2), ce_g2.map (fun q => q.2), ce_x2.map (fun q => q.2), ce_i2, ce_m2.map (fun q => q.2), ce_c2.map (fun q => q.2), ce_d2.map (fun q => q.2), ce_o2.map (fun q => q.2))
theorem ce_ok2 : ck_Eok cm_ms ce_2 := ⟨ck_vf_ok (by decide +kernel), ck_vk_ok (by decide +kernel), ck_vj_ok (by decide +kernel), ck_vn_ok (by decide +kernel), ck_va_ok (by decide +kernel), ck_vg_ok (by decide +kernel), ck_vx_ok (by decide +kernel), ck_vi_ok (by decide +kernel), ck_vm_ok (by decide +kernel), ck_vc_ok (by decide +kernel), ck_v2_ok (by decide +kernel), ck_vo_ok (by decide +kernel)⟩
def ce_f3 : List (Nat × Nat × Nat × Nat) := [(100, 9, 4, 0), (102, 15, 4, 1), (103, 19, 4, 2), (104, 22, 4, 3), (105, 25, 4, 4), (106, 28, 4, 5), (107, 31, 4, 6), (108, 34, 4, 7), (109, 37, 4, 8), (110, 40, 4, 9), (111, 43, 4, 10), (112, 46, 4, 11), (113, 49, 4, 12)]
def ce_k3 : List (Nat × Nat × Int) := []
def ce_j3 : List (Nat × Nat × Int) := [(555, 99, 19), (562, 101, 121665), (556, 103, 2), (557, 105, 33554432), (558, 107, 16777216)]
def ce_n3 : List (Nat × Nat × Nat) := []
def ce_a3 : List ((Nat × Nat) × Nat × Nat) := []
def ce_g3 : List (Nat × Nat × Nat) := []
def ce_x3 : List (Nat × Nat × Nat) := []
def ce_i3 : List (Nat × Nat) := []
def ce_m3 : List ((Nat × String) × Nat × Nat) := [((532, ""), 52, 71), ((535, ""), 56, 72), ((539, ""), 66, 73), ((542, ""), 70, 78), ((563, ""), 74, 79), ((552, ""), 78, 76), ((566, ""), 82, 80), ((569, ""), 86, 81), ((546, ""), 90, 74), ((549, ""), 93, 75), ((559, ""), 96, 77)]
def ce_c3 : List (Nat × Nat) := [(538, 60)]
def ce_d3 : List (Nat × Nat) := []
def ce_o3 : List (Nat × Nat) := [(99, 3)]
def ce_3 : ck_E := ("RatchetDesk$Curve", ce_f3.map (fun q => q.2), ce_k3.map (fun q => q.2), ce_j3.map (fun q => q.2), ce_n3.map (fun q => q.2), ce_a3.map (fun q => q.2), ce_g3.map (fun q => q.2), ce_x3.map (fun q => q.2), ce_i3, ce_m3.map (fun q => q.2), ce_c3.map (fun q => q.2), ce_d3.map (fun q => q.2), ce_o3.map (fun q => q.2))
theorem ce_ok3 : ck_Eok cm_ms ce_3 := ⟨ck_vf_ok (by decide +kernel), ck_vk_ok (by decide +kernel), ck_vj_ok (by decide +kernel), ck_vn_ok (by decide +kernel), ck_va_ok (by decide +kernel), ck_vg_ok (by decide +kernel), ck_vx_ok (by decide +kernel), ck_vi_ok (by decide +kernel), ck_vm_ok (by decide +kernel), ck_vc_ok (by decide +kernel), ck_v2_ok (by decide +kernel), ck_vo_ok (by decide +kernel)⟩
def ce_f4 : List (Nat × Nat × Nat × Nat) := [(148, 9, 5, 0), (149, 15, 5, 1), (150, 18, 5, 2), (151, 21, 5, 3)]
def ce_k4 : List (Nat × Nat × Int) := []
def ce_j4 : List (Nat × Nat × Int) := []
def ce_n4 : List (Nat × Nat × Nat) := []
def ce_a4 : List ((Nat × Nat) × Nat × Nat) := []
def ce_g4 : List (Nat × Nat × Nat) := []
def ce_x4 : List (Nat × Nat × Nat) := []
def ce_i4 : List (Nat × Nat) := []
def ce_m4 : List ((Nat × String) × Nat × Nat) := []
def ce_c4 : List (Nat × Nat) := []
def ce_d4 : List (Nat × Nat) := []
def ce_o4 : List (Nat × Nat) := [(147, 3)]
def ce_4 : ck_E := ("RatchetDesk$Seal", ce_f4.map (fun q => q.2), ce_k4.map (fun q => q.2), ce_j4.map (fun q => q.2), ce_n4.map (fun q => q.2), ce_a4.map (fun q => q.2), ce_g4.map (fun q => q.2), ce_x4.map (fun q => q.2), ce_i4, ce_m4.map (fun q => q.2), ce_c4.map (fun q => q.2), ce_d4.map (fun q => q.2), ce_o4.map (fun q => q.2))
theorem ce_ok4 : ck_Eok cm_ms ce_4 := ⟨ck_vf_ok (by decide +kernel), ck_vk_ok (by decide +kernel), ck_vj_ok (by decide +kernel), ck_vn_ok (by decide +kernel), ck_va_ok (by decide +kernel), ck_vg_ok (by decide +kernel), ck_vx_ok (by decide +kernel), ck_vi_ok (by decide +kernel), ck_vm_ok (by decide +kernel), ck_vc_ok (by decide +kernel), ck_v2_ok (by decide +kernel), ck_vo_ok (by decide +kernel)⟩
def ce_f5 : List (Nat × Nat × Nat × Nat) := [(161, 12, 2, 0), (165, 21, 2, 1), (168, 28, 2, 2), (170, 32, 2, 3), (172, 36, 2, 4), (174, 39, 2, 5), (175, 42, 2, 6), (69, 45, 3, 0)]
def ce_k5 : List (Nat × Nat × Int) := []
def ce_j5 : List (Nat × Nat × Int) := []
def ce_n5 : List (Nat × Nat × Nat) := [(61, 9, 3), (94, 18, 4), (142, 25, 5)]
def ce_a5 : List ((Nat × Nat) × Nat × Nat) := []
def ce_g5 : List (Nat × Nat × Nat) := []
def ce_x5 : List (Nat × Nat × Nat) := []
def ce_i5 : List (Nat × Nat) := []
def ce_m5 : List ((Nat × String) × Nat × Nat) := [((63, "RatchetDesk"), 11, 2), ((96, ""), 20, 3), ((144, "RatchetDesk"), 27, 4), ((707, ""), 48, 87), ((708, ""), 52, 12), ((713, ""), 56, 82), ((714, ""), 60, 89), ((719, ""), 64, 92)]
def ce_c5 : List (Nat × Nat) := []
def ce_d5 : List (Nat × Nat) := []
def ce_o5 : List (Nat × Nat) := [(60, 3)]
def ce_5 : ck_E := ("RatchetDesk$Tools", ce_f5.map (fun q => q.2), ce_k5.map (fun q => q.2), ce_j5.map (fun q => q.2), ce_n5.map (fun q => q.2), ce_a5.map (fun q => q.2), ce_g5.map (fun q => q.2), ce_x5.map (fun q => q.2), ce_i5, ce_m5.map (fun q => q.2), ce_c5.map (fun q => q.2), ce_d5.map (fun q => q.2), ce_o5.map (fun q => q.2))
theorem ce_ok5 : ck_Eok cm_ms ce_5 := ⟨ck_vf_ok (by decide +kernel), ck_vk_ok (by decide +kernel), ck_vj_ok (by decide +kernel), ck_vn_ok (by decide +kernel), ck_va_ok (by decide +kernel), ck_vg_ok (by decide +kernel), ck_vx_ok (by decide +kernel), ck_vi_ok (by decide +kernel), ck_vm_ok (by decide +kernel), ck_vc_ok (by decide +kernel), ck_v2_ok (by decide +kernel), ck_vo_ok (by decide +kernel)⟩
def ce_f6 : List (Nat × Nat × Nat × Nat) := [(204, 9, 7, 0), (206, 15, 7, 1), (209, 19, 7, 2), (162, 27, 2, 0)]
def ce_k6 : List (Nat × Nat × Int) := []
def ce_j6 : List (Nat × Nat × Int) := []
def ce_n6 : List (Nat × Nat × Nat) := []
def ce_a6 : List ((Nat × Nat) × Nat × Nat) := []
def ce_g6 : List (Nat × Nat × Nat) := []
def ce_x6 : List (Nat × Nat × Nat) := []
def ce_i6 : List (Nat × Nat) := []
def ce_m6 : List ((Nat × String) × Nat × Nat) := [((739, ""), 33, 87), ((740, ""), 39, 90), ((741, ""), 42, 92)]
def ce_c6 : List (Nat × Nat) := []
def ce_d6 : List (Nat × Nat) := []
def ce_o6 : List (Nat × Nat) := [(203, 3)]
def ce_6 : ck_E := ("RatchetDesk$Chain", ce_f6.map (fun q => q.2), ce_k6.map (fun q => q.2), ce_j6.map (fun q => q.2), ce_n6.map (fun q => q.2), ce_a6.map (fun q => q.2), ce_g6.map (fun q => q.2), ce_x6.map (fun q => q.2), ce_i6, ce_m6.map (fun q => q.2), ce_c6.map (fun q => q.2), ce_d6.map (fun q => q.2), ce_o6.map (fun q => q.2))
theorem ce_ok6 : ck_Eok cm_ms ce_6 := ⟨ck_vf_ok (by decide +kernel), ck_vk_ok (by decide +kernel), ck_vj_ok (by decide +kernel), ck_vn_ok (by decide +kernel), ck_va_ok (by decide +kernel), ck_vg_ok (by decide +kernel), ck_vx_ok (by decide +kernel), ck_vi_ok (by decide +kernel), ck_vm_ok (by decide +kernel), ck_vc_ok (by decide +kernel), ck_v2_ok (by decide +kernel), ck_vo_ok (by decide +kernel)⟩
def ce_f7 : List (Nat × Nat × Nat × Nat) := [(226, 11, 8, 0), (227, 16, 8, 1), (228, 19, 8, 2)]
def ce_k7 : List (Nat × Nat × Int) := []
def ce_j7 : List (Nat × Nat × Int) := []
def ce_n7 : List (Nat × Nat × Nat) := []
def ce_a7 : List ((Nat × Nat) × Nat × Nat) := []
def ce_g7 : List (Nat × Nat × Nat) := []
def ce_x7 : List (Nat × Nat × Nat) := []
def ce_i7 : List (Nat × Nat) := []
def ce_m7 : List ((Nat × String) × Nat × Nat) := []
def ce_c7 : List (Nat × Nat) := []
def ce_d7 : List (Nat × Nat) := [(225, 9)]
def ce_o7 : List (Nat × Nat) := [(224, 3)]
def ce_7 : ck_E := ("RatchetDesk$KeptKeys", ce_f7.map (fun q => q.2), ce_k7.map (fun q => q.2), ce_j7.map (fun q => q.2), ce_n7.map (fun q => q.2), ce_a7.map (fun q => q.2), ce_g7.map (fun q => q.2), ce_x7.map (fun q => q.2), ce_i7, ce_m7.map (fun q => q.2), ce_c7.map (fun q => q.2), ce_d7.map (fun q => q.2), ce_o7.map (fun q => q.2))
theorem ce_ok7 : ck_Eok cm_ms ce_7 := ⟨ck_vf_ok (by decide +kernel), ck_vk_ok (by decide +kernel), ck_vj_ok (by decide +kernel), ck_vn_ok (by decide +kernel), ck_va_ok (by decide +kernel), ck_vg_ok (by decide +kernel), ck_vx_ok (by decide +kernel), ck_vi_ok (by decide +kernel), ck_vm_ok (by decide +kernel), ck_vc_ok (by decide +kernel), ck_v2_ok (by decide +kernel), ck_vo_ok (by decide +kernel)⟩
def ce_f8 : List (Nat × Nat × Nat × Nat) := [(245, 9, 6, 2), (247, 15, 6, 3), (249, 21, 6, 4), (251, 25, 6, 5), (253, 31, 6, 6), (255, 35, 6, 7), (259, 41, 6, 9), (261, 47, 6, 10), (241, 50, 6, 0), (243, 54, 6, 1), (257, 60, 6, 8), (230, 63, 8, 3), (262, 66, 6, 11), (263, 70, 6, 12), (265, 73, 6, 13)]
def ce_k8 : List (Nat × Nat × Int) := []
def ce_j8 : List (Nat × Nat × Int) := []
def ce_n8 : List (Nat × Nat × Nat) := [(196, 18, 1), (198, 28, 7), (219, 38, 8)]
def ce_a8 : List ((Nat × Nat) × Nat × Nat) := [((196, 303), 18, 3)]
def ce_g8 : List (Nat × Nat × Nat) := []
def ce_x8 : List (Nat × Nat × Nat) := []
def ce_i8 : List (Nat × Nat) := []
def ce_m8 : List ((Nat × String) × Nat × Nat) := [((197, "RatchetDesk"), 20, 1), ((200, "RatchetDesk"), 30, 6), ((221, "RatchetDesk"), 40, 7), ((686, ""), 57, 69)]
def ce_c8 : List (Nat × Nat) := [(730, 77)]
def ce_d8 : List (Nat × Nat) := []
def ce_o8 : List (Nat × Nat) := [(195, 3)]
def ce_8 : ck_E := ("RatchetDesk$End", ce_f8.map (fun q => q.2), ce_k8.map (fun q => q.2), ce_j8.map (fun q => q.2), ce_n8.map (fun q => q.2), ce_a8.map (fun q => q.2), ce_g8.map (fun q => q.2), ce_x8.map (fun q => q.2), ce_i8, ce_m8.map (fun q => q.2), ce_c8.map (fun q => q.2), ce_d8.map (fun q => q.2), ce_o8.map (fun q => q.2))
theorem ce_ok8 : ck_Eok cm_ms ce_8 := ⟨ck_vf_ok (by decide +kernel), ck_vk_ok (by decide +kernel), ck_vj_ok (by decide +kernel), ck_vn_ok (by decide +kernel), ck_va_ok (by decide +kernel), ck_vg_ok (by decide +kernel), ck_vx_ok (by decide +kernel), ck_vi_ok (by decide +kernel), ck_vm_ok (by decide +kernel), ck_vc_ok (by decide +kernel), ck_v2_ok (by decide +kernel), ck_vo_ok (by decide +kernel)⟩
def ce_f9 : List (Nat × Nat × Nat × Nat) := [(304, 12, 9, 0), (306, 18, 9, 1), (308, 21, 9, 2), (310, 25, 9, 3), (311, 29, 9, 4)]
def ce_k9 : List (Nat × Nat × Int) := []
def ce_j9 : List (Nat × Nat × Int) := []
def ce_n9 : List (Nat × Nat × Nat) := [(301, 9, 1)]
def ce_a9 : List ((Nat × Nat) × Nat × Nat) := [((301, 303), 9, 3)]
def ce_g9 : List (Nat × Nat × Nat) := []
def ce_x9 : List (Nat × Nat × Nat) := []
def ce_i9 : List (Nat × Nat) := []
def ce_m9 : List ((Nat × String) × Nat × Nat) := [((302, "RatchetDesk"), 11, 1)]
def ce_c9 : List (Nat × Nat) := []
def ce_d9 : List (Nat × Nat) := []
def ce_o9 : List (Nat × Nat) := [(300, 3)]
def ce_9 : ck_E := ("RatchetDesk$Person", ce_f9.map (fun q => q.2), ce_k9.map (fun q => q.2), ce_j9.map (fun q => q.2), ce_n9.map (fun q => q.2), ce_a9.map (fun q => q.2), ce_g9.map (fun q => q.2), ce_x9.map (fun q => q.2), ce_i9, ce_m9.map (fun q => q.2), ce_c9.map (fun q => q.2), ce_d9.map (fun q => q.2), ce_o9.map (fun q => q.2))
theorem ce_ok9 : ck_Eok cm_ms ce_9 := ⟨ck_vf_ok (by decide +kernel), ck_vk_ok (by decide +kernel), ck_vj_ok (by decide +kernel), ck_vn_ok (by decide +kernel), ck_va_ok (by decide +kernel), ck_vg_ok (by decide +kernel), ck_vx_ok (by decide +kernel), ck_vi_ok (by decide +kernel), ck_vm_ok (by decide +kernel), ck_vc_ok (by decide +kernel), ck_v2_ok (by decide +kernel), ck_vo_ok (by decide +kernel)⟩
def ce_f10 : List (Nat × Nat × Nat × Nat) := [(329, 11, 10, 0)]
def ce_k10 : List (Nat × Nat × Int) := []
def ce_j10 : List (Nat × Nat × Int) := []
def ce_n10 : List (Nat × Nat × Nat) := []
def ce_a10 : List ((Nat × Nat) × Nat × Nat) := []
def ce_g10 : List (Nat × Nat × Nat) := []
def ce_x10 : List (Nat × Nat × Nat) := []
def ce_i10 : List (Nat × Nat) := []
def ce_m10 : List ((Nat × String) × Nat × Nat) := []
def ce_c10 : List (Nat × Nat) := []
def ce_d10 : List (Nat × Nat) := []
def ce_o10 : List (Nat × Nat) := [(328, 3)]
def ce_10 : ck_E := ("RatchetDesk$Letter", ce_f10.map (fun q => q.2), ce_k10.map (fun q => q.2), ce_j10.map (fun q => q.2), ce_n10.map (fun q => q.2), ce_a10.map (fun q => q.2), ce_g10.map (fun q => q.2), ce_x10.map (fun q => q.2), ce_i10, ce_m10.map (fun q => q.2), ce_c10.map (fun q => q.2), ce_d10.map (fun q => q.2), ce_o10.map (fun q => q.2))
theorem ce_ok10 : ck_Eok cm_ms ce_10 := ⟨ck_vf_ok (by decide +kernel), ck_vk_ok (by decide +kernel), ck_vj_ok (by decide +kernel), ck_vn_ok (by decide +kernel), ck_va_ok (by decide +kernel), ck_vg_ok (by decide +kernel), ck_vx_ok (by decide +kernel), ck_vi_ok (by decide +kernel), ck_vm_ok (by decide +kernel), ck_vc_ok (by decide +kernel), ck_v2_ok (by decide +kernel), ck_vo_ok (by decide +kernel)⟩
def ce_f11 : List (Nat × Nat × Nat × Nat) := [(385, 11, 0, 1), (386, 16, 0, 2), (387, 22, 0, 3), (388, 28, 0, 4), (389, 35, 0, 5), (390, 42, 0, 6), (391, 47, 0, 7), (384, 51, 0, 0), (166, 72, 2, 1), (163, 82, 2, 0), (312, 109, 9, 4), (309, 115, 9, 2), (392, 137, 0, 8), (307, 153, 9, 1), (252, 160, 6, 5), (264, 172, 6, 12), (393, 179, 0, 9), (335, 186, 10, 1), (332, 195, 10, 0), (250, 212, 6, 4), (266, 227, 6, 13), (244, 231, 6, 1), (242, 234, 6, 0), (254, 237, 6, 6), (208, 241, 7, 1), (256, 246, 6, 7), (258, 249, 6, 8), (260, 252, 6, 9), (231, 256, 8, 3), (248, 263, 6, 3), (205, 266, 7, 0), (211, 269, 7, 2), (305, 282, 9, 0), (394, 285, 0, 10), (246, 292, 6, 2), (44, 304, 1, 0)]
def ce_k11 : List (Nat × Nat × Int) := []
def ce_j11 : List (Nat × Nat × Int) := []
def ce_n11 : List (Nat × Nat × Nat) := [(30, 14, 9), (32, 20, 6), (34, 26, 10), (36, 32, 1), (55, 39, 2)]
def ce_a11 : List ((Nat × Nat) × Nat × Nat) := [((30, 31), 14, 4), ((32, 33), 20, 5), ((34, 35), 26, 6), ((36, 303), 32, 3)]
def ce_g11 : List (Nat × Nat × Nat) := []
def ce_x11 : List (Nat × Nat × Nat) := [(662, 130, 2), (440, 272, 0), (623, 277, 1)]
def ce_i11 : List (Nat × Nat) := [(134, 2), (276, 0), (281, 1)]
def ce_m11 : List ((Nat × String) × Nat × Nat) := [((38, "RatchetDesk"), 34, 1), ((57, "RatchetDesk"), 41, 5), ((192, "RatchetDesk"), 46, 8), ((297, ""), 55, 9), ((325, "RatchetDesk"), 56, 10), ((341, ""), 57, 19), ((437, ""), 60, 23), ((508, ""), 64, 152), ((518, ""), 68, 147), ((528, ""), 76, 82), ((579, ""), 86, 87), ((592, ""), 92, 89), ((596, ""), 96, 91), ((609, ""), 99, 11), ((610, ""), 102, 12), ((611, ""), 106, 16), ((620, ""), 112, 67), ((345, ""), 119, 18), ((639, ""), 123, 134), ((650, ""), 127, 130), ((678, ""), 140, 68), ((682, ""), 143, 70), ((690, ""), 146, 84), ((699, ""), 149, 94), ((694, ""), 156, 83), ((725, ""), 164, 85), ((726, ""), 168, 95), ((731, ""), 176, 97), ((349, ""), 288, 17), ((703, ""), 301, 88), ((709, ""), 305, 90), ((715, ""), 308, 93), ((735, ""), 317, 96)]
def ce_c11 : List (Nat × Nat) := [(586, 295)]
def ce_d11 : List (Nat × Nat) := [(28, 9)]
def ce_o11 : List (Nat × Nat) := [(25, 1)]
def ce_11 : ck_E := ("RatchetDesk", ce_f11.map (fun q => q.2), ce_k11.map (fun q => q.2), ce_j11.map (fun q => q.2), ce_n11.map (fun q => q.2), ce_a11.map (fun q => q.2), ce_g11.map (fun q => q.2), ce_x11.map (fun q => q.2), ce_i11, ce_m11.map (fun q => q.2), ce_c11.map (fun q => q.2), ce_d11.map (fun q => q.2), ce_o11.map (fun q => q.2))
theorem ce_ok11 : ck_Eok cm_ms ce_11 := ⟨ck_vf_ok (by decide +kernel), ck_vk_ok (by decide +kernel), ck_vj_ok (by decide +kernel), ck_vn_ok (by decide +kernel), ck_va_ok (by decide +kernel), ck_vg_ok (by decide +kernel), ck_vx_ok (by decide +kernel), ck_vi_ok (by decide +kernel), ck_vm_ok (by decide +kernel), ck_vc_ok (by decide +kernel), ck_v2_ok (by decide +kernel), ck_vo_ok (by decide +kernel)⟩
def ce_f12 : List (Nat × Nat × Nat × Nat) := [(1041, 7, 11, 2), (1042, 13, 11, 3), (1043, 16, 11, 4), (1045, 19, 11, 6), (1046, 22, 11, 7), (1047, 25, 11, 8), (1048, 28, 11, 9), (1049, 31, 11, 10), (1050, 35, 11, 11), (1051, 38, 11, 12), (1052, 42, 11, 13), (1053, 46, 11, 14), (1054, 49, 11, 15), (1055, 52, 11, 16), (1056, 55, 11, 17), (1058, 58, 11, 19), (1059, 61, 11, 20), (1060, 64, 11, 21), (1061, 67, 11, 22), (1062, 70, 11, 23), (1063, 73, 11, 24), (1064, 76, 11, 25), (1065, 79, 11, 26), (1066, 82, 11, 27), (1067, 85, 11, 28), (1068, 88, 11, 29), (1069, 91, 11, 30), (1070, 94, 11, 31), (1071, 97, 11, 32), (1072, 100, 11, 33), (1074, 103, 11, 35), (1075, 106, 11, 36), (1040, 109, 11, 1), (1039, 188, 11, 0), (1044, 199, 11, 5), (1057, 304, 11, 18), (1073, 326, 11, 34)]
def ce_k12 : List (Nat × Nat × Int) := [(963, 112, 1116352408), (964, 113, 1899447441), (965, 114, -1245643825), (966, 115, -373957723), (971, 120, 961987163), (972, 121, 1508970993), (973, 122, -1841331548), (974, 123, -1424204075), (975, 124, -670586216), (976, 125, 310598401), (977, 126, 607225278), (978, 127, 1426881987), (979, 128, 1925078388), (980, 129, -2132889090), (981, 130, -1680079193), (982, 131, -1046744716), (983, 132, -459576895), (984, 133, -272742522), (985, 134, 264347078), (986, 135, 604807628), (987, 136, 770255983), (988, 137, 1249150122), (989, 138, 1555081692), (990, 139, 1996064986), (991, 140, -1740746414), (992, 141, -1473132947), (993, 142, -1341970488), (994, 143, -1084653625), (995, 144, -958395405), (996, 145, -710438585), (997, 146, 113926993), (998, 147, 338241895), (999, 148, 666307205), (1000, 149, 773529912), (1001, 150, 1294757372), (1002, 151, 1396182291), (1003, 152, 1695183700), (1004, 153, 1986661051), (1005, 154, -2117940946), (1006, 155, -1838011259), (1007, 156, -1564481375), (1008, 157, -1474664885), (1009, 158, -1035236496), (1010, 159, -949202525), (1011, 160, -778901479), (1012, 161, -694614492), (1013, 162, -200395387), (1014, 163, 275423344), (1015, 164, 430227734), (1016, 165, 506948616), (1017, 166, 659060556), (1018, 167, 883997877), (1019, 168, 958139571), (1020, 169, 1322822218), (1021, 170, 1537002063), (1022, 171, 1747873779), (1023, 172, 1955562222), (1024, 173, 2024104815), (1025, 174, -2067236844), (1026, 175, -1933114872), (1027, 176, -1866530822), (1028, 177, -1538233109), (1029, 178, -1090935817), (1030, 179, -965641998), (1031, 180, 1779033703), (1032, 181, -1150833019), (1033, 182, 1013904242), (1034, 183, -1521486534), (1035, 184, 1359893119), (1036, 185, -1694144372), (1037, 186, 528734635), (1038, 187, 1541459225)]
def ce_j12 : List (Nat × Nat × Int) := [(1207, 221, 38), (1187, 226, 256), (1222, 228, 65517), (1223, 230, 32767), (1224, 232, 65535), (1225, 234, 65536), (1208, 257, -1), (1213, 259, 121665)]
def ce_n12 : List (Nat × Nat × Nat) := []
def ce_a12 : List ((Nat × Nat) × Nat × Nat) := []
def ce_g12 : List (Nat × Nat × Nat) := []
def ce_x12 : List (Nat × Nat × Nat) := []
def ce_i12 : List (Nat × Nat) := []
def ce_m12 : List ((Nat × String) × Nat × Nat) := [((967, ""), 116, 21), ((1262, ""), 191, 100), ((1258, ""), 195, 101), ((1242, ""), 202, 118), ((1250, ""), 205, 120), ((1254, ""), 209, 102), ((1246, ""), 212, 121), ((1234, ""), 215, 117), ((1238, ""), 218, 119), ((1203, ""), 223, 108), ((1209, ""), 236, 110), ((1183, ""), 240, 104), ((1188, ""), 243, 105), ((1192, ""), 247, 106), ((1195, ""), 250, 107), ((1199, ""), 253, 109), ((1214, ""), 261, 111), ((1218, ""), 264, 112), ((1296, ""), 267, 103), ((1179, ""), 270, 113), ((1292, ""), 273, 114), ((1160, ""), 276, 26), ((1163, ""), 280, 27), ((1171, ""), 284, 148), ((1226, ""), 288, 123), ((1285, ""), 291, 98), ((1308, ""), 295, 122), ((1300, ""), 298, 116), ((1316, ""), 301, 125), ((1281, ""), 307, 99), ((1288, ""), 311, 115), ((1304, ""), 314, 124), ((1312, ""), 317, 126)]
def ce_c12 : List (Nat × Nat) := []
def ce_d12 : List (Nat × Nat) := []
def ce_o12 : List (Nat × Nat) := [(962, 1)]
def ce_12 : ck_E := ("RatchetDeskModel", ce_f12.map (fun q => q.2), ce_k12.map (fun q => q.2), ce_j12.map (fun q => q.2), ce_n12.map (fun q => q.2), ce_a12.map (fun q => q.2), ce_g12.map (fun q => q.2), ce_x12.map (fun q => q.2), ce_i12, ce_m12.map (fun q => q.2), ce_c12.map (fun q => q.2), ce_d12.map (fun q => q.2), ce_o12.map (fun q => q.2))
theorem ce_ok12 : ck_Eok cm_ms ce_12 := ⟨ck_vf_ok (by decide +kernel), ck_vk_ok (by decide +kernel), ck_vj_ok (by decide +kernel), ck_vn_ok (by decide +kernel), ck_va_ok (by decide +kernel), ck_vg_ok (by decide +kernel), ck_vx_ok (by decide +kernel), ck_vi_ok (by decide +kernel), ck_vm_ok (by decide +kernel), ck_vc_ok (by decide +kernel), ck_v2_ok (by decide +kernel), ck_vo_ok (by decide +kernel)⟩
theorem ce_glob : ck_Glob := by
  refine ⟨fun x hx => ?_, fun ac t h => ?_, ck_tabi 29 (by decide +kernel) rfl, ck_tabi 373 (by decide +kernel) rfl, ck_tabi 372 (by decide +kernel) rfl, ck_tabi 12 (by decide +kernel) rfl, ck_tabi 26 (by decide +kernel) rfl, ck_tabi 27 (by decide +kernel) rfl⟩
  · match x, hx with
    | 0, _ => exact ⟨by decide +kernel, ck_tabi 17 (by decide +kernel) rfl, ck_tabi 441 (by decide +kernel) rfl, ck_tabi 442 (by decide +kernel) rfl⟩
    | 1, _ => exact ⟨by decide +kernel, ck_tabi 18 (by decide +kernel) rfl, ck_tabi 624 (by decide +kernel) rfl, ck_tabi 625 (by decide +kernel) rfl⟩
    | 2, _ => exact ⟨by decide +kernel, ck_tabi 19 (by decide +kernel) rfl, ck_tabi 663 (by decide +kernel) rfl, ck_tabi 664 (by decide +kernel) rfl⟩
  · match ac, h with
    | 0, h => cases h; exact ck_tabi 54 (by decide +kernel) rfl
    | 1, h => cases h; exact ck_tabi 141 (by decide +kernel) rfl
    | 2, h => cases h; exact ck_tabi 1151 (by decide +kernel) rfl
end
section
/-! ===== code, read ===== -/
theorem ck_cd_ok {cc : ByteArray} {cod : List (List (Nat × Instr × Nat))} (h : ∀ ch ∈ cod, ch.all (fun q => decide (decode cc q.1 = .ok q.2)) = true) : ∀ pc i n, ck_cdAt cod pc = some (i, n) → decode cc pc = .ok (i, n) := by
  intro pc i n hi
  unfold ck_cdAt at hi
  split at hi
  · rename_i ch hch
    have := List.all_eq_true.mp (h ch (List.mem_of_getElem? hch)) _ (ck_lk_mem hi)
    exact of_decide_eq_true this
  · cases hi
end
section
/-! ===== code, read ===== -/
def kco_0_0 : List (Nat × Instr × Nat) := [(0, .iload_n 1, 1), (1, .aload_n 0, 1), (2, .arraylength, 1), (3, .if_icmp .ge (9), 3), (6, .aload_n 0, 1), (7, .iload_n 1, 1), (8, .iaload, 1), (9, .goto (4), 3), (12, .iconst (0), 1), (13, .ireturn, 1)]
theorem kco_0_t0 : kco_0_0.all (fun q => decide (decode method_2_code q.1 = .ok q.2)) = true := by decide +kernel
def kco_0 : List (List (Nat × Instr × Nat)) := [kco_0_0]
theorem kco_0_ok : ∀ pc i n, ck_cdAt kco_0 pc = some (i, n) → decode method_2_code pc = .ok (i, n) := ck_cd_ok (List.forall_mem_cons.mpr ⟨kco_0_t0, (fun _ h => by cases h)⟩)
def kco_1_0 : List (Nat × Instr × Nat) := [(0, .aload_n 0, 1), (1, .invokespecial 3, 3), (4, .aload_n 0, 1), (5, .bipush (32), 2), (7, .newarray .int, 2), (9, .putfield 9, 3), (12, .aload_n 0, 1), (13, .bipush (32), 2), (15, .newarray .int, 2), (17, .putfield 15, 3), (20, .return_, 1)]
theorem kco_1_t0 : kco_1_0.all (fun q => decide (decode prog_10_method_1_code q.1 = .ok q.2)) = true := by decide +kernel
def kco_1 : List (List (Nat × Instr × Nat)) := [kco_1_0]
theorem kco_1_ok : ∀ pc i n, ck_cdAt kco_1 pc = some (i, n) → decode prog_10_method_1_code pc = .ok (i, n) := ck_cd_ok (List.forall_mem_cons.mpr ⟨kco_1_t0, (fun _ h => by cases h)⟩)
def kco_2_0 : List (Nat × Instr × Nat) := [(0, .aload_n 0, 1), (1, .invokespecial 3, 3), (4, .aload_n 0, 1), (5, .bipush (32), 2), (7, .newarray .int, 2), (9, .putfield 9, 3), (12, .aload_n 0, 1), (13, .sipush (256), 3), (16, .newarray .int, 2), (18, .putfield 15, 3), (21, .aload_n 0, 1), (22, .bipush (64), 2), (24, .newarray .int, 2), (26, .putfield 18, 3), (29, .aload_n 0, 1), (30, .bipush (8), 2)]
theorem kco_2_t0 : kco_2_0.all (fun q => decide (decode prog_5_method_1_code q.1 = .ok q.2)) = true := by decide +kernel
def kco_2_1 : List (Nat × Instr × Nat) := [(32, .newarray .int, 2), (34, .putfield 21, 3), (37, .aload_n 0, 1), (38, .bipush (32), 2), (40, .newarray .int, 2), (42, .putfield 24, 3), (45, .aload_n 0, 1), (46, .bipush (32), 2), (48, .newarray .int, 2), (50, .putfield 27, 3), (53, .aload_n 0, 1), (54, .bipush (32), 2), (56, .newarray .int, 2), (58, .putfield 30, 3), (61, .return_, 1)]
theorem kco_2_t1 : kco_2_1.all (fun q => decide (decode prog_5_method_1_code q.1 = .ok q.2)) = true := by decide +kernel
def kco_2 : List (List (Nat × Instr × Nat)) := [kco_2_0, kco_2_1]
theorem kco_2_ok : ∀ pc i n, ck_cdAt kco_2 pc = some (i, n) → decode prog_5_method_1_code pc = .ok (i, n) := ck_cd_ok (List.forall_mem_cons.mpr ⟨kco_2_t0, (List.forall_mem_cons.mpr ⟨kco_2_t1, (fun _ h => by cases h)⟩)⟩)
def kco_3_0 : List (Nat × Instr × Nat) := [(0, .aload_n 0, 1), (1, .invokespecial 3, 3), (4, .aload_n 0, 1), (5, .bipush (32), 2), (7, .newarray .int, 2), (9, .putfield 9, 3), (12, .aload_n 0, 1), (13, .bipush (10), 2), (15, .newarray .long, 2), (17, .putfield 15, 3), (20, .aload_n 0, 1), (21, .bipush (10), 2), (23, .newarray .long, 2), (25, .putfield 19, 3), (28, .aload_n 0, 1), (29, .bipush (10), 2), (31, .newarray .long, 2)]
theorem kco_3_t0 : kco_3_0.all (fun q => decide (decode prog_3_method_1_code q.1 = .ok q.2)) = true := by decide +kernel
def kco_3_1 : List (Nat × Instr × Nat) := [(33, .putfield 22, 3), (36, .aload_n 0, 1), (37, .bipush (10), 2), (39, .newarray .long, 2), (41, .putfield 25, 3), (44, .aload_n 0, 1), (45, .bipush (10), 2), (47, .newarray .long, 2), (49, .putfield 28, 3), (52, .aload_n 0, 1), (53, .bipush (10), 2), (55, .newarray .long, 2), (57, .putfield 31, 3), (60, .aload_n 0, 1), (61, .bipush (10), 2), (63, .newarray .long, 2)]
theorem kco_3_t1 : kco_3_1.all (fun q => decide (decode prog_3_method_1_code q.1 = .ok q.2)) = true := by decide +kernel
def kco_3_2 : List (Nat × Instr × Nat) := [(65, .putfield 34, 3), (68, .aload_n 0, 1), (69, .bipush (10), 2), (71, .newarray .long, 2), (73, .putfield 37, 3), (76, .aload_n 0, 1), (77, .bipush (10), 2), (79, .newarray .long, 2), (81, .putfield 40, 3), (84, .aload_n 0, 1), (85, .bipush (10), 2), (87, .newarray .long, 2), (89, .putfield 43, 3), (92, .aload_n 0, 1), (93, .bipush (10), 2), (95, .newarray .long, 2)]
theorem kco_3_t2 : kco_3_2.all (fun q => decide (decode prog_3_method_1_code q.1 = .ok q.2)) = true := by decide +kernel
def kco_3_3 : List (Nat × Instr × Nat) := [(97, .putfield 46, 3), (100, .aload_n 0, 1), (101, .bipush (10), 2), (103, .newarray .long, 2), (105, .putfield 49, 3), (108, .aload_n 0, 1), (109, .getfield 9, 3), (112, .iconst (0), 1), (113, .bipush (9), 2), (115, .iastore, 1), (116, .return_, 1)]
theorem kco_3_t3 : kco_3_3.all (fun q => decide (decode prog_3_method_1_code q.1 = .ok q.2)) = true := by decide +kernel
def kco_3 : List (List (Nat × Instr × Nat)) := [kco_3_0, kco_3_1, kco_3_2, kco_3_3]
theorem kco_3_ok : ∀ pc i n, ck_cdAt kco_3 pc = some (i, n) → decode prog_3_method_1_code pc = .ok (i, n) := ck_cd_ok (List.forall_mem_cons.mpr ⟨kco_3_t0, (List.forall_mem_cons.mpr ⟨kco_3_t1, (List.forall_mem_cons.mpr ⟨kco_3_t2, (List.forall_mem_cons.mpr ⟨kco_3_t3, (fun _ h => by cases h)⟩)⟩)⟩)⟩)
def kco_4_0 : List (Nat × Instr × Nat) := [(0, .aload_n 0, 1), (1, .invokespecial 3, 3), (4, .aload_n 0, 1), (5, .bipush (32), 2), (7, .newarray .int, 2), (9, .putfield 9, 3), (12, .aload_n 0, 1), (13, .bipush (32), 2), (15, .newarray .int, 2), (17, .putfield 15, 3), (20, .aload_n 0, 1), (21, .bipush (32), 2), (23, .newarray .int, 2), (25, .putfield 18, 3), (28, .aload_n 0, 1), (29, .bipush (32), 2), (31, .newarray .int, 2)]
theorem kco_4_t0 : kco_4_0.all (fun q => decide (decode prog_9_method_1_code q.1 = .ok q.2)) = true := by decide +kernel
def kco_4_1 : List (Nat × Instr × Nat) := [(33, .putfield 21, 3), (36, .return_, 1)]
theorem kco_4_t1 : kco_4_1.all (fun q => decide (decode prog_9_method_1_code q.1 = .ok q.2)) = true := by decide +kernel
def kco_4 : List (List (Nat × Instr × Nat)) := [kco_4_0, kco_4_1]
theorem kco_4_ok : ∀ pc i n, ck_cdAt kco_4 pc = some (i, n) → decode prog_9_method_1_code pc = .ok (i, n) := ck_cd_ok (List.forall_mem_cons.mpr ⟨kco_4_t0, (List.forall_mem_cons.mpr ⟨kco_4_t1, (fun _ h => by cases h)⟩)⟩)
def kco_5_0 : List (Nat × Instr × Nat) := [(0, .aload_n 0, 1), (1, .invokespecial 3, 3), (4, .aload_n 0, 1), (5, .new 9, 3), (8, .dup, 1), (9, .invokespecial 11, 3), (12, .putfield 12, 3), (15, .aload_n 0, 1), (16, .new 18, 3), (19, .dup, 1), (20, .invokespecial 20, 3), (23, .putfield 21, 3), (26, .aload_n 0, 1), (27, .new 25, 3), (30, .dup, 1), (31, .invokespecial 27, 3)]
theorem kco_5_t0 : kco_5_0.all (fun q => decide (decode prog_11_method_1_code q.1 = .ok q.2)) = true := by decide +kernel
def kco_5_1 : List (Nat × Instr × Nat) := [(34, .putfield 28, 3), (37, .aload_n 0, 1), (38, .bipush (32), 2), (40, .newarray .int, 2), (42, .putfield 32, 3), (45, .aload_n 0, 1), (46, .bipush (32), 2), (48, .newarray .int, 2), (50, .putfield 36, 3), (53, .aload_n 0, 1), (54, .bipush (32), 2), (56, .newarray .int, 2), (58, .putfield 39, 3), (61, .aload_n 0, 1), (62, .bipush (32), 2)]
theorem kco_5_t1 : kco_5_1.all (fun q => decide (decode prog_11_method_1_code q.1 = .ok q.2)) = true := by decide +kernel
def kco_5_2 : List (Nat × Instr × Nat) := [(64, .newarray .int, 2), (66, .putfield 42, 3), (69, .return_, 1)]
theorem kco_5_t2 : kco_5_2.all (fun q => decide (decode prog_11_method_1_code q.1 = .ok q.2)) = true := by decide +kernel
def kco_5 : List (List (Nat × Instr × Nat)) := [kco_5_0, kco_5_1, kco_5_2]
theorem kco_5_ok : ∀ pc i n, ck_cdAt kco_5 pc = some (i, n) → decode prog_11_method_1_code pc = .ok (i, n) := ck_cd_ok (List.forall_mem_cons.mpr ⟨kco_5_t0, (List.forall_mem_cons.mpr ⟨kco_5_t1, (List.forall_mem_cons.mpr ⟨kco_5_t2, (fun _ h => by cases h)⟩)⟩)⟩)
def kco_6_0 : List (Nat × Instr × Nat) := [(0, .aload_n 0, 1), (1, .invokespecial 3, 3), (4, .aload_n 0, 1), (5, .bipush (32), 2), (7, .newarray .int, 2), (9, .putfield 9, 3), (12, .return_, 1)]
theorem kco_6_t0 : kco_6_0.all (fun q => decide (decode prog_2_method_1_code q.1 = .ok q.2)) = true := by decide +kernel
def kco_6 : List (List (Nat × Instr × Nat)) := [kco_6_0]
theorem kco_6_ok : ∀ pc i n, ck_cdAt kco_6 pc = some (i, n) → decode prog_2_method_1_code pc = .ok (i, n) := ck_cd_ok (List.forall_mem_cons.mpr ⟨kco_6_t0, (fun _ h => by cases h)⟩)
def kco_7_0 : List (Nat × Instr × Nat) := [(0, .aload_n 0, 1), (1, .invokespecial 3, 3), (4, .aload_n 0, 1), (5, .bipush (6), 2), (7, .bipush (32), 2), (9, .multianewarray 9 2, 4), (13, .putfield 11, 3), (16, .aload_n 0, 1), (17, .bipush (6), 2), (19, .bipush (32), 2), (21, .multianewarray 9 2, 4), (25, .putfield 16, 3), (28, .aload_n 0, 1), (29, .bipush (6), 2), (31, .newarray .int, 2)]
theorem kco_7_t0 : kco_7_0.all (fun q => decide (decode prog_6_method_1_code q.1 = .ok q.2)) = true := by decide +kernel
def kco_7_1 : List (Nat × Instr × Nat) := [(33, .putfield 19, 3), (36, .return_, 1)]
theorem kco_7_t1 : kco_7_1.all (fun q => decide (decode prog_6_method_1_code q.1 = .ok q.2)) = true := by decide +kernel
def kco_7 : List (List (Nat × Instr × Nat)) := [kco_7_0, kco_7_1]
theorem kco_7_ok : ∀ pc i n, ck_cdAt kco_7 pc = some (i, n) → decode prog_6_method_1_code pc = .ok (i, n) := ck_cd_ok (List.forall_mem_cons.mpr ⟨kco_7_t0, (List.forall_mem_cons.mpr ⟨kco_7_t1, (fun _ h => by cases h)⟩)⟩)
def kco_8_0 : List (Nat × Instr × Nat) := [(0, .aload_n 0, 1), (1, .invokespecial 3, 3), (4, .aload_n 0, 1), (5, .bipush (64), 2), (7, .newarray .int, 2), (9, .putfield 9, 3), (12, .aload_n 0, 1), (13, .bipush (32), 2), (15, .newarray .int, 2), (17, .putfield 15, 3), (20, .aload_n 0, 1), (21, .new 18, 3), (24, .dup, 1), (25, .invokespecial 20, 3), (28, .putfield 21, 3), (31, .aload_n 0, 1)]
theorem kco_8_t0 : kco_8_0.all (fun q => decide (decode prog_4_method_1_code q.1 = .ok q.2)) = true := by decide +kernel
def kco_8_1 : List (Nat × Instr × Nat) := [(32, .bipush (32), 2), (34, .newarray .int, 2), (36, .putfield 25, 3), (39, .aload_n 0, 1), (40, .new 28, 3), (43, .dup, 1), (44, .invokespecial 30, 3), (47, .putfield 31, 3), (50, .aload_n 0, 1), (51, .new 28, 3), (54, .dup, 1), (55, .invokespecial 30, 3), (58, .putfield 35, 3), (61, .aload_n 0, 1), (62, .new 38, 3)]
theorem kco_8_t1 : kco_8_1.all (fun q => decide (decode prog_4_method_1_code q.1 = .ok q.2)) = true := by decide +kernel
def kco_8_2 : List (Nat × Instr × Nat) := [(65, .dup, 1), (66, .invokespecial 40, 3), (69, .putfield 41, 3), (72, .aload_n 0, 1), (73, .bipush (34), 2), (75, .newarray .int, 2), (77, .putfield 47, 3), (80, .return_, 1)]
theorem kco_8_t2 : kco_8_2.all (fun q => decide (decode prog_4_method_1_code q.1 = .ok q.2)) = true := by decide +kernel
def kco_8 : List (List (Nat × Instr × Nat)) := [kco_8_0, kco_8_1, kco_8_2]
theorem kco_8_ok : ∀ pc i n, ck_cdAt kco_8 pc = some (i, n) → decode prog_4_method_1_code pc = .ok (i, n) := ck_cd_ok (List.forall_mem_cons.mpr ⟨kco_8_t0, (List.forall_mem_cons.mpr ⟨kco_8_t1, (List.forall_mem_cons.mpr ⟨kco_8_t2, (fun _ h => by cases h)⟩)⟩)⟩)
def kco_9_0 : List (Nat × Instr × Nat) := [(0, .aload_n 0, 1), (1, .invokespecial 3, 3), (4, .aload_n 0, 1), (5, .new 9, 3), (8, .dup, 1), (9, .invokespecial 11, 3), (12, .putfield 12, 3), (15, .aload_n 0, 1), (16, .new 9, 3), (19, .dup, 1), (20, .invokespecial 11, 3), (23, .putfield 18, 3), (26, .aload_n 0, 1), (27, .bipush (8), 2), (29, .anewarray 9, 3)]
theorem kco_9_t0 : kco_9_0.all (fun q => decide (decode prog_8_method_1_code q.1 = .ok q.2)) = true := by decide +kernel
def kco_9_1 : List (Nat × Instr × Nat) := [(32, .putfield 21, 3), (35, .aload_n 0, 1), (36, .bipush (8), 2), (38, .newarray .int, 2), (40, .putfield 25, 3), (43, .iconst (0), 1), (44, .istore_n 1, 1), (45, .iload_n 1, 1), (46, .bipush (8), 2), (48, .if_icmp .ge (22), 3), (51, .aload_n 0, 1), (52, .getfield 21, 3), (55, .iload_n 1, 1), (56, .new 9, 3), (59, .dup, 1), (60, .invokespecial 11, 3), (63, .aastore, 1)]
theorem kco_9_t1 : kco_9_1.all (fun q => decide (decode prog_8_method_1_code q.1 = .ok q.2)) = true := by decide +kernel
def kco_9_2 : List (Nat × Instr × Nat) := [(64, .iinc 1 (1), 3), (67, .goto (-22), 3), (70, .return_, 1)]
theorem kco_9_t2 : kco_9_2.all (fun q => decide (decode prog_8_method_1_code q.1 = .ok q.2)) = true := by decide +kernel
def kco_9 : List (List (Nat × Instr × Nat)) := [kco_9_0, kco_9_1, kco_9_2]
theorem kco_9_ok : ∀ pc i n, ck_cdAt kco_9 pc = some (i, n) → decode prog_8_method_1_code pc = .ok (i, n) := ck_cd_ok (List.forall_mem_cons.mpr ⟨kco_9_t0, (List.forall_mem_cons.mpr ⟨kco_9_t1, (List.forall_mem_cons.mpr ⟨kco_9_t2, (fun _ h => by cases h)⟩)⟩)⟩)
def kco_10_0 : List (Nat × Instr × Nat) := [(0, .aload_n 0, 1), (1, .invokespecial 3, 3), (4, .aload_n 0, 1), (5, .bipush (84), 2), (7, .newarray .int, 2), (9, .putfield 11, 3), (12, .return_, 1)]
theorem kco_10_t0 : kco_10_0.all (fun q => decide (decode prog_7_method_1_code q.1 = .ok q.2)) = true := by decide +kernel
def kco_10 : List (List (Nat × Instr × Nat)) := [kco_10_0]
theorem kco_10_ok : ∀ pc i n, ck_cdAt kco_10 pc = some (i, n) → decode prog_7_method_1_code pc = .ok (i, n) := ck_cd_ok (List.forall_mem_cons.mpr ⟨kco_10_t0, (fun _ h => by cases h)⟩)
def kco_11_0 : List (Nat × Instr × Nat) := [(0, .aload_n 0, 1), (1, .iconst (0), 1), (2, .putfield 33, 3), (5, .return_, 1)]
theorem kco_11_t0 : kco_11_0.all (fun q => decide (decode prog_5_method_2_code q.1 = .ok q.2)) = true := by decide +kernel
def kco_11 : List (List (Nat × Instr × Nat)) := [kco_11_0]
theorem kco_11_ok : ∀ pc i n, ck_cdAt kco_11 pc = some (i, n) → decode prog_5_method_2_code pc = .ok (i, n) := ck_cd_ok (List.forall_mem_cons.mpr ⟨kco_11_t0, (fun _ h => by cases h)⟩)
def kco_12_0 : List (Nat × Instr × Nat) := [(0, .aload_n 0, 1), (1, .getfield 33, 3), (4, .sipush (256), 3), (7, .if_icmp .ge (23), 3), (10, .aload_n 0, 1), (11, .getfield 15, 3), (14, .aload_n 0, 1), (15, .getfield 33, 3), (18, .iload_n 1, 1), (19, .iastore, 1), (20, .aload_n 0, 1), (21, .dup, 1), (22, .getfield 33, 3), (25, .iconst (1), 1), (26, .iadd, 1), (27, .putfield 33, 3), (30, .return_, 1)]
theorem kco_12_t0 : kco_12_0.all (fun q => decide (decode prog_5_method_3_code q.1 = .ok q.2)) = true := by decide +kernel
def kco_12 : List (List (Nat × Instr × Nat)) := [kco_12_0]
theorem kco_12_ok : ∀ pc i n, ck_cdAt kco_12 pc = some (i, n) → decode prog_5_method_3_code pc = .ok (i, n) := ck_cd_ok (List.forall_mem_cons.mpr ⟨kco_12_t0, (fun _ h => by cases h)⟩)
def kco_13_0 : List (Nat × Instr × Nat) := [(0, .iconst (0), 1), (1, .istore_n 2, 1), (2, .iload_n 2, 1), (3, .bipush (32), 2), (5, .if_icmp .ge (20), 3), (8, .aload_n 0, 1), (9, .iload_n 1, 1), (10, .iload_n 2, 1), (11, .iushr, 1), (12, .sipush (255), 3), (15, .iand, 1), (16, .invokevirtual 37, 3), (19, .iinc 2 (8), 3), (22, .goto (-20), 3), (25, .return_, 1)]
theorem kco_13_t0 : kco_13_0.all (fun q => decide (decode prog_5_method_5_code q.1 = .ok q.2)) = true := by decide +kernel
def kco_13 : List (List (Nat × Instr × Nat)) := [kco_13_0]
theorem kco_13_ok : ∀ pc i n, ck_cdAt kco_13 pc = some (i, n) → decode prog_5_method_5_code pc = .ok (i, n) := ck_cd_ok (List.forall_mem_cons.mpr ⟨kco_13_t0, (fun _ h => by cases h)⟩)
def kco_14_0 : List (Nat × Instr × Nat) := [(0, .iconst (0), 1), (1, .istore_n 2, 1), (2, .iload_n 2, 1), (3, .bipush (16), 2), (5, .if_icmp .ge (63), 3), (8, .iload_n 1, 1), (9, .iconst (4), 1), (10, .iload_n 2, 1), (11, .imul, 1), (12, .iadd, 1), (13, .istore_n 3, 1), (14, .aload_n 0, 1), (15, .getfield 18, 3), (18, .iload_n 2, 1), (19, .aload_n 0, 1), (20, .getfield 15, 3), (23, .iload_n 3, 1), (24, .iaload, 1), (25, .bipush (24), 2), (27, .ishl, 1), (28, .aload_n 0, 1), (29, .getfield 15, 3)]
theorem kco_14_t0 : kco_14_0.all (fun q => decide (decode prog_5_method_11_code q.1 = .ok q.2)) = true := by decide +kernel
def kco_14_1 : List (Nat × Instr × Nat) := [(32, .iload_n 3, 1), (33, .iconst (1), 1), (34, .iadd, 1), (35, .iaload, 1), (36, .bipush (16), 2), (38, .ishl, 1), (39, .ior, 1), (40, .aload_n 0, 1), (41, .getfield 15, 3), (44, .iload_n 3, 1), (45, .iconst (2), 1), (46, .iadd, 1), (47, .iaload, 1), (48, .bipush (8), 2), (50, .ishl, 1), (51, .ior, 1), (52, .aload_n 0, 1), (53, .getfield 15, 3), (56, .iload_n 3, 1), (57, .iconst (3), 1), (58, .iadd, 1), (59, .iaload, 1), (60, .ior, 1), (61, .iastore, 1), (62, .iinc 2 (1), 3)]
theorem kco_14_t1 : kco_14_1.all (fun q => decide (decode prog_5_method_11_code q.1 = .ok q.2)) = true := by decide +kernel
def kco_14_2 : List (Nat × Instr × Nat) := [(65, .goto (-63), 3), (68, .bipush (16), 2), (70, .istore_n 2, 1), (71, .iload_n 2, 1), (72, .bipush (64), 2), (74, .if_icmp .ge (116), 3), (77, .aload_n 0, 1), (78, .getfield 18, 3), (81, .iload_n 2, 1), (82, .bipush (15), 2), (84, .isub, 1), (85, .iaload, 1), (86, .istore_n 3, 1), (87, .aload_n 0, 1), (88, .getfield 18, 3), (91, .iload_n 2, 1), (92, .iconst (2), 1), (93, .isub, 1), (94, .iaload, 1), (95, .istore 4, 2)]
theorem kco_14_t2 : kco_14_2.all (fun q => decide (decode prog_5_method_11_code q.1 = .ok q.2)) = true := by decide +kernel
def kco_14_3 : List (Nat × Instr × Nat) := [(97, .iload_n 3, 1), (98, .bipush (7), 2), (100, .iushr, 1), (101, .iload_n 3, 1), (102, .bipush (25), 2), (104, .ishl, 1), (105, .ior, 1), (106, .iload_n 3, 1), (107, .bipush (18), 2), (109, .iushr, 1), (110, .iload_n 3, 1), (111, .bipush (14), 2), (113, .ishl, 1), (114, .ior, 1), (115, .ixor, 1), (116, .iload_n 3, 1), (117, .iconst (3), 1), (118, .iushr, 1), (119, .ixor, 1), (120, .istore 5, 2), (122, .iload 4, 2), (124, .bipush (17), 2), (126, .iushr, 1), (127, .iload 4, 2)]
theorem kco_14_t3 : kco_14_3.all (fun q => decide (decode prog_5_method_11_code q.1 = .ok q.2)) = true := by decide +kernel
def kco_14_4 : List (Nat × Instr × Nat) := [(129, .bipush (15), 2), (131, .ishl, 1), (132, .ior, 1), (133, .iload 4, 2), (135, .bipush (19), 2), (137, .iushr, 1), (138, .iload 4, 2), (140, .bipush (13), 2), (142, .ishl, 1), (143, .ior, 1), (144, .ixor, 1), (145, .iload 4, 2), (147, .bipush (10), 2), (149, .iushr, 1), (150, .ixor, 1), (151, .istore 6, 2), (153, .aload_n 0, 1), (154, .getfield 18, 3), (157, .iload_n 2, 1), (158, .aload_n 0, 1), (159, .getfield 18, 3)]
theorem kco_14_t4 : kco_14_4.all (fun q => decide (decode prog_5_method_11_code q.1 = .ok q.2)) = true := by decide +kernel
def kco_14_5 : List (Nat × Instr × Nat) := [(162, .iload_n 2, 1), (163, .bipush (16), 2), (165, .isub, 1), (166, .iaload, 1), (167, .iload 5, 2), (169, .iadd, 1), (170, .aload_n 0, 1), (171, .getfield 18, 3), (174, .iload_n 2, 1), (175, .bipush (7), 2), (177, .isub, 1), (178, .iaload, 1), (179, .iadd, 1), (180, .iload 6, 2), (182, .iadd, 1), (183, .iastore, 1), (184, .iinc 2 (1), 3), (187, .goto (-116), 3), (190, .return_, 1)]
theorem kco_14_t5 : kco_14_5.all (fun q => decide (decode prog_5_method_11_code q.1 = .ok q.2)) = true := by decide +kernel
def kco_14 : List (List (Nat × Instr × Nat)) := [kco_14_0, kco_14_1, kco_14_2, kco_14_3, kco_14_4, kco_14_5]
theorem kco_14_ok : ∀ pc i n, ck_cdAt kco_14 pc = some (i, n) → decode prog_5_method_11_code pc = .ok (i, n) := ck_cd_ok (List.forall_mem_cons.mpr ⟨kco_14_t0, (List.forall_mem_cons.mpr ⟨kco_14_t1, (List.forall_mem_cons.mpr ⟨kco_14_t2, (List.forall_mem_cons.mpr ⟨kco_14_t3, (List.forall_mem_cons.mpr ⟨kco_14_t4, (List.forall_mem_cons.mpr ⟨kco_14_t5, (fun _ h => by cases h)⟩)⟩)⟩)⟩)⟩)⟩)
end
section
/-! ===== code, read ===== -/
def kco_15_0 : List (Nat × Instr × Nat) := [(0, .aload_n 0, 1), (1, .getfield 21, 3), (4, .iconst (0), 1), (5, .iaload, 1), (6, .istore_n 1, 1), (7, .aload_n 0, 1), (8, .getfield 21, 3), (11, .iconst (1), 1), (12, .iaload, 1), (13, .istore_n 2, 1), (14, .aload_n 0, 1), (15, .getfield 21, 3), (18, .iconst (2), 1), (19, .iaload, 1), (20, .istore_n 3, 1), (21, .aload_n 0, 1), (22, .getfield 21, 3), (25, .iconst (3), 1), (26, .iaload, 1), (27, .istore 4, 2), (29, .aload_n 0, 1), (30, .getfield 21, 3)]
theorem kco_15_t0 : kco_15_0.all (fun q => decide (decode prog_5_method_12_code q.1 = .ok q.2)) = true := by decide +kernel
def kco_15_1 : List (Nat × Instr × Nat) := [(33, .iconst (4), 1), (34, .iaload, 1), (35, .istore 5, 2), (37, .aload_n 0, 1), (38, .getfield 21, 3), (41, .iconst (5), 1), (42, .iaload, 1), (43, .istore 6, 2), (45, .aload_n 0, 1), (46, .getfield 21, 3), (49, .bipush (6), 2), (51, .iaload, 1), (52, .istore 7, 2), (54, .aload_n 0, 1), (55, .getfield 21, 3), (58, .bipush (7), 2), (60, .iaload, 1), (61, .istore 8, 2), (63, .iconst (0), 1)]
theorem kco_15_t1 : kco_15_1.all (fun q => decide (decode prog_5_method_12_code q.1 = .ok q.2)) = true := by decide +kernel
def kco_15_2 : List (Nat × Instr × Nat) := [(64, .istore 9, 2), (66, .iload 9, 2), (68, .bipush (64), 2), (70, .if_icmp .ge (152), 3), (73, .iload 8, 2), (75, .iload 5, 2), (77, .bipush (6), 2), (79, .iushr, 1), (80, .iload 5, 2), (82, .bipush (26), 2), (84, .ishl, 1), (85, .ior, 1), (86, .iload 5, 2), (88, .bipush (11), 2), (90, .iushr, 1), (91, .iload 5, 2), (93, .bipush (21), 2), (95, .ishl, 1)]
theorem kco_15_t2 : kco_15_2.all (fun q => decide (decode prog_5_method_12_code q.1 = .ok q.2)) = true := by decide +kernel
def kco_15_3 : List (Nat × Instr × Nat) := [(96, .ior, 1), (97, .ixor, 1), (98, .iload 5, 2), (100, .bipush (25), 2), (102, .iushr, 1), (103, .iload 5, 2), (105, .bipush (7), 2), (107, .ishl, 1), (108, .ior, 1), (109, .ixor, 1), (110, .iadd, 1), (111, .iload 5, 2), (113, .iload 6, 2), (115, .iand, 1), (116, .iload 5, 2), (118, .iconst (-1), 1), (119, .ixor, 1), (120, .iload 7, 2), (122, .iand, 1), (123, .ixor, 1), (124, .iadd, 1), (125, .getstatic 80, 3)]
theorem kco_15_t3 : kco_15_3.all (fun q => decide (decode prog_5_method_12_code q.1 = .ok q.2)) = true := by decide +kernel
def kco_15_4 : List (Nat × Instr × Nat) := [(128, .iload 9, 2), (130, .iaload, 1), (131, .iadd, 1), (132, .aload_n 0, 1), (133, .getfield 18, 3), (136, .iload 9, 2), (138, .iaload, 1), (139, .iadd, 1), (140, .istore 10, 2), (142, .iload_n 1, 1), (143, .iconst (2), 1), (144, .iushr, 1), (145, .iload_n 1, 1), (146, .bipush (30), 2), (148, .ishl, 1), (149, .ior, 1), (150, .iload_n 1, 1), (151, .bipush (13), 2), (153, .iushr, 1), (154, .iload_n 1, 1), (155, .bipush (19), 2), (157, .ishl, 1), (158, .ior, 1), (159, .ixor, 1)]
theorem kco_15_t4 : kco_15_4.all (fun q => decide (decode prog_5_method_12_code q.1 = .ok q.2)) = true := by decide +kernel
def kco_15_5 : List (Nat × Instr × Nat) := [(160, .iload_n 1, 1), (161, .bipush (22), 2), (163, .iushr, 1), (164, .iload_n 1, 1), (165, .bipush (10), 2), (167, .ishl, 1), (168, .ior, 1), (169, .ixor, 1), (170, .iload_n 1, 1), (171, .iload_n 2, 1), (172, .iand, 1), (173, .iload_n 1, 1), (174, .iload_n 3, 1), (175, .iand, 1), (176, .ixor, 1), (177, .iload_n 2, 1), (178, .iload_n 3, 1), (179, .iand, 1), (180, .ixor, 1), (181, .iadd, 1), (182, .istore 11, 2), (184, .iload 7, 2), (186, .istore 8, 2), (188, .iload 6, 2), (190, .istore 7, 2)]
theorem kco_15_t5 : kco_15_5.all (fun q => decide (decode prog_5_method_12_code q.1 = .ok q.2)) = true := by decide +kernel
def kco_15_6 : List (Nat × Instr × Nat) := [(192, .iload 5, 2), (194, .istore 6, 2), (196, .iload 4, 2), (198, .iload 10, 2), (200, .iadd, 1), (201, .istore 5, 2), (203, .iload_n 3, 1), (204, .istore 4, 2), (206, .iload_n 2, 1), (207, .istore_n 3, 1), (208, .iload_n 1, 1), (209, .istore_n 2, 1), (210, .iload 10, 2), (212, .iload 11, 2), (214, .iadd, 1), (215, .istore_n 1, 1), (216, .iinc 9 (1), 3), (219, .goto (-153), 3), (222, .aload_n 0, 1), (223, .getfield 21, 3)]
theorem kco_15_t6 : kco_15_6.all (fun q => decide (decode prog_5_method_12_code q.1 = .ok q.2)) = true := by decide +kernel
def kco_15_7 : List (Nat × Instr × Nat) := [(226, .iconst (0), 1), (227, .dup2, 1), (228, .iaload, 1), (229, .iload_n 1, 1), (230, .iadd, 1), (231, .iastore, 1), (232, .aload_n 0, 1), (233, .getfield 21, 3), (236, .iconst (1), 1), (237, .dup2, 1), (238, .iaload, 1), (239, .iload_n 2, 1), (240, .iadd, 1), (241, .iastore, 1), (242, .aload_n 0, 1), (243, .getfield 21, 3), (246, .iconst (2), 1), (247, .dup2, 1), (248, .iaload, 1), (249, .iload_n 3, 1), (250, .iadd, 1), (251, .iastore, 1), (252, .aload_n 0, 1), (253, .getfield 21, 3)]
theorem kco_15_t7 : kco_15_7.all (fun q => decide (decode prog_5_method_12_code q.1 = .ok q.2)) = true := by decide +kernel
def kco_15_8 : List (Nat × Instr × Nat) := [(256, .iconst (3), 1), (257, .dup2, 1), (258, .iaload, 1), (259, .iload 4, 2), (261, .iadd, 1), (262, .iastore, 1), (263, .aload_n 0, 1), (264, .getfield 21, 3), (267, .iconst (4), 1), (268, .dup2, 1), (269, .iaload, 1), (270, .iload 5, 2), (272, .iadd, 1), (273, .iastore, 1), (274, .aload_n 0, 1), (275, .getfield 21, 3), (278, .iconst (5), 1), (279, .dup2, 1), (280, .iaload, 1), (281, .iload 6, 2), (283, .iadd, 1), (284, .iastore, 1), (285, .aload_n 0, 1), (286, .getfield 21, 3)]
theorem kco_15_t8 : kco_15_8.all (fun q => decide (decode prog_5_method_12_code q.1 = .ok q.2)) = true := by decide +kernel
def kco_15_9 : List (Nat × Instr × Nat) := [(289, .bipush (6), 2), (291, .dup2, 1), (292, .iaload, 1), (293, .iload 7, 2), (295, .iadd, 1), (296, .iastore, 1), (297, .aload_n 0, 1), (298, .getfield 21, 3), (301, .bipush (7), 2), (303, .dup2, 1), (304, .iaload, 1), (305, .iload 8, 2), (307, .iadd, 1), (308, .iastore, 1), (309, .return_, 1)]
theorem kco_15_t9 : kco_15_9.all (fun q => decide (decode prog_5_method_12_code q.1 = .ok q.2)) = true := by decide +kernel
def kco_15 : List (List (Nat × Instr × Nat)) := [kco_15_0, kco_15_1, kco_15_2, kco_15_3, kco_15_4, kco_15_5, kco_15_6, kco_15_7, kco_15_8, kco_15_9]
theorem kco_15_ok : ∀ pc i n, ck_cdAt kco_15 pc = some (i, n) → decode prog_5_method_12_code pc = .ok (i, n) := ck_cd_ok (List.forall_mem_cons.mpr ⟨kco_15_t0, (List.forall_mem_cons.mpr ⟨kco_15_t1, (List.forall_mem_cons.mpr ⟨kco_15_t2, (List.forall_mem_cons.mpr ⟨kco_15_t3, (List.forall_mem_cons.mpr ⟨kco_15_t4, (List.forall_mem_cons.mpr ⟨kco_15_t5, (List.forall_mem_cons.mpr ⟨kco_15_t6, (List.forall_mem_cons.mpr ⟨kco_15_t7, (List.forall_mem_cons.mpr ⟨kco_15_t8, (List.forall_mem_cons.mpr ⟨kco_15_t9, (fun _ h => by cases h)⟩)⟩)⟩)⟩)⟩)⟩)⟩)⟩)⟩)⟩)
def kco_16_0 : List (Nat × Instr × Nat) := [(0, .bipush (8), 2), (2, .aload_n 0, 1), (3, .getfield 33, 3), (6, .imul, 1), (7, .istore_n 2, 1), (8, .aload_n 0, 1), (9, .sipush (128), 3), (12, .invokevirtual 37, 3), (15, .iconst (0), 1), (16, .istore_n 3, 1), (17, .iload_n 3, 1), (18, .bipush (64), 2), (20, .if_icmp .ge (26), 3), (23, .aload_n 0, 1), (24, .getfield 33, 3), (27, .bipush (64), 2), (29, .irem, 1), (30, .bipush (56), 2)]
theorem kco_16_t0 : kco_16_0.all (fun q => decide (decode prog_5_method_6_code q.1 = .ok q.2)) = true := by decide +kernel
def kco_16_1 : List (Nat × Instr × Nat) := [(32, .if_icmp .eq (14), 3), (35, .aload_n 0, 1), (36, .iconst (0), 1), (37, .invokevirtual 37, 3), (40, .iinc 3 (1), 3), (43, .goto (-26), 3), (46, .bipush (56), 2), (48, .istore_n 3, 1), (49, .iload_n 3, 1), (50, .ifCond .lt (22), 3), (53, .aload_n 0, 1), (54, .iload_n 2, 1), (55, .i2l, 1), (56, .iload_n 3, 1), (57, .lushr, 1), (58, .l2i, 1), (59, .sipush (255), 3), (62, .iand, 1), (63, .invokevirtual 37, 3)]
theorem kco_16_t1 : kco_16_1.all (fun q => decide (decode prog_5_method_6_code q.1 = .ok q.2)) = true := by decide +kernel
def kco_16_2 : List (Nat × Instr × Nat) := [(66, .iinc 3 (-8), 3), (69, .goto (-20), 3), (72, .getstatic 41, 3), (75, .iconst (0), 1), (76, .aload_n 0, 1), (77, .getfield 21, 3), (80, .iconst (0), 1), (81, .bipush (8), 2), (83, .invokestatic 44, 3), (86, .iconst (0), 1), (87, .istore_n 3, 1), (88, .iload_n 3, 1), (89, .bipush (64), 2), (91, .iadd, 1), (92, .aload_n 0, 1), (93, .getfield 33, 3)]
theorem kco_16_t2 : kco_16_2.all (fun q => decide (decode prog_5_method_6_code q.1 = .ok q.2)) = true := by decide +kernel
def kco_16_3 : List (Nat × Instr × Nat) := [(96, .if_icmp .gt (18), 3), (99, .aload_n 0, 1), (100, .iload_n 3, 1), (101, .invokevirtual 50, 3), (104, .aload_n 0, 1), (105, .invokevirtual 53, 3), (108, .iinc 3 (64), 3), (111, .goto (-23), 3), (114, .iconst (0), 1), (115, .istore_n 3, 1), (116, .iload_n 3, 1), (117, .bipush (32), 2), (119, .if_icmp .ge (34), 3), (122, .aload_n 1, 1), (123, .iload_n 3, 1), (124, .aload_n 0, 1), (125, .getfield 21, 3)]
theorem kco_16_t3 : kco_16_3.all (fun q => decide (decode prog_5_method_6_code q.1 = .ok q.2)) = true := by decide +kernel
def kco_16_4 : List (Nat × Instr × Nat) := [(128, .iload_n 3, 1), (129, .iconst (2), 1), (130, .ishr, 1), (131, .iaload, 1), (132, .bipush (24), 2), (134, .bipush (8), 2), (136, .iload_n 3, 1), (137, .iconst (3), 1), (138, .iand, 1), (139, .imul, 1), (140, .isub, 1), (141, .iushr, 1), (142, .sipush (255), 3), (145, .iand, 1), (146, .iastore, 1), (147, .iinc 3 (1), 3), (150, .goto (-34), 3), (153, .return_, 1)]
theorem kco_16_t4 : kco_16_4.all (fun q => decide (decode prog_5_method_6_code q.1 = .ok q.2)) = true := by decide +kernel
def kco_16 : List (List (Nat × Instr × Nat)) := [kco_16_0, kco_16_1, kco_16_2, kco_16_3, kco_16_4]
theorem kco_16_ok : ∀ pc i n, ck_cdAt kco_16 pc = some (i, n) → decode prog_5_method_6_code pc = .ok (i, n) := ck_cd_ok (List.forall_mem_cons.mpr ⟨kco_16_t0, (List.forall_mem_cons.mpr ⟨kco_16_t1, (List.forall_mem_cons.mpr ⟨kco_16_t2, (List.forall_mem_cons.mpr ⟨kco_16_t3, (List.forall_mem_cons.mpr ⟨kco_16_t4, (fun _ h => by cases h)⟩)⟩)⟩)⟩)⟩)
def kco_17_0 : List (Nat × Instr × Nat) := [(0, .aload_n 3, 1), (1, .invokevirtual 18, 3), (4, .aload_n 3, 1), (5, .iload_n 1, 1), (6, .invokevirtual 23, 3), (9, .aload_n 3, 1), (10, .iload_n 2, 1), (11, .invokevirtual 23, 3), (14, .aload_n 3, 1), (15, .aload_n 0, 1), (16, .getfield 9, 3), (19, .invokevirtual 27, 3), (22, .aload_n 0, 1), (23, .iconst (0), 1), (24, .putfield 31, 3), (27, .return_, 1)]
theorem kco_17_t0 : kco_17_0.all (fun q => decide (decode prog_10_method_2_code q.1 = .ok q.2)) = true := by decide +kernel
def kco_17 : List (List (Nat × Instr × Nat)) := [kco_17_0]
theorem kco_17_ok : ∀ pc i n, ck_cdAt kco_17 pc = some (i, n) → decode prog_10_method_2_code pc = .ok (i, n) := ck_cd_ok (List.forall_mem_cons.mpr ⟨kco_17_t0, (fun _ h => by cases h)⟩)
def kco_18_0 : List (Nat × Instr × Nat) := [(0, .aload_n 1, 1), (1, .aload_n 0, 1), (2, .getfield 51, 3), (5, .aload_n 0, 1), (6, .getfield 285, 3), (9, .aload_n 0, 1), (10, .getfield 42, 3), (13, .getfield 82, 3), (16, .invokevirtual 288, 3), (19, .aload_n 0, 1), (20, .dup, 1), (21, .getfield 285, 3), (24, .iconst (1), 1), (25, .iadd, 1), (26, .putfield 285, 3), (29, .return_, 1)]
theorem kco_18_t0 : kco_18_0.all (fun q => decide (decode prog_1_method_26_code q.1 = .ok q.2)) = true := by decide +kernel
def kco_18 : List (List (Nat × Instr × Nat)) := [kco_18_0]
theorem kco_18_ok : ∀ pc i n, ck_cdAt kco_18 pc = some (i, n) → decode prog_1_method_26_code pc = .ok (i, n) := ck_cd_ok (List.forall_mem_cons.mpr ⟨kco_18_t0, (fun _ h => by cases h)⟩)
def kco_19_0 : List (Nat × Instr × Nat) := [(0, .iconst (0), 1), (1, .istore_n 1, 1), (2, .iload_n 1, 1), (3, .iconst (4), 1), (4, .if_icmp .ge (22), 3), (7, .aload_n 0, 1), (8, .aload_n 0, 1), (9, .getfield 16, 3), (12, .iload_n 1, 1), (13, .aaload, 1), (14, .getfield 282, 3), (17, .invokevirtual 119, 3), (20, .iinc 1 (1), 3), (23, .goto (-21), 3), (26, .iconst (0), 1), (27, .istore_n 1, 1), (28, .iload_n 1, 1), (29, .iconst (4), 1), (30, .if_icmp .ge (22), 3)]
theorem kco_19_t0 : kco_19_0.all (fun q => decide (decode prog_1_method_25_code q.1 = .ok q.2)) = true := by decide +kernel
def kco_19_1 : List (Nat × Instr × Nat) := [(33, .aload_n 0, 1), (34, .aload_n 0, 1), (35, .getfield 16, 3), (38, .iload_n 1, 1), (39, .aaload, 1), (40, .getfield 153, 3), (43, .invokevirtual 119, 3), (46, .iinc 1 (1), 3), (49, .goto (-21), 3), (52, .return_, 1)]
theorem kco_19_t1 : kco_19_1.all (fun q => decide (decode prog_1_method_25_code q.1 = .ok q.2)) = true := by decide +kernel
def kco_19 : List (List (Nat × Instr × Nat)) := [kco_19_0, kco_19_1]
theorem kco_19_ok : ∀ pc i n, ck_cdAt kco_19 pc = some (i, n) → decode prog_1_method_25_code pc = .ok (i, n) := ck_cd_ok (List.forall_mem_cons.mpr ⟨kco_19_t0, (List.forall_mem_cons.mpr ⟨kco_19_t1, (fun _ h => by cases h)⟩)⟩)
def kco_20_0 : List (Nat × Instr × Nat) := [(0, .aload_n 0, 1), (1, .invokespecial 1, 3), (4, .aload_n 0, 1), (5, .iconst (4), 1), (6, .bipush (32), 2), (8, .multianewarray 9 2, 4), (12, .putfield 11, 3), (15, .aload_n 0, 1), (16, .iconst (4), 1), (17, .anewarray 14, 3), (20, .putfield 16, 3), (23, .aload_n 0, 1), (24, .bipush (8), 2), (26, .anewarray 20, 3), (29, .putfield 22, 3)]
theorem kco_20_t0 : kco_20_0.all (fun q => decide (decode prog_1_method_1_code q.1 = .ok q.2)) = true := by decide +kernel
def kco_20_1 : List (Nat × Instr × Nat) := [(32, .aload_n 0, 1), (33, .bipush (48), 2), (35, .anewarray 26, 3), (38, .putfield 28, 3), (41, .aload_n 0, 1), (42, .new 32, 3), (45, .dup, 1), (46, .invokespecial 34, 3), (49, .putfield 35, 3), (52, .aload_n 0, 1), (53, .new 39, 3), (56, .dup, 1), (57, .invokespecial 41, 3), (60, .putfield 42, 3), (63, .aload_n 0, 1)]
theorem kco_20_t1 : kco_20_1.all (fun q => decide (decode prog_1_method_1_code q.1 = .ok q.2)) = true := by decide +kernel
def kco_20_2 : List (Nat × Instr × Nat) := [(64, .new 20, 3), (67, .dup, 1), (68, .invokespecial 46, 3), (71, .putfield 47, 3), (74, .aload_n 0, 1), (75, .iload_n 1, 1), (76, .putfield 51, 3), (79, .iconst (0), 1), (80, .istore_n 2, 1), (81, .iload_n 2, 1), (82, .iconst (4), 1), (83, .if_icmp .ge (22), 3), (86, .aload_n 0, 1), (87, .getfield 16, 3), (90, .iload_n 2, 1), (91, .new 14, 3), (94, .dup, 1), (95, .invokespecial 55, 3)]
theorem kco_20_t2 : kco_20_2.all (fun q => decide (decode prog_1_method_1_code q.1 = .ok q.2)) = true := by decide +kernel
def kco_20_3 : List (Nat × Instr × Nat) := [(98, .aastore, 1), (99, .iinc 2 (1), 3), (102, .goto (-21), 3), (105, .iconst (0), 1), (106, .istore_n 2, 1), (107, .iload_n 2, 1), (108, .bipush (8), 2), (110, .if_icmp .ge (22), 3), (113, .aload_n 0, 1), (114, .getfield 22, 3), (117, .iload_n 2, 1), (118, .new 20, 3), (121, .dup, 1), (122, .invokespecial 46, 3), (125, .aastore, 1), (126, .iinc 2 (1), 3)]
theorem kco_20_t3 : kco_20_3.all (fun q => decide (decode prog_1_method_1_code q.1 = .ok q.2)) = true := by decide +kernel
def kco_20_4 : List (Nat × Instr × Nat) := [(129, .goto (-22), 3), (132, .iconst (0), 1), (133, .istore_n 2, 1), (134, .iload_n 2, 1), (135, .bipush (48), 2), (137, .if_icmp .ge (22), 3), (140, .aload_n 0, 1), (141, .getfield 28, 3), (144, .iload_n 2, 1), (145, .new 26, 3), (148, .dup, 1), (149, .invokespecial 56, 3), (152, .aastore, 1), (153, .iinc 2 (1), 3), (156, .goto (-22), 3), (159, .aload_n 0, 1)]
theorem kco_20_t4 : kco_20_4.all (fun q => decide (decode prog_1_method_1_code q.1 = .ok q.2)) = true := by decide +kernel
def kco_20_5 : List (Nat × Instr × Nat) := [(160, .invokevirtual 57, 3), (163, .return_, 1)]
theorem kco_20_t5 : kco_20_5.all (fun q => decide (decode prog_1_method_1_code q.1 = .ok q.2)) = true := by decide +kernel
def kco_20 : List (List (Nat × Instr × Nat)) := [kco_20_0, kco_20_1, kco_20_2, kco_20_3, kco_20_4, kco_20_5]
theorem kco_20_ok : ∀ pc i n, ck_cdAt kco_20 pc = some (i, n) → decode prog_1_method_1_code pc = .ok (i, n) := ck_cd_ok (List.forall_mem_cons.mpr ⟨kco_20_t0, (List.forall_mem_cons.mpr ⟨kco_20_t1, (List.forall_mem_cons.mpr ⟨kco_20_t2, (List.forall_mem_cons.mpr ⟨kco_20_t3, (List.forall_mem_cons.mpr ⟨kco_20_t4, (List.forall_mem_cons.mpr ⟨kco_20_t5, (fun _ h => by cases h)⟩)⟩)⟩)⟩)⟩)⟩)
def kco_21_0 : List (Nat × Instr × Nat) := [(0, .aload_n 0, 1), (1, .getfield 19, 3), (4, .iload_n 1, 1), (5, .iload_n 2, 1), (6, .iastore, 1), (7, .aload_n 0, 1), (8, .getfield 19, 3), (11, .iload_n 1, 1), (12, .iconst (1), 1), (13, .iadd, 1), (14, .iload_n 3, 1), (15, .iastore, 1), (16, .aload_n 0, 1), (17, .getfield 19, 3), (20, .iload_n 1, 1), (21, .iconst (2), 1), (22, .iadd, 1), (23, .iload 4, 2), (25, .iastore, 1), (26, .aload_n 0, 1), (27, .getfield 19, 3), (30, .iload_n 1, 1), (31, .iconst (3), 1)]
theorem kco_21_t0 : kco_21_0.all (fun q => decide (decode prog_13_method_2_code q.1 = .ok q.2)) = true := by decide +kernel
def kco_21_1 : List (Nat × Instr × Nat) := [(32, .iadd, 1), (33, .iload 5, 2), (35, .iastore, 1), (36, .return_, 1)]
theorem kco_21_t1 : kco_21_1.all (fun q => decide (decode prog_13_method_2_code q.1 = .ok q.2)) = true := by decide +kernel
def kco_21 : List (List (Nat × Instr × Nat)) := [kco_21_0, kco_21_1]
theorem kco_21_ok : ∀ pc i n, ck_cdAt kco_21 pc = some (i, n) → decode prog_13_method_2_code pc = .ok (i, n) := ck_cd_ok (List.forall_mem_cons.mpr ⟨kco_21_t0, (List.forall_mem_cons.mpr ⟨kco_21_t1, (fun _ h => by cases h)⟩)⟩)
end
section
/-! ===== code, read ===== -/
def kco_22_0 : List (Nat × Instr × Nat) := [(0, .aload_n 0, 1), (1, .invokespecial 1, 3), (4, .aload_n 0, 1), (5, .sipush (6000), 3), (8, .newarray .int, 2), (10, .putfield 7, 3), (13, .aload_n 0, 1), (14, .sipush (512), 3), (17, .newarray .int, 2), (19, .putfield 13, 3), (22, .aload_n 0, 1), (23, .sipush (300), 3), (26, .newarray .int, 2), (28, .putfield 16, 3), (31, .aload_n 0, 1)]
theorem kco_22_t0 : kco_22_0.all (fun q => decide (decode prog_13_method_1_code q.1 = .ok q.2)) = true := by decide +kernel
def kco_22_1 : List (Nat × Instr × Nat) := [(32, .bipush (72), 2), (34, .newarray .int, 2), (36, .putfield 19, 3), (39, .aload_n 0, 1), (40, .bipush (8), 2), (42, .newarray .int, 2), (44, .putfield 22, 3), (47, .aload_n 0, 1), (48, .bipush (8), 2), (50, .newarray .int, 2), (52, .putfield 25, 3), (55, .aload_n 0, 1), (56, .bipush (64), 2), (58, .newarray .int, 2), (60, .putfield 28, 3), (63, .aload_n 0, 1)]
theorem kco_22_t1 : kco_22_1.all (fun q => decide (decode prog_13_method_1_code q.1 = .ok q.2)) = true := by decide +kernel
def kco_22_2 : List (Nat × Instr × Nat) := [(64, .sipush (256), 3), (67, .newarray .long, 2), (69, .putfield 31, 3), (72, .aload_n 0, 1), (73, .bipush (31), 2), (75, .newarray .long, 2), (77, .putfield 35, 3), (80, .aload_n 0, 1), (81, .bipush (8), 2), (83, .putfield 38, 3), (86, .aload_n 0, 1), (87, .bipush (8), 2), (89, .newarray .boolean, 2), (91, .putfield 42, 3), (94, .aload_n 0, 1), (95, .iconst (4), 1)]
theorem kco_22_t2 : kco_22_2.all (fun q => decide (decode prog_13_method_1_code q.1 = .ok q.2)) = true := by decide +kernel
def kco_22_3 : List (Nat × Instr × Nat) := [(96, .newarray .int, 2), (98, .putfield 46, 3), (101, .aload_n 0, 1), (102, .bipush (32), 2), (104, .newarray .int, 2), (106, .putfield 49, 3), (109, .aload_n 0, 1), (110, .bipush (32), 2), (112, .newarray .boolean, 2), (114, .putfield 52, 3), (117, .aload_n 0, 1), (118, .bipush (32), 2), (120, .newarray .boolean, 2), (122, .putfield 55, 3), (125, .aload_n 0, 1), (126, .bipush (9), 2)]
theorem kco_22_t3 : kco_22_3.all (fun q => decide (decode prog_13_method_1_code q.1 = .ok q.2)) = true := by decide +kernel
def kco_22_4 : List (Nat × Instr × Nat) := [(128, .newarray .int, 2), (130, .putfield 58, 3), (133, .aload_n 0, 1), (134, .bipush (9), 2), (136, .newarray .int, 2), (138, .putfield 61, 3), (141, .aload_n 0, 1), (142, .bipush (9), 2), (144, .newarray .boolean, 2), (146, .putfield 64, 3), (149, .aload_n 0, 1), (150, .bipush (9), 2), (152, .newarray .boolean, 2), (154, .putfield 67, 3), (157, .aload_n 0, 1), (158, .bipush (9), 2)]
theorem kco_22_t4 : kco_22_4.all (fun q => decide (decode prog_13_method_1_code q.1 = .ok q.2)) = true := by decide +kernel
def kco_22_5 : List (Nat × Instr × Nat) := [(160, .newarray .boolean, 2), (162, .putfield 70, 3), (165, .aload_n 0, 1), (166, .bipush (9), 2), (168, .newarray .boolean, 2), (170, .putfield 73, 3), (173, .aload_n 0, 1), (174, .bipush (9), 2), (176, .newarray .int, 2), (178, .putfield 76, 3), (181, .aload_n 0, 1), (182, .bipush (9), 2), (184, .newarray .int, 2), (186, .putfield 79, 3), (189, .aload_n 0, 1), (190, .bipush (9), 2)]
theorem kco_22_t5 : kco_22_5.all (fun q => decide (decode prog_13_method_1_code q.1 = .ok q.2)) = true := by decide +kernel
def kco_22_6 : List (Nat × Instr × Nat) := [(192, .newarray .int, 2), (194, .putfield 82, 3), (197, .aload_n 0, 1), (198, .bipush (9), 2), (200, .newarray .int, 2), (202, .putfield 85, 3), (205, .aload_n 0, 1), (206, .bipush (54), 2), (208, .newarray .int, 2), (210, .putfield 88, 3), (213, .aload_n 0, 1), (214, .bipush (9), 2), (216, .newarray .int, 2), (218, .putfield 91, 3), (221, .aload_n 0, 1), (222, .bipush (9), 2)]
theorem kco_22_t6 : kco_22_6.all (fun q => decide (decode prog_13_method_1_code q.1 = .ok q.2)) = true := by decide +kernel
def kco_22_7 : List (Nat × Instr × Nat) := [(224, .newarray .int, 2), (226, .putfield 94, 3), (229, .aload_n 0, 1), (230, .bipush (9), 2), (232, .newarray .int, 2), (234, .putfield 97, 3), (237, .aload_n 0, 1), (238, .bipush (9), 2), (240, .newarray .long, 2), (242, .putfield 100, 3), (245, .aload_n 0, 1), (246, .bipush (48), 2), (248, .newarray .int, 2), (250, .putfield 103, 3), (253, .aload_n 0, 1), (254, .sipush (4032), 3)]
theorem kco_22_t7 : kco_22_7.all (fun q => decide (decode prog_13_method_1_code q.1 = .ok q.2)) = true := by decide +kernel
def kco_22_8 : List (Nat × Instr × Nat) := [(257, .newarray .int, 2), (259, .putfield 106, 3), (262, .aload_n 0, 1), (263, .iload_n 1, 1), (264, .putfield 109, 3), (267, .aload_n 0, 1), (268, .getfield 7, 3), (271, .sipush (544), 3), (274, .bipush (9), 2), (276, .iastore, 1), (277, .aload_n 0, 1), (278, .iconst (0), 1), (279, .ldc 112, 2), (281, .ldc 113, 2), (283, .ldc 114, 2), (285, .ldc 115, 2), (287, .invokevirtual 116, 3)]
theorem kco_22_t8 : kco_22_8.all (fun q => decide (decode prog_13_method_1_code q.1 = .ok q.2)) = true := by decide +kernel
def kco_22_9 : List (Nat × Instr × Nat) := [(290, .aload_n 0, 1), (291, .iconst (4), 1), (292, .ldc 120, 2), (294, .ldc 121, 2), (296, .ldc 122, 2), (298, .ldc 123, 2), (300, .invokevirtual 116, 3), (303, .aload_n 0, 1), (304, .bipush (8), 2), (306, .ldc 124, 2), (308, .ldc 125, 2), (310, .ldc 126, 2), (312, .ldc 127, 2), (314, .invokevirtual 116, 3), (317, .aload_n 0, 1), (318, .bipush (12), 2)]
theorem kco_22_t9 : kco_22_9.all (fun q => decide (decode prog_13_method_1_code q.1 = .ok q.2)) = true := by decide +kernel
def kco_22_10 : List (Nat × Instr × Nat) := [(320, .ldc 128, 2), (322, .ldc 129, 2), (324, .ldc 130, 2), (326, .ldc 131, 2), (328, .invokevirtual 116, 3), (331, .aload_n 0, 1), (332, .bipush (16), 2), (334, .ldc 132, 2), (336, .ldc 133, 2), (338, .ldc 134, 2), (340, .ldc 135, 2), (342, .invokevirtual 116, 3), (345, .aload_n 0, 1), (346, .bipush (20), 2), (348, .ldc 136, 2), (350, .ldc 137, 2)]
theorem kco_22_t10 : kco_22_10.all (fun q => decide (decode prog_13_method_1_code q.1 = .ok q.2)) = true := by decide +kernel
def kco_22_11 : List (Nat × Instr × Nat) := [(352, .ldc 138, 2), (354, .ldc 139, 2), (356, .invokevirtual 116, 3), (359, .aload_n 0, 1), (360, .bipush (24), 2), (362, .ldc 140, 2), (364, .ldc 141, 2), (366, .ldc 142, 2), (368, .ldc 143, 2), (370, .invokevirtual 116, 3), (373, .aload_n 0, 1), (374, .bipush (28), 2), (376, .ldc 144, 2), (378, .ldc 145, 2), (380, .ldc 146, 2), (382, .ldc 147, 2)]
theorem kco_22_t11 : kco_22_11.all (fun q => decide (decode prog_13_method_1_code q.1 = .ok q.2)) = true := by decide +kernel
def kco_22_12 : List (Nat × Instr × Nat) := [(384, .invokevirtual 116, 3), (387, .aload_n 0, 1), (388, .bipush (32), 2), (390, .ldc 148, 2), (392, .ldc 149, 2), (394, .ldc 150, 2), (396, .ldc 151, 2), (398, .invokevirtual 116, 3), (401, .aload_n 0, 1), (402, .bipush (36), 2), (404, .ldc 152, 2), (406, .ldc 153, 2), (408, .ldc 154, 2), (410, .ldc 155, 2), (412, .invokevirtual 116, 3), (415, .aload_n 0, 1)]
theorem kco_22_t12 : kco_22_12.all (fun q => decide (decode prog_13_method_1_code q.1 = .ok q.2)) = true := by decide +kernel
def kco_22_13 : List (Nat × Instr × Nat) := [(416, .bipush (40), 2), (418, .ldc 156, 2), (420, .ldc 157, 2), (422, .ldc 158, 2), (424, .ldc 159, 2), (426, .invokevirtual 116, 3), (429, .aload_n 0, 1), (430, .bipush (44), 2), (432, .ldc 160, 2), (434, .ldc 161, 2), (436, .ldc 162, 2), (438, .ldc 163, 2), (440, .invokevirtual 116, 3), (443, .aload_n 0, 1), (444, .bipush (48), 2), (446, .ldc 164, 2)]
theorem kco_22_t13 : kco_22_13.all (fun q => decide (decode prog_13_method_1_code q.1 = .ok q.2)) = true := by decide +kernel
def kco_22_14 : List (Nat × Instr × Nat) := [(448, .ldc 165, 2), (450, .ldc 166, 2), (452, .ldc 167, 2), (454, .invokevirtual 116, 3), (457, .aload_n 0, 1), (458, .bipush (52), 2), (460, .ldc 168, 2), (462, .ldc 169, 2), (464, .ldc 170, 2), (466, .ldc 171, 2), (468, .invokevirtual 116, 3), (471, .aload_n 0, 1), (472, .bipush (56), 2), (474, .ldc 172, 2), (476, .ldc 173, 2), (478, .ldc 174, 2)]
theorem kco_22_t14 : kco_22_14.all (fun q => decide (decode prog_13_method_1_code q.1 = .ok q.2)) = true := by decide +kernel
def kco_22_15 : List (Nat × Instr × Nat) := [(480, .ldc 175, 2), (482, .invokevirtual 116, 3), (485, .aload_n 0, 1), (486, .bipush (60), 2), (488, .ldc 176, 2), (490, .ldc 177, 2), (492, .ldc 178, 2), (494, .ldc 179, 2), (496, .invokevirtual 116, 3), (499, .aload_n 0, 1), (500, .bipush (64), 2), (502, .ldc 180, 2), (504, .ldc 181, 2), (506, .ldc 182, 2), (508, .ldc 183, 2), (510, .invokevirtual 116, 3)]
theorem kco_22_t15 : kco_22_15.all (fun q => decide (decode prog_13_method_1_code q.1 = .ok q.2)) = true := by decide +kernel
def kco_22_16 : List (Nat × Instr × Nat) := [(513, .aload_n 0, 1), (514, .bipush (68), 2), (516, .ldc 184, 2), (518, .ldc 185, 2), (520, .ldc 186, 2), (522, .ldc 187, 2), (524, .invokevirtual 116, 3), (527, .return_, 1)]
theorem kco_22_t16 : kco_22_16.all (fun q => decide (decode prog_13_method_1_code q.1 = .ok q.2)) = true := by decide +kernel
def kco_22 : List (List (Nat × Instr × Nat)) := [kco_22_0, kco_22_1, kco_22_2, kco_22_3, kco_22_4, kco_22_5, kco_22_6, kco_22_7, kco_22_8, kco_22_9, kco_22_10, kco_22_11, kco_22_12, kco_22_13, kco_22_14, kco_22_15, kco_22_16]
theorem kco_22_ok : ∀ pc i n, ck_cdAt kco_22 pc = some (i, n) → decode prog_13_method_1_code pc = .ok (i, n) := ck_cd_ok (List.forall_mem_cons.mpr ⟨kco_22_t0, (List.forall_mem_cons.mpr ⟨kco_22_t1, (List.forall_mem_cons.mpr ⟨kco_22_t2, (List.forall_mem_cons.mpr ⟨kco_22_t3, (List.forall_mem_cons.mpr ⟨kco_22_t4, (List.forall_mem_cons.mpr ⟨kco_22_t5, (List.forall_mem_cons.mpr ⟨kco_22_t6, (List.forall_mem_cons.mpr ⟨kco_22_t7, (List.forall_mem_cons.mpr ⟨kco_22_t8, (List.forall_mem_cons.mpr ⟨kco_22_t9, (List.forall_mem_cons.mpr ⟨kco_22_t10, (List.forall_mem_cons.mpr ⟨kco_22_t11, (List.forall_mem_cons.mpr ⟨kco_22_t12, (List.forall_mem_cons.mpr ⟨kco_22_t13, (List.forall_mem_cons.mpr ⟨kco_22_t14, (List.forall_mem_cons.mpr ⟨kco_22_t15, (List.forall_mem_cons.mpr ⟨kco_22_t16, (fun _ h => by cases h)⟩)⟩)⟩)⟩)⟩)⟩)⟩)⟩)⟩)⟩)⟩)⟩)⟩)⟩)⟩)⟩)⟩)
def kco_23_0 : List (Nat × Instr × Nat) := [(0, .iload_n 0, 1), (1, .ifCond .lt (8), 3), (4, .iload_n 0, 1), (5, .iload_n 1, 1), (6, .if_icmp .lt (14), 3), (9, .new 272, 3), (12, .dup, 1), (13, .ldc_w 274, 3), (16, .invokespecial 276, 3), (19, .athrow, 1), (20, .return_, 1)]
theorem kco_23_t0 : kco_23_0.all (fun q => decide (decode prog_1_method_23_code q.1 = .ok q.2)) = true := by decide +kernel
def kco_23 : List (List (Nat × Instr × Nat)) := [kco_23_0]
theorem kco_23_ok : ∀ pc i n, ck_cdAt kco_23 pc = some (i, n) → decode prog_1_method_23_code pc = .ok (i, n) := ck_cd_ok (List.forall_mem_cons.mpr ⟨kco_23_t0, (fun _ h => by cases h)⟩)
def kco_24_0 : List (Nat × Instr × Nat) := [(0, .iload_n 1, 1), (1, .aload_n 0, 1), (2, .getfield 137, 3), (5, .invokestatic 60, 3), (8, .iload_n 3, 1), (9, .iconst (4), 1), (10, .invokestatic 60, 3), (13, .aload_n 0, 1), (14, .getfield 22, 3), (17, .iload_n 1, 1), (18, .aaload, 1), (19, .astore 4, 2), (21, .iload_n 2, 1), (22, .tableswitch (130) (0) (4) #[34, 47, 63, 94, 117], 34)]
theorem kco_24_t0 : kco_24_0.all (fun q => decide (decode prog_1_method_22_code q.1 = .ok q.2)) = true := by decide +kernel
def kco_24_1 : List (Nat × Instr × Nat) := [(56, .aload 4, 2), (58, .getfield 263, 3), (61, .bipush (8), 2), (63, .iload_n 3, 1)]
theorem kco_24_t1 : kco_24_1.all (fun q => decide (decode prog_1_method_22_code q.1 = .ok q.2)) = true := by decide +kernel
def kco_24_2 : List (Nat × Instr × Nat) := [(64, .imul, 1), (65, .invokestatic 68, 3), (68, .lreturn, 1), (69, .aload 4, 2), (71, .getfield 237, 3), (74, .getfield 266, 3), (77, .bipush (8), 2), (79, .iload_n 3, 1), (80, .imul, 1), (81, .invokestatic 68, 3), (84, .lreturn, 1), (85, .aload 4, 2), (87, .getfield 246, 3), (90, .getfield 269, 3), (93, .ifCond .eq (21), 3)]
theorem kco_24_t2 : kco_24_2.all (fun q => decide (decode prog_1_method_22_code q.1 = .ok q.2)) = true := by decide +kernel
def kco_24_3 : List (Nat × Instr × Nat) := [(96, .aload 4, 2), (98, .getfield 246, 3), (101, .getfield 266, 3), (104, .bipush (8), 2), (106, .iload_n 3, 1), (107, .imul, 1), (108, .invokestatic 68, 3), (111, .goto (4), 3), (114, .lconst (0), 1), (115, .lreturn, 1), (116, .aload 4, 2), (118, .getfield 212, 3), (121, .aload_n 0, 1), (122, .getfield 42, 3), (125, .getfield 72, 3)]
theorem kco_24_t3 : kco_24_3.all (fun q => decide (decode prog_1_method_22_code q.1 = .ok q.2)) = true := by decide +kernel
def kco_24_4 : List (Nat × Instr × Nat) := [(128, .invokevirtual 156, 3), (131, .bipush (8), 2), (133, .iload_n 3, 1), (134, .imul, 1), (135, .invokestatic 68, 3), (138, .lreturn, 1), (139, .aload 4, 2), (141, .getfield 160, 3), (144, .bipush (8), 2), (146, .iload_n 3, 1), (147, .imul, 1), (148, .invokestatic 68, 3), (151, .lreturn, 1), (152, .lconst (0), 1), (153, .lreturn, 1)]
theorem kco_24_t4 : kco_24_4.all (fun q => decide (decode prog_1_method_22_code q.1 = .ok q.2)) = true := by decide +kernel
def kco_24 : List (List (Nat × Instr × Nat)) := [kco_24_0, kco_24_1, kco_24_2, kco_24_3, kco_24_4]
theorem kco_24_ok : ∀ pc i n, ck_cdAt kco_24 pc = some (i, n) → decode prog_1_method_22_code pc = .ok (i, n) := ck_cd_ok (List.forall_mem_cons.mpr ⟨kco_24_t0, (List.forall_mem_cons.mpr ⟨kco_24_t1, (List.forall_mem_cons.mpr ⟨kco_24_t2, (List.forall_mem_cons.mpr ⟨kco_24_t3, (List.forall_mem_cons.mpr ⟨kco_24_t4, (fun _ h => by cases h)⟩)⟩)⟩)⟩)⟩)
def kco_25_0 : List (Nat × Instr × Nat) := [(0, .aload 4, 2), (2, .iconst (0), 1), (3, .aload_n 0, 1), (4, .iload_n 1, 1), (5, .iload_n 2, 1), (6, .iload_n 3, 1), (7, .invokevirtual 80, 3), (10, .lastore, 1), (11, .goto (7), 3), (14, .astore 5, 2), (16, .iconst (1), 1), (17, .ireturn, 1), (18, .iconst (0), 1), (19, .ireturn, 1)]
theorem kco_25_t0 : kco_25_0.all (fun q => decide (decode method_21_code q.1 = .ok q.2)) = true := by decide +kernel
def kco_25 : List (List (Nat × Instr × Nat)) := [kco_25_0]
theorem kco_25_ok : ∀ pc i n, ck_cdAt kco_25 pc = some (i, n) → decode method_21_code pc = .ok (i, n) := ck_cd_ok (List.forall_mem_cons.mpr ⟨kco_25_t0, (fun _ h => by cases h)⟩)
def kco_26_0 : List (Nat × Instr × Nat) := [(0, .iload_n 0, 1), (1, .ifCond .lt (12), 3), (4, .iload_n 0, 1), (5, .iload_n 1, 1), (6, .if_icmp .ge (7), 3), (9, .iconst (1), 1), (10, .goto (4), 3), (13, .iconst (0), 1), (14, .ireturn, 1)]
theorem kco_26_t0 : kco_26_0.all (fun q => decide (decode prog_13_method_5_code q.1 = .ok q.2)) = true := by decide +kernel
def kco_26 : List (List (Nat × Instr × Nat)) := [kco_26_0]
theorem kco_26_ok : ∀ pc i n, ck_cdAt kco_26 pc = some (i, n) → decode prog_13_method_5_code pc = .ok (i, n) := ck_cd_ok (List.forall_mem_cons.mpr ⟨kco_26_t0, (fun _ h => by cases h)⟩)
def kco_27_0 : List (Nat × Instr × Nat) := [(0, .aload_n 0, 1), (1, .iload_n 1, 1), (2, .putfield 188, 3), (5, .iload_n 1, 1), (6, .ifCond .le (7), 3), (9, .iconst (1), 1), (10, .goto (4), 3), (13, .iconst (0), 1), (14, .ireturn, 1)]
theorem kco_27_t0 : kco_27_0.all (fun q => decide (decode prog_13_method_4_code q.1 = .ok q.2)) = true := by decide +kernel
def kco_27 : List (List (Nat × Instr × Nat)) := [kco_27_0]
theorem kco_27_ok : ∀ pc i n, ck_cdAt kco_27 pc = some (i, n) → decode prog_13_method_4_code pc = .ok (i, n) := ck_cd_ok (List.forall_mem_cons.mpr ⟨kco_27_t0, (fun _ h => by cases h)⟩)
def kco_28_0 : List (Nat × Instr × Nat) := [(0, .aload_n 0, 1), (1, .iload_n 1, 1), (2, .aload_n 0, 1), (3, .getfield 304, 3), (6, .invokestatic 276, 3), (9, .ifCond .eq (15), 3), (12, .iload_n 3, 1), (13, .iconst (4), 1), (14, .invokestatic 276, 3), (17, .ifCond .eq (7), 3), (20, .iconst (0), 1), (21, .goto (4), 3), (24, .iconst (1), 1), (25, .invokevirtual 280, 3), (28, .ifCond .eq (5), 3), (31, .lconst (0), 1)]
theorem kco_28_t0 : kco_28_0.all (fun q => decide (decode prog_13_method_70_code q.1 = .ok q.2)) = true := by decide +kernel
def kco_28_1 : List (Nat × Instr × Nat) := [(32, .lreturn, 1), (33, .iload_n 2, 1), (34, .ifCond .lt (8), 3), (37, .iload_n 2, 1), (38, .iconst (4), 1), (39, .if_icmp .le (7), 3), (42, .lconst (0), 1), (43, .goto (21), 3), (46, .aload_n 0, 1), (47, .iload_n 1, 1), (48, .invokestatic 291, 3), (51, .bipush (32), 2), (53, .iload_n 2, 1), (54, .imul, 1), (55, .iadd, 1), (56, .bipush (8), 2), (58, .iload_n 3, 1), (59, .imul, 1), (60, .iadd, 1), (61, .invokevirtual 284, 3)]
theorem kco_28_t1 : kco_28_1.all (fun q => decide (decode prog_13_method_70_code q.1 = .ok q.2)) = true := by decide +kernel
def kco_28_2 : List (Nat × Instr × Nat) := [(64, .lreturn, 1)]
theorem kco_28_t2 : kco_28_2.all (fun q => decide (decode prog_13_method_70_code q.1 = .ok q.2)) = true := by decide +kernel
def kco_28 : List (List (Nat × Instr × Nat)) := [kco_28_0, kco_28_1, kco_28_2]
theorem kco_28_ok : ∀ pc i n, ck_cdAt kco_28 pc = some (i, n) → decode prog_13_method_70_code pc = .ok (i, n) := ck_cd_ok (List.forall_mem_cons.mpr ⟨kco_28_t0, (List.forall_mem_cons.mpr ⟨kco_28_t1, (List.forall_mem_cons.mpr ⟨kco_28_t2, (fun _ h => by cases h)⟩)⟩)⟩)
def kco_29_0 : List (Nat × Instr × Nat) := [(0, .aload_n 0, 1), (1, .getfield 188, 3), (4, .ireturn, 1)]
theorem kco_29_t0 : kco_29_0.all (fun q => decide (decode prog_13_method_3_code q.1 = .ok q.2)) = true := by decide +kernel
def kco_29 : List (List (Nat × Instr × Nat)) := [kco_29_0]
theorem kco_29_ok : ∀ pc i n, ck_cdAt kco_29 pc = some (i, n) → decode prog_13_method_3_code pc = .ok (i, n) := ck_cd_ok (List.forall_mem_cons.mpr ⟨kco_29_t0, (fun _ h => by cases h)⟩)
def kco_30_0 : List (Nat × Instr × Nat) := [(0, .iload_n 1, 1), (1, .aload_n 0, 1), (2, .getfield 137, 3), (5, .invokestatic 60, 3), (8, .iload_n 2, 1), (9, .aload_n 0, 1), (10, .getfield 179, 3), (13, .invokestatic 60, 3), (16, .aload_n 0, 1), (17, .getfield 22, 3), (20, .iload_n 1, 1), (21, .aaload, 1), (22, .getfield 252, 3), (25, .aload_n 0, 1), (26, .getfield 28, 3), (29, .iload_n 2, 1), (30, .aaload, 1), (31, .invokevirtual 259, 3)]
theorem kco_30_t0 : kco_30_0.all (fun q => decide (decode prog_1_method_21_code q.1 = .ok q.2)) = true := by decide +kernel
def kco_30_1 : List (Nat × Instr × Nat) := [(34, .iconst (-1), 1), (35, .if_icmp .eq (7), 3), (38, .iconst (1), 1), (39, .goto (4), 3), (42, .iconst (0), 1), (43, .ireturn, 1)]
theorem kco_30_t1 : kco_30_1.all (fun q => decide (decode prog_1_method_21_code q.1 = .ok q.2)) = true := by decide +kernel
def kco_30 : List (List (Nat × Instr × Nat)) := [kco_30_0, kco_30_1]
theorem kco_30_ok : ∀ pc i n, ck_cdAt kco_30 pc = some (i, n) → decode prog_1_method_21_code pc = .ok (i, n) := ck_cd_ok (List.forall_mem_cons.mpr ⟨kco_30_t0, (List.forall_mem_cons.mpr ⟨kco_30_t1, (fun _ h => by cases h)⟩)⟩)
def kco_31_0 : List (Nat × Instr × Nat) := [(0, .aload_n 3, 1), (1, .iconst (0), 1), (2, .aload_n 0, 1), (3, .iload_n 1, 1), (4, .iload_n 2, 1), (5, .invokevirtual 76, 3), (8, .ifCond .eq (7), 3), (11, .lconst (1), 1), (12, .goto (4), 3), (15, .lconst (0), 1), (16, .lastore, 1), (17, .goto (7), 3), (20, .astore 4, 2), (22, .iconst (1), 1), (23, .ireturn, 1), (24, .iconst (0), 1), (25, .ireturn, 1)]
theorem kco_31_t0 : kco_31_0.all (fun q => decide (decode method_20_code q.1 = .ok q.2)) = true := by decide +kernel
def kco_31 : List (List (Nat × Instr × Nat)) := [kco_31_0]
theorem kco_31_ok : ∀ pc i n, ck_cdAt kco_31 pc = some (i, n) → decode method_20_code pc = .ok (i, n) := ck_cd_ok (List.forall_mem_cons.mpr ⟨kco_31_t0, (fun _ h => by cases h)⟩)
def kco_32_0 : List (Nat × Instr × Nat) := [(0, .aload_n 0, 1), (1, .iload_n 1, 1), (2, .aload_n 0, 1), (3, .getfield 304, 3), (6, .invokestatic 276, 3), (9, .ifCond .eq (18), 3), (12, .iload_n 2, 1), (13, .aload_n 0, 1), (14, .getfield 326, 3), (17, .invokestatic 276, 3), (20, .ifCond .eq (7), 3), (23, .iconst (0), 1), (24, .goto (4), 3), (27, .iconst (1), 1), (28, .invokevirtual 280, 3), (31, .ifCond .ne (16), 3)]
theorem kco_32_t0 : kco_32_0.all (fun q => decide (decode prog_13_method_69_code q.1 = .ok q.2)) = true := by decide +kernel
def kco_32_1 : List (Nat × Instr × Nat) := [(34, .aload_n 0, 1), (35, .iload_n 1, 1), (36, .iload_n 2, 1), (37, .invokevirtual 347, 3), (40, .ifCond .lt (7), 3), (43, .iconst (1), 1), (44, .goto (4), 3), (47, .iconst (0), 1), (48, .ireturn, 1)]
theorem kco_32_t1 : kco_32_1.all (fun q => decide (decode prog_13_method_69_code q.1 = .ok q.2)) = true := by decide +kernel
def kco_32 : List (List (Nat × Instr × Nat)) := [kco_32_0, kco_32_1]
theorem kco_32_ok : ∀ pc i n, ck_cdAt kco_32 pc = some (i, n) → decode prog_13_method_69_code pc = .ok (i, n) := ck_cd_ok (List.forall_mem_cons.mpr ⟨kco_32_t0, (List.forall_mem_cons.mpr ⟨kco_32_t1, (fun _ h => by cases h)⟩)⟩)
def kco_33_0 : List (Nat × Instr × Nat) := [(0, .iload_n 1, 1), (1, .aload_n 0, 1), (2, .getfield 137, 3), (5, .invokestatic 60, 3), (8, .aload_n 0, 1), (9, .getfield 22, 3), (12, .iload_n 1, 1), (13, .aaload, 1), (14, .astore_n 3, 1), (15, .iload_n 2, 1), (16, .tableswitch (61) (0) (3) #[32, 40, 48, 53], 32)]
theorem kco_33_t0 : kco_33_0.all (fun q => decide (decode prog_1_method_20_code q.1 = .ok q.2)) = true := by decide +kernel
def kco_33_1 : List (Nat × Instr × Nat) := [(48, .aload_n 3, 1), (49, .getfield 237, 3), (52, .getfield 241, 3), (55, .ireturn, 1), (56, .aload_n 3, 1), (57, .getfield 246, 3), (60, .getfield 241, 3), (63, .ireturn, 1)]
theorem kco_33_t1 : kco_33_1.all (fun q => decide (decode prog_1_method_20_code q.1 = .ok q.2)) = true := by decide +kernel
def kco_33_2 : List (Nat × Instr × Nat) := [(64, .aload_n 3, 1), (65, .getfield 249, 3), (68, .ireturn, 1), (69, .aload_n 3, 1), (70, .getfield 252, 3), (73, .getfield 256, 3), (76, .ireturn, 1), (77, .iconst (-1), 1), (78, .ireturn, 1)]
theorem kco_33_t2 : kco_33_2.all (fun q => decide (decode prog_1_method_20_code q.1 = .ok q.2)) = true := by decide +kernel
def kco_33 : List (List (Nat × Instr × Nat)) := [kco_33_0, kco_33_1, kco_33_2]
theorem kco_33_ok : ∀ pc i n, ck_cdAt kco_33 pc = some (i, n) → decode prog_1_method_20_code pc = .ok (i, n) := ck_cd_ok (List.forall_mem_cons.mpr ⟨kco_33_t0, (List.forall_mem_cons.mpr ⟨kco_33_t1, (List.forall_mem_cons.mpr ⟨kco_33_t2, (fun _ h => by cases h)⟩)⟩)⟩)
def kco_34_0 : List (Nat × Instr × Nat) := [(0, .aload_n 3, 1), (1, .iconst (0), 1), (2, .aload_n 0, 1), (3, .iload_n 1, 1), (4, .iload_n 2, 1), (5, .invokevirtual 73, 3), (8, .i2l, 1), (9, .lastore, 1), (10, .goto (7), 3), (13, .astore 4, 2), (15, .iconst (1), 1), (16, .ireturn, 1), (17, .iconst (0), 1), (18, .ireturn, 1)]
theorem kco_34_t0 : kco_34_0.all (fun q => decide (decode method_19_code q.1 = .ok q.2)) = true := by decide +kernel
def kco_34 : List (List (Nat × Instr × Nat)) := [kco_34_0]
theorem kco_34_ok : ∀ pc i n, ck_cdAt kco_34 pc = some (i, n) → decode method_19_code pc = .ok (i, n) := ck_cd_ok (List.forall_mem_cons.mpr ⟨kco_34_t0, (fun _ h => by cases h)⟩)
def kco_35_0 : List (Nat × Instr × Nat) := [(0, .aload_n 0, 1), (1, .iload_n 1, 1), (2, .aload_n 0, 1), (3, .getfield 304, 3), (6, .invokestatic 276, 3), (9, .ifCond .eq (7), 3), (12, .iconst (0), 1), (13, .goto (4), 3), (16, .iconst (1), 1), (17, .invokevirtual 280, 3), (20, .ifCond .eq (5), 3), (23, .iconst (0), 1), (24, .ireturn, 1), (25, .iload_n 2, 1), (26, .tableswitch (58) (0) (3) #[30, 37, 44, 51], 30)]
theorem kco_35_t0 : kco_35_0.all (fun q => decide (decode prog_13_method_68_code q.1 = .ok q.2)) = true := by decide +kernel
def kco_35_1 : List (Nat × Instr × Nat) := [(56, .aload_n 0, 1), (57, .getfield 76, 3), (60, .iload_n 1, 1), (61, .iaload, 1), (62, .ireturn, 1), (63, .aload_n 0, 1)]
theorem kco_35_t1 : kco_35_1.all (fun q => decide (decode prog_13_method_68_code q.1 = .ok q.2)) = true := by decide +kernel
def kco_35_2 : List (Nat × Instr × Nat) := [(64, .getfield 79, 3), (67, .iload_n 1, 1), (68, .iaload, 1), (69, .ireturn, 1), (70, .aload_n 0, 1), (71, .getfield 82, 3), (74, .iload_n 1, 1), (75, .iaload, 1), (76, .ireturn, 1), (77, .aload_n 0, 1), (78, .getfield 85, 3), (81, .iload_n 1, 1), (82, .iaload, 1), (83, .ireturn, 1), (84, .iconst (-1), 1), (85, .ireturn, 1)]
theorem kco_35_t2 : kco_35_2.all (fun q => decide (decode prog_13_method_68_code q.1 = .ok q.2)) = true := by decide +kernel
def kco_35 : List (List (Nat × Instr × Nat)) := [kco_35_0, kco_35_1, kco_35_2]
theorem kco_35_ok : ∀ pc i n, ck_cdAt kco_35 pc = some (i, n) → decode prog_13_method_68_code pc = .ok (i, n) := ck_cd_ok (List.forall_mem_cons.mpr ⟨kco_35_t0, (List.forall_mem_cons.mpr ⟨kco_35_t1, (List.forall_mem_cons.mpr ⟨kco_35_t2, (fun _ h => by cases h)⟩)⟩)⟩)
def kco_36_0 : List (Nat × Instr × Nat) := [(0, .iload_n 1, 1), (1, .aload_n 0, 1), (2, .getfield 179, 3), (5, .invokestatic 60, 3), (8, .iload_n 2, 1), (9, .aload_n 0, 1), (10, .getfield 28, 3), (13, .iload_n 1, 1), (14, .aaload, 1), (15, .getfield 186, 3), (18, .invokestatic 60, 3), (21, .aload_n 0, 1), (22, .getfield 28, 3), (25, .iload_n 1, 1), (26, .aaload, 1), (27, .getfield 195, 3), (30, .iload_n 2, 1), (31, .iaload, 1)]
theorem kco_36_t0 : kco_36_0.all (fun q => decide (decode prog_1_method_19_code q.1 = .ok q.2)) = true := by decide +kernel
def kco_36_1 : List (Nat × Instr × Nat) := [(32, .ireturn, 1)]
theorem kco_36_t1 : kco_36_1.all (fun q => decide (decode prog_1_method_19_code q.1 = .ok q.2)) = true := by decide +kernel
def kco_36 : List (List (Nat × Instr × Nat)) := [kco_36_0, kco_36_1]
theorem kco_36_ok : ∀ pc i n, ck_cdAt kco_36 pc = some (i, n) → decode prog_1_method_19_code pc = .ok (i, n) := ck_cd_ok (List.forall_mem_cons.mpr ⟨kco_36_t0, (List.forall_mem_cons.mpr ⟨kco_36_t1, (fun _ h => by cases h)⟩)⟩)
def kco_37_0 : List (Nat × Instr × Nat) := [(0, .aload_n 3, 1), (1, .iconst (0), 1), (2, .aload_n 0, 1), (3, .iload_n 1, 1), (4, .iload_n 2, 1), (5, .invokevirtual 70, 3), (8, .i2l, 1), (9, .lastore, 1), (10, .goto (7), 3), (13, .astore 4, 2), (15, .iconst (1), 1), (16, .ireturn, 1), (17, .iconst (0), 1), (18, .ireturn, 1)]
theorem kco_37_t0 : kco_37_0.all (fun q => decide (decode method_18_code q.1 = .ok q.2)) = true := by decide +kernel
def kco_37 : List (List (Nat × Instr × Nat)) := [kco_37_0]
theorem kco_37_ok : ∀ pc i n, ck_cdAt kco_37 pc = some (i, n) → decode method_18_code pc = .ok (i, n) := ck_cd_ok (List.forall_mem_cons.mpr ⟨kco_37_t0, (fun _ h => by cases h)⟩)
end
section
/-! ===== code, read ===== -/
def kco_38_0 : List (Nat × Instr × Nat) := [(0, .iload_n 1, 1), (1, .aload_n 0, 1), (2, .getfield 326, 3), (5, .invokestatic 276, 3), (8, .ifCond .eq (35), 3), (11, .iload_n 2, 1), (12, .iload_n 1, 1), (13, .aload_n 0, 1), (14, .getfield 326, 3), (17, .invokestatic 276, 3), (20, .ifCond .eq (12), 3), (23, .aload_n 0, 1), (24, .getfield 103, 3), (27, .iload_n 1, 1), (28, .iaload, 1), (29, .goto (4), 3)]
theorem kco_38_t0 : kco_38_0.all (fun q => decide (decode prog_13_method_67_code q.1 = .ok q.2)) = true := by decide +kernel
def kco_38_1 : List (Nat × Instr × Nat) := [(32, .iconst (0), 1), (33, .invokestatic 276, 3), (36, .ifCond .eq (7), 3), (39, .iconst (1), 1), (40, .goto (4), 3), (43, .iconst (0), 1), (44, .istore_n 3, 1), (45, .aload_n 0, 1), (46, .iload_n 3, 1), (47, .ifCond .eq (7), 3), (50, .iconst (0), 1), (51, .goto (4), 3), (54, .iconst (1), 1), (55, .invokevirtual 280, 3), (58, .ifCond .eq (7), 3), (61, .iconst (0), 1), (62, .goto (14), 3)]
theorem kco_38_t1 : kco_38_1.all (fun q => decide (decode prog_13_method_67_code q.1 = .ok q.2)) = true := by decide +kernel
def kco_38_2 : List (Nat × Instr × Nat) := [(65, .aload_n 0, 1), (66, .getfield 106, 3), (69, .bipush (84), 2), (71, .iload_n 1, 1), (72, .imul, 1), (73, .iload_n 2, 1), (74, .iadd, 1), (75, .iaload, 1), (76, .ireturn, 1)]
theorem kco_38_t2 : kco_38_2.all (fun q => decide (decode prog_13_method_67_code q.1 = .ok q.2)) = true := by decide +kernel
def kco_38 : List (List (Nat × Instr × Nat)) := [kco_38_0, kco_38_1, kco_38_2]
theorem kco_38_ok : ∀ pc i n, ck_cdAt kco_38 pc = some (i, n) → decode prog_13_method_67_code pc = .ok (i, n) := ck_cd_ok (List.forall_mem_cons.mpr ⟨kco_38_t0, (List.forall_mem_cons.mpr ⟨kco_38_t1, (List.forall_mem_cons.mpr ⟨kco_38_t2, (fun _ h => by cases h)⟩)⟩)⟩)
def kco_39_0 : List (Nat × Instr × Nat) := [(0, .iload_n 1, 1), (1, .aload_n 0, 1), (2, .getfield 179, 3), (5, .invokestatic 60, 3), (8, .aload_n 0, 1), (9, .getfield 28, 3), (12, .iload_n 1, 1), (13, .aaload, 1), (14, .getfield 186, 3), (17, .ireturn, 1)]
theorem kco_39_t0 : kco_39_0.all (fun q => decide (decode prog_1_method_18_code q.1 = .ok q.2)) = true := by decide +kernel
def kco_39 : List (List (Nat × Instr × Nat)) := [kco_39_0]
theorem kco_39_ok : ∀ pc i n, ck_cdAt kco_39 pc = some (i, n) → decode prog_1_method_18_code pc = .ok (i, n) := ck_cd_ok (List.forall_mem_cons.mpr ⟨kco_39_t0, (fun _ h => by cases h)⟩)
def kco_40_0 : List (Nat × Instr × Nat) := [(0, .aload_n 2, 1), (1, .iconst (0), 1), (2, .aload_n 0, 1), (3, .iload_n 1, 1), (4, .invokevirtual 67, 3), (7, .i2l, 1), (8, .lastore, 1), (9, .goto (6), 3), (12, .astore_n 3, 1), (13, .iconst (1), 1), (14, .ireturn, 1), (15, .iconst (0), 1), (16, .ireturn, 1)]
theorem kco_40_t0 : kco_40_0.all (fun q => decide (decode method_17_code q.1 = .ok q.2)) = true := by decide +kernel
def kco_40 : List (List (Nat × Instr × Nat)) := [kco_40_0]
theorem kco_40_ok : ∀ pc i n, ck_cdAt kco_40 pc = some (i, n) → decode method_17_code pc = .ok (i, n) := ck_cd_ok (List.forall_mem_cons.mpr ⟨kco_40_t0, (fun _ h => by cases h)⟩)
def kco_41_0 : List (Nat × Instr × Nat) := [(0, .aload_n 0, 1), (1, .iload_n 1, 1), (2, .aload_n 0, 1), (3, .getfield 326, 3), (6, .invokestatic 276, 3), (9, .ifCond .eq (7), 3), (12, .iconst (0), 1), (13, .goto (4), 3), (16, .iconst (1), 1), (17, .invokevirtual 280, 3), (20, .ifCond .eq (7), 3), (23, .iconst (0), 1), (24, .goto (9), 3), (27, .aload_n 0, 1), (28, .getfield 103, 3), (31, .iload_n 1, 1)]
theorem kco_41_t0 : kco_41_0.all (fun q => decide (decode prog_13_method_66_code q.1 = .ok q.2)) = true := by decide +kernel
def kco_41_1 : List (Nat × Instr × Nat) := [(32, .iaload, 1), (33, .ireturn, 1)]
theorem kco_41_t1 : kco_41_1.all (fun q => decide (decode prog_13_method_66_code q.1 = .ok q.2)) = true := by decide +kernel
def kco_41 : List (List (Nat × Instr × Nat)) := [kco_41_0, kco_41_1]
theorem kco_41_ok : ∀ pc i n, ck_cdAt kco_41 pc = some (i, n) → decode prog_13_method_66_code pc = .ok (i, n) := ck_cd_ok (List.forall_mem_cons.mpr ⟨kco_41_t0, (List.forall_mem_cons.mpr ⟨kco_41_t1, (fun _ h => by cases h)⟩)⟩)
def kco_42_0 : List (Nat × Instr × Nat) := [(0, .aload_n 0, 1), (1, .getfield 179, 3), (4, .ireturn, 1)]
theorem kco_42_t0 : kco_42_0.all (fun q => decide (decode prog_1_method_17_code q.1 = .ok q.2)) = true := by decide +kernel
def kco_42 : List (List (Nat × Instr × Nat)) := [kco_42_0]
theorem kco_42_ok : ∀ pc i n, ck_cdAt kco_42 pc = some (i, n) → decode prog_1_method_17_code pc = .ok (i, n) := ck_cd_ok (List.forall_mem_cons.mpr ⟨kco_42_t0, (fun _ h => by cases h)⟩)
def kco_43_0 : List (Nat × Instr × Nat) := [(0, .aload_n 0, 1), (1, .iconst (0), 1), (2, .putfield 188, 3), (5, .aload_n 0, 1), (6, .getfield 326, 3), (9, .ireturn, 1)]
theorem kco_43_t0 : kco_43_0.all (fun q => decide (decode prog_13_method_65_code q.1 = .ok q.2)) = true := by decide +kernel
def kco_43 : List (List (Nat × Instr × Nat)) := [kco_43_0]
theorem kco_43_ok : ∀ pc i n, ck_cdAt kco_43 pc = some (i, n) → decode prog_13_method_65_code pc = .ok (i, n) := ck_cd_ok (List.forall_mem_cons.mpr ⟨kco_43_t0, (fun _ h => by cases h)⟩)
def kco_44_0 : List (Nat × Instr × Nat) := [(0, .iload_n 1, 1), (1, .aload_n 0, 1), (2, .getfield 137, 3), (5, .invokestatic 60, 3), (8, .iload_n 2, 1), (9, .ifCond .eq (15), 3), (12, .aload_n 0, 1), (13, .getfield 22, 3), (16, .iload_n 1, 1), (17, .aaload, 1), (18, .getfield 231, 3), (21, .goto (12), 3), (24, .aload_n 0, 1), (25, .getfield 22, 3), (28, .iload_n 1, 1), (29, .aaload, 1), (30, .getfield 234, 3)]
theorem kco_44_t0 : kco_44_0.all (fun q => decide (decode prog_1_method_16_code q.1 = .ok q.2)) = true := by decide +kernel
def kco_44_1 : List (Nat × Instr × Nat) := [(33, .ireturn, 1)]
theorem kco_44_t1 : kco_44_1.all (fun q => decide (decode prog_1_method_16_code q.1 = .ok q.2)) = true := by decide +kernel
def kco_44 : List (List (Nat × Instr × Nat)) := [kco_44_0, kco_44_1]
theorem kco_44_ok : ∀ pc i n, ck_cdAt kco_44 pc = some (i, n) → decode prog_1_method_16_code pc = .ok (i, n) := ck_cd_ok (List.forall_mem_cons.mpr ⟨kco_44_t0, (List.forall_mem_cons.mpr ⟨kco_44_t1, (fun _ h => by cases h)⟩)⟩)
def kco_45_0 : List (Nat × Instr × Nat) := [(0, .aload_n 3, 1), (1, .iconst (0), 1), (2, .aload_n 0, 1), (3, .iload_n 1, 1), (4, .iload_n 2, 1), (5, .invokevirtual 63, 3), (8, .i2l, 1), (9, .lastore, 1), (10, .goto (7), 3), (13, .astore 4, 2), (15, .iconst (1), 1), (16, .ireturn, 1), (17, .iconst (0), 1), (18, .ireturn, 1)]
theorem kco_45_t0 : kco_45_0.all (fun q => decide (decode method_16_code q.1 = .ok q.2)) = true := by decide +kernel
def kco_45 : List (List (Nat × Instr × Nat)) := [kco_45_0]
theorem kco_45_ok : ∀ pc i n, ck_cdAt kco_45 pc = some (i, n) → decode method_16_code pc = .ok (i, n) := ck_cd_ok (List.forall_mem_cons.mpr ⟨kco_45_t0, (fun _ h => by cases h)⟩)
def kco_46_0 : List (Nat × Instr × Nat) := [(0, .aload_n 0, 1), (1, .iload_n 1, 1), (2, .aload_n 0, 1), (3, .getfield 304, 3), (6, .invokestatic 276, 3), (9, .ifCond .eq (7), 3), (12, .iconst (0), 1), (13, .goto (4), 3), (16, .iconst (1), 1), (17, .invokevirtual 280, 3), (20, .ifCond .eq (7), 3), (23, .iconst (0), 1), (24, .goto (22), 3), (27, .iload_n 2, 1), (28, .ifCond .eq (12), 3), (31, .aload_n 0, 1)]
theorem kco_46_t0 : kco_46_0.all (fun q => decide (decode prog_13_method_64_code q.1 = .ok q.2)) = true := by decide +kernel
def kco_46_1 : List (Nat × Instr × Nat) := [(32, .getfield 61, 3), (35, .iload_n 1, 1), (36, .iaload, 1), (37, .goto (9), 3), (40, .aload_n 0, 1), (41, .getfield 58, 3), (44, .iload_n 1, 1), (45, .iaload, 1), (46, .ireturn, 1)]
theorem kco_46_t1 : kco_46_1.all (fun q => decide (decode prog_13_method_64_code q.1 = .ok q.2)) = true := by decide +kernel
def kco_46 : List (List (Nat × Instr × Nat)) := [kco_46_0, kco_46_1]
theorem kco_46_ok : ∀ pc i n, ck_cdAt kco_46 pc = some (i, n) → decode prog_13_method_64_code pc = .ok (i, n) := ck_cd_ok (List.forall_mem_cons.mpr ⟨kco_46_t0, (List.forall_mem_cons.mpr ⟨kco_46_t1, (fun _ h => by cases h)⟩)⟩)
def kco_47_0 : List (Nat × Instr × Nat) := [(0, .aload_n 0, 1), (1, .getfield 137, 3), (4, .ireturn, 1)]
theorem kco_47_t0 : kco_47_0.all (fun q => decide (decode prog_1_method_15_code q.1 = .ok q.2)) = true := by decide +kernel
def kco_47 : List (List (Nat × Instr × Nat)) := [kco_47_0]
theorem kco_47_ok : ∀ pc i n, ck_cdAt kco_47 pc = some (i, n) → decode prog_1_method_15_code pc = .ok (i, n) := ck_cd_ok (List.forall_mem_cons.mpr ⟨kco_47_t0, (fun _ h => by cases h)⟩)
def kco_48_0 : List (Nat × Instr × Nat) := [(0, .aload_n 0, 1), (1, .iconst (0), 1), (2, .putfield 188, 3), (5, .aload_n 0, 1), (6, .getfield 304, 3), (9, .ireturn, 1)]
theorem kco_48_t0 : kco_48_0.all (fun q => decide (decode prog_13_method_63_code q.1 = .ok q.2)) = true := by decide +kernel
def kco_48 : List (List (Nat × Instr × Nat)) := [kco_48_0]
theorem kco_48_ok : ∀ pc i n, ck_cdAt kco_48 pc = some (i, n) → decode prog_13_method_63_code pc = .ok (i, n) := ck_cd_ok (List.forall_mem_cons.mpr ⟨kco_48_t0, (fun _ h => by cases h)⟩)
def kco_49_0 : List (Nat × Instr × Nat) := [(0, .iload_n 1, 1), (1, .aload_n 0, 1), (2, .getfield 137, 3), (5, .invokestatic 60, 3), (8, .aload_n 0, 1), (9, .getfield 22, 3), (12, .iload_n 1, 1), (13, .aaload, 1), (14, .getfield 227, 3), (17, .lreturn, 1)]
theorem kco_49_t0 : kco_49_0.all (fun q => decide (decode prog_1_method_14_code q.1 = .ok q.2)) = true := by decide +kernel
def kco_49 : List (List (Nat × Instr × Nat)) := [kco_49_0]
theorem kco_49_ok : ∀ pc i n, ck_cdAt kco_49 pc = some (i, n) → decode prog_1_method_14_code pc = .ok (i, n) := ck_cd_ok (List.forall_mem_cons.mpr ⟨kco_49_t0, (fun _ h => by cases h)⟩)
def kco_50_0 : List (Nat × Instr × Nat) := [(0, .aload_n 2, 1), (1, .iconst (0), 1), (2, .aload_n 0, 1), (3, .iload_n 1, 1), (4, .invokevirtual 59, 3), (7, .lastore, 1), (8, .goto (6), 3), (11, .astore_n 3, 1), (12, .iconst (1), 1), (13, .ireturn, 1), (14, .iconst (0), 1), (15, .ireturn, 1)]
theorem kco_50_t0 : kco_50_0.all (fun q => decide (decode method_15_code q.1 = .ok q.2)) = true := by decide +kernel
def kco_50 : List (List (Nat × Instr × Nat)) := [kco_50_0]
theorem kco_50_ok : ∀ pc i n, ck_cdAt kco_50 pc = some (i, n) → decode method_15_code pc = .ok (i, n) := ck_cd_ok (List.forall_mem_cons.mpr ⟨kco_50_t0, (fun _ h => by cases h)⟩)
def kco_51_0 : List (Nat × Instr × Nat) := [(0, .aload_n 0, 1), (1, .iload_n 1, 1), (2, .aload_n 0, 1), (3, .getfield 304, 3), (6, .invokestatic 276, 3), (9, .ifCond .eq (7), 3), (12, .iconst (0), 1), (13, .goto (4), 3), (16, .iconst (1), 1), (17, .invokevirtual 280, 3), (20, .ifCond .eq (7), 3), (23, .lconst (0), 1), (24, .goto (9), 3), (27, .aload_n 0, 1), (28, .getfield 100, 3), (31, .iload_n 1, 1)]
theorem kco_51_t0 : kco_51_0.all (fun q => decide (decode prog_13_method_62_code q.1 = .ok q.2)) = true := by decide +kernel
def kco_51_1 : List (Nat × Instr × Nat) := [(32, .laload, 1), (33, .lreturn, 1)]
theorem kco_51_t1 : kco_51_1.all (fun q => decide (decode prog_13_method_62_code q.1 = .ok q.2)) = true := by decide +kernel
def kco_51 : List (List (Nat × Instr × Nat)) := [kco_51_0, kco_51_1]
theorem kco_51_ok : ∀ pc i n, ck_cdAt kco_51 pc = some (i, n) → decode prog_13_method_62_code pc = .ok (i, n) := ck_cd_ok (List.forall_mem_cons.mpr ⟨kco_51_t0, (List.forall_mem_cons.mpr ⟨kco_51_t1, (fun _ h => by cases h)⟩)⟩)
def kco_52_0 : List (Nat × Instr × Nat) := [(0, .iload_n 1, 1), (1, .aload_n 0, 1), (2, .getfield 137, 3), (5, .invokestatic 60, 3), (8, .iload_n 2, 1), (9, .aload_n 0, 1), (10, .getfield 179, 3), (13, .invokestatic 60, 3), (16, .aload_n 0, 1), (17, .getfield 47, 3), (20, .aload_n 0, 1), (21, .getfield 22, 3), (24, .iload_n 1, 1), (25, .aaload, 1), (26, .invokevirtual 224, 3), (29, .aload_n 0, 1), (30, .getfield 47, 3)]
theorem kco_52_t0 : kco_52_0.all (fun q => decide (decode prog_1_method_13_code q.1 = .ok q.2)) = true := by decide +kernel
def kco_52_1 : List (Nat × Instr × Nat) := [(33, .aload_n 0, 1), (34, .getfield 28, 3), (37, .iload_n 2, 1), (38, .aaload, 1), (39, .aload_n 0, 1), (40, .getfield 42, 3), (43, .invokevirtual 217, 3), (46, .istore_n 3, 1), (47, .iload_n 3, 1), (48, .ifCond .ne (8), 3), (51, .aload_n 0, 1), (52, .iload_n 1, 1), (53, .invokevirtual 176, 3), (56, .iload_n 3, 1), (57, .ireturn, 1)]
theorem kco_52_t1 : kco_52_1.all (fun q => decide (decode prog_1_method_13_code q.1 = .ok q.2)) = true := by decide +kernel
def kco_52 : List (List (Nat × Instr × Nat)) := [kco_52_0, kco_52_1]
theorem kco_52_ok : ∀ pc i n, ck_cdAt kco_52 pc = some (i, n) → decode prog_1_method_13_code pc = .ok (i, n) := ck_cd_ok (List.forall_mem_cons.mpr ⟨kco_52_t0, (List.forall_mem_cons.mpr ⟨kco_52_t1, (fun _ h => by cases h)⟩)⟩)
def kco_53_0 : List (Nat × Instr × Nat) := [(0, .aload_n 3, 1), (1, .iconst (0), 1), (2, .aload_n 0, 1), (3, .iload_n 1, 1), (4, .iload_n 2, 1), (5, .invokevirtual 56, 3), (8, .i2l, 1), (9, .lastore, 1), (10, .goto (7), 3), (13, .astore 4, 2), (15, .iconst (1), 1), (16, .ireturn, 1), (17, .iconst (0), 1), (18, .ireturn, 1)]
theorem kco_53_t0 : kco_53_0.all (fun q => decide (decode method_14_code q.1 = .ok q.2)) = true := by decide +kernel
def kco_53 : List (List (Nat × Instr × Nat)) := [kco_53_0]
theorem kco_53_ok : ∀ pc i n, ck_cdAt kco_53 pc = some (i, n) → decode method_14_code pc = .ok (i, n) := ck_cd_ok (List.forall_mem_cons.mpr ⟨kco_53_t0, (fun _ h => by cases h)⟩)
def kco_54_0 : List (Nat × Instr × Nat) := [(0, .aload_n 0, 1), (1, .iload_n 1, 1), (2, .aload_n 0, 1), (3, .getfield 304, 3), (6, .invokestatic 276, 3), (9, .ifCond .eq (18), 3), (12, .iload_n 2, 1), (13, .aload_n 0, 1), (14, .getfield 326, 3), (17, .invokestatic 276, 3), (20, .ifCond .eq (7), 3), (23, .iconst (0), 1), (24, .goto (4), 3), (27, .iconst (1), 1), (28, .invokevirtual 280, 3), (31, .ifCond .eq (5), 3)]
theorem kco_54_t0 : kco_54_0.all (fun q => decide (decode prog_13_method_59_code q.1 = .ok q.2)) = true := by decide +kernel
def kco_54_1 : List (Nat × Instr × Nat) := [(34, .iconst (0), 1), (35, .ireturn, 1), (36, .aload_n 0, 1), (37, .iload_n 1, 1), (38, .bipush (8), 2), (40, .invokevirtual 357, 3), (43, .aload_n 0, 1), (44, .iload_n 2, 1), (45, .invokevirtual 360, 3), (48, .istore_n 3, 1), (49, .iload_n 3, 1), (50, .ifCond .ne (10), 3), (53, .aload_n 0, 1), (54, .bipush (8), 2), (56, .iload_n 1, 1), (57, .invokevirtual 357, 3), (60, .iload_n 3, 1), (61, .ireturn, 1)]
theorem kco_54_t1 : kco_54_1.all (fun q => decide (decode prog_13_method_59_code q.1 = .ok q.2)) = true := by decide +kernel
def kco_54 : List (List (Nat × Instr × Nat)) := [kco_54_0, kco_54_1]
theorem kco_54_ok : ∀ pc i n, ck_cdAt kco_54 pc = some (i, n) → decode prog_13_method_59_code pc = .ok (i, n) := ck_cd_ok (List.forall_mem_cons.mpr ⟨kco_54_t0, (List.forall_mem_cons.mpr ⟨kco_54_t1, (fun _ h => by cases h)⟩)⟩)
def kco_55_0 : List (Nat × Instr × Nat) := [(0, .iload_n 1, 1), (1, .iconst (4), 1), (2, .invokestatic 60, 3), (5, .iload_n 2, 1), (6, .aload_n 0, 1), (7, .getfield 179, 3), (10, .invokestatic 60, 3), (13, .aload_n 0, 1), (14, .getfield 137, 3), (17, .bipush (8), 2), (19, .invokestatic 112, 3), (22, .aload_n 0, 1), (23, .getfield 28, 3), (26, .iload_n 2, 1), (27, .aaload, 1), (28, .astore_n 3, 1), (29, .aload_n 0, 1), (30, .iload_n 1, 1), (31, .aload_n 3, 1)]
theorem kco_55_t0 : kco_55_0.all (fun q => decide (decode prog_1_method_12_code q.1 = .ok q.2)) = true := by decide +kernel
def kco_55_1 : List (Nat × Instr × Nat) := [(32, .invokevirtual 198, 3), (35, .ifCond .ne (6), 3), (38, .bipush (-3), 2), (40, .ireturn, 1), (41, .aload_n 3, 1), (42, .invokevirtual 202, 3), (45, .istore 4, 2), (47, .aload_n 3, 1), (48, .invokevirtual 205, 3), (51, .istore 5, 2), (53, .aload_n 0, 1), (54, .getfield 47, 3), (57, .iload_n 1, 1), (58, .iload 4, 2), (60, .invokevirtual 143, 3), (63, .aload_n 0, 1)]
theorem kco_55_t1 : kco_55_1.all (fun q => decide (decode prog_1_method_12_code q.1 = .ok q.2)) = true := by decide +kernel
def kco_55_2 : List (Nat × Instr × Nat) := [(64, .iload 4, 2), (66, .iload_n 1, 1), (67, .invokevirtual 146, 3), (70, .aload_n 0, 1), (71, .aload_n 0, 1), (72, .getfield 16, 3), (75, .iload 4, 2), (77, .aaload, 1), (78, .aload_n 0, 1), (79, .getfield 16, 3), (82, .iload_n 1, 1), (83, .aaload, 1), (84, .aload_n 3, 1), (85, .invokevirtual 208, 3), (88, .aload_n 0, 1), (89, .getfield 47, 3), (92, .getfield 212, 3), (95, .aload_n 0, 1)]
theorem kco_55_t2 : kco_55_2.all (fun q => decide (decode prog_1_method_12_code q.1 = .ok q.2)) = true := by decide +kernel
def kco_55_3 : List (Nat × Instr × Nat) := [(96, .getfield 16, 3), (99, .iload_n 1, 1), (100, .aaload, 1), (101, .getfield 153, 3), (104, .invokevirtual 215, 3), (107, .aload_n 0, 1), (108, .getfield 47, 3), (111, .aload_n 3, 1), (112, .aload_n 0, 1), (113, .getfield 42, 3), (116, .invokevirtual 217, 3), (119, .istore 6, 2), (121, .iload 6, 2), (123, .ifCond .eq (6), 3), (126, .iload 6, 2)]
theorem kco_55_t3 : kco_55_3.all (fun q => decide (decode prog_1_method_12_code q.1 = .ok q.2)) = true := by decide +kernel
def kco_55_4 : List (Nat × Instr × Nat) := [(128, .ireturn, 1), (129, .iload 5, 2), (131, .sipush (255), 3), (134, .if_icmp .eq (14), 3), (137, .aload_n 0, 1), (138, .getfield 16, 3), (141, .iload_n 1, 1), (142, .aaload, 1), (143, .iload 5, 2), (145, .invokevirtual 221, 3), (148, .aload_n 0, 1), (149, .aload_n 0, 1), (150, .getfield 137, 3), (153, .invokevirtual 176, 3), (156, .aload_n 0, 1), (157, .getfield 137, 3)]
theorem kco_55_t4 : kco_55_4.all (fun q => decide (decode prog_1_method_12_code q.1 = .ok q.2)) = true := by decide +kernel
def kco_55_5 : List (Nat × Instr × Nat) := [(160, .iconst (1), 1), (161, .isub, 1), (162, .ireturn, 1)]
theorem kco_55_t5 : kco_55_5.all (fun q => decide (decode prog_1_method_12_code q.1 = .ok q.2)) = true := by decide +kernel
def kco_55 : List (List (Nat × Instr × Nat)) := [kco_55_0, kco_55_1, kco_55_2, kco_55_3, kco_55_4, kco_55_5]
theorem kco_55_ok : ∀ pc i n, ck_cdAt kco_55 pc = some (i, n) → decode prog_1_method_12_code pc = .ok (i, n) := ck_cd_ok (List.forall_mem_cons.mpr ⟨kco_55_t0, (List.forall_mem_cons.mpr ⟨kco_55_t1, (List.forall_mem_cons.mpr ⟨kco_55_t2, (List.forall_mem_cons.mpr ⟨kco_55_t3, (List.forall_mem_cons.mpr ⟨kco_55_t4, (List.forall_mem_cons.mpr ⟨kco_55_t5, (fun _ h => by cases h)⟩)⟩)⟩)⟩)⟩)⟩)
def kco_56_0 : List (Nat × Instr × Nat) := [(0, .aload_n 3, 1), (1, .iconst (0), 1), (2, .aload_n 0, 1), (3, .iload_n 1, 1), (4, .iload_n 2, 1), (5, .invokevirtual 53, 3), (8, .i2l, 1), (9, .lastore, 1), (10, .goto (11), 3), (13, .astore 4, 2), (15, .iconst (1), 1), (16, .ireturn, 1), (17, .astore 4, 2), (19, .iconst (2), 1), (20, .ireturn, 1), (21, .iconst (0), 1), (22, .ireturn, 1)]
theorem kco_56_t0 : kco_56_0.all (fun q => decide (decode method_13_code q.1 = .ok q.2)) = true := by decide +kernel
def kco_56 : List (List (Nat × Instr × Nat)) := [kco_56_0]
theorem kco_56_ok : ∀ pc i n, ck_cdAt kco_56 pc = some (i, n) → decode method_13_code pc = .ok (i, n) := ck_cd_ok (List.forall_mem_cons.mpr ⟨kco_56_t0, (fun _ h => by cases h)⟩)
def kco_57_0 : List (Nat × Instr × Nat) := [(0, .aload_n 0, 1), (1, .iload_n 1, 1), (2, .iconst (4), 1), (3, .invokestatic 276, 3), (6, .ifCond .eq (14), 3), (9, .iload_n 2, 1), (10, .aload_n 0, 1), (11, .getfield 326, 3), (14, .invokestatic 276, 3), (17, .ifCond .ne (7), 3), (20, .iconst (1), 1), (21, .goto (17), 3), (24, .aload_n 0, 1), (25, .getfield 304, 3), (28, .bipush (8), 2), (30, .if_icmp .ne (7), 3)]
theorem kco_57_t0 : kco_57_0.all (fun q => decide (decode prog_13_method_61_code q.1 = .ok q.2)) = true := by decide +kernel
def kco_57_1 : List (Nat × Instr × Nat) := [(33, .iconst (2), 1), (34, .goto (4), 3), (37, .iconst (0), 1), (38, .invokevirtual 280, 3), (41, .ifCond .eq (5), 3), (44, .iconst (0), 1), (45, .ireturn, 1), (46, .aload_n 0, 1), (47, .iload_n 1, 1), (48, .iload_n 2, 1), (49, .invokevirtual 363, 3), (52, .ifCond .ne (6), 3), (55, .bipush (-3), 2), (57, .ireturn, 1), (58, .aload_n 0, 1), (59, .getfield 106, 3), (62, .bipush (84), 2)]
theorem kco_57_t1 : kco_57_1.all (fun q => decide (decode prog_13_method_61_code q.1 = .ok q.2)) = true := by decide +kernel
def kco_57_2 : List (Nat × Instr × Nat) := [(64, .iload_n 2, 1), (65, .imul, 1), (66, .bipush (50), 2), (68, .iadd, 1), (69, .iaload, 1), (70, .istore_n 3, 1), (71, .aload_n 0, 1), (72, .getfield 106, 3), (75, .bipush (84), 2), (77, .iload_n 2, 1), (78, .imul, 1), (79, .bipush (51), 2), (81, .iadd, 1), (82, .iaload, 1), (83, .istore 4, 2), (85, .aload_n 0, 1), (86, .bipush (8), 2), (88, .iload_n 1, 1), (89, .iload_n 3, 1), (90, .iconst (0), 1), (91, .invokevirtual 307, 3), (94, .aload_n 0, 1), (95, .iload_n 3, 1)]
theorem kco_57_t2 : kco_57_2.all (fun q => decide (decode prog_13_method_61_code q.1 = .ok q.2)) = true := by decide +kernel
def kco_57_3 : List (Nat × Instr × Nat) := [(96, .invokevirtual 311, 3), (99, .istore 5, 2), (101, .iconst (0), 1), (102, .istore 6, 2), (104, .iload 6, 2), (106, .bipush (32), 2), (108, .if_icmp .ge (35), 3), (111, .aload_n 0, 1), (112, .getfield 7, 3), (115, .sipush (512), 3), (118, .iload 6, 2), (120, .iadd, 1), (121, .aload_n 0, 1), (122, .getfield 106, 3), (125, .bipush (84), 2), (127, .iload_n 2, 1)]
theorem kco_57_t3 : kco_57_3.all (fun q => decide (decode prog_13_method_61_code q.1 = .ok q.2)) = true := by decide +kernel
def kco_57_4 : List (Nat × Instr × Nat) := [(128, .imul, 1), (129, .bipush (52), 2), (131, .iadd, 1), (132, .iload 6, 2), (134, .iadd, 1), (135, .iaload, 1), (136, .iastore, 1), (137, .iinc 6 (1), 3), (140, .goto (-36), 3), (143, .aload_n 0, 1), (144, .iconst (4), 1), (145, .iload_n 1, 1), (146, .iadd, 1), (147, .iload 5, 2), (149, .sipush (320), 3), (152, .invokevirtual 298, 3), (155, .aload_n 0, 1), (156, .iload_n 1, 1), (157, .sipush (512), 3)]
theorem kco_57_t4 : kco_57_4.all (fun q => decide (decode prog_13_method_61_code q.1 = .ok q.2)) = true := by decide +kernel
def kco_57_5 : List (Nat × Instr × Nat) := [(160, .sipush (352), 3), (163, .invokevirtual 298, 3), (166, .aload_n 0, 1), (167, .iconst (4), 1), (168, .iload_n 1, 1), (169, .iadd, 1), (170, .sipush (512), 3), (173, .sipush (384), 3), (176, .invokevirtual 298, 3), (179, .iload 4, 2), (181, .sipush (255), 3), (184, .if_icmp .ge (25), 3), (187, .aload_n 0, 1), (188, .aload_n 0, 1), (189, .getfield 49, 3)]
theorem kco_57_t5 : kco_57_5.all (fun q => decide (decode prog_13_method_61_code q.1 = .ok q.2)) = true := by decide +kernel
def kco_57_6 : List (Nat × Instr × Nat) := [(192, .bipush (8), 2), (194, .iload_n 1, 1), (195, .imul, 1), (196, .iload 4, 2), (198, .iadd, 1), (199, .iaload, 1), (200, .sipush (512), 3), (203, .sipush (416), 3), (206, .invokevirtual 298, 3), (209, .aload_n 0, 1), (210, .iload 4, 2), (212, .sipush (255), 3), (215, .if_icmp .ge (7), 3), (218, .iconst (4), 1), (219, .goto (4), 3), (222, .iconst (3), 1), (223, .bipush (8), 2)]
theorem kco_57_t6 : kco_57_6.all (fun q => decide (decode prog_13_method_61_code q.1 = .ok q.2)) = true := by decide +kernel
def kco_57_7 : List (Nat × Instr × Nat) := [(225, .invokestatic 291, 3), (228, .iconst (0), 1), (229, .iadd, 1), (230, .invokevirtual 314, 3), (233, .aload_n 0, 1), (234, .getfield 91, 3), (237, .bipush (8), 2), (239, .iconst (4), 1), (240, .iload_n 1, 1), (241, .iadd, 1), (242, .iastore, 1), (243, .aload_n 0, 1), (244, .iload_n 2, 1), (245, .invokevirtual 360, 3), (248, .istore 6, 2), (250, .iload 6, 2), (252, .ifCond .eq (6), 3), (255, .iload 6, 2)]
theorem kco_57_t7 : kco_57_7.all (fun q => decide (decode prog_13_method_61_code q.1 = .ok q.2)) = true := by decide +kernel
def kco_57_8 : List (Nat × Instr × Nat) := [(257, .ireturn, 1), (258, .iload 4, 2), (260, .sipush (255), 3), (263, .if_icmp .ge (29), 3), (266, .aload_n 0, 1), (267, .getfield 52, 3), (270, .bipush (8), 2), (272, .iload_n 1, 1), (273, .imul, 1), (274, .iload 4, 2), (276, .iadd, 1), (277, .iconst (0), 1), (278, .bastore, 1), (279, .aload_n 0, 1), (280, .getfield 55, 3), (283, .bipush (8), 2), (285, .iload_n 1, 1), (286, .imul, 1), (287, .iload 4, 2)]
theorem kco_57_t8 : kco_57_8.all (fun q => decide (decode prog_13_method_61_code q.1 = .ok q.2)) = true := by decide +kernel
def kco_57_9 : List (Nat × Instr × Nat) := [(289, .iadd, 1), (290, .iconst (0), 1), (291, .bastore, 1), (292, .aload_n 0, 1), (293, .bipush (8), 2), (295, .aload_n 0, 1), (296, .getfield 304, 3), (299, .invokevirtual 357, 3), (302, .aload_n 0, 1), (303, .dup, 1), (304, .getfield 304, 3), (307, .iconst (1), 1), (308, .iadd, 1), (309, .putfield 304, 3), (312, .aload_n 0, 1), (313, .getfield 304, 3), (316, .iconst (1), 1), (317, .isub, 1), (318, .ireturn, 1)]
theorem kco_57_t9 : kco_57_9.all (fun q => decide (decode prog_13_method_61_code q.1 = .ok q.2)) = true := by decide +kernel
def kco_57 : List (List (Nat × Instr × Nat)) := [kco_57_0, kco_57_1, kco_57_2, kco_57_3, kco_57_4, kco_57_5, kco_57_6, kco_57_7, kco_57_8, kco_57_9]
theorem kco_57_ok : ∀ pc i n, ck_cdAt kco_57 pc = some (i, n) → decode prog_13_method_61_code pc = .ok (i, n) := ck_cd_ok (List.forall_mem_cons.mpr ⟨kco_57_t0, (List.forall_mem_cons.mpr ⟨kco_57_t1, (List.forall_mem_cons.mpr ⟨kco_57_t2, (List.forall_mem_cons.mpr ⟨kco_57_t3, (List.forall_mem_cons.mpr ⟨kco_57_t4, (List.forall_mem_cons.mpr ⟨kco_57_t5, (List.forall_mem_cons.mpr ⟨kco_57_t6, (List.forall_mem_cons.mpr ⟨kco_57_t7, (List.forall_mem_cons.mpr ⟨kco_57_t8, (List.forall_mem_cons.mpr ⟨kco_57_t9, (fun _ h => by cases h)⟩)⟩)⟩)⟩)⟩)⟩)⟩)⟩)⟩)⟩)
end
section
/-! ===== code, read ===== -/
def kco_58_0 : List (Nat × Instr × Nat) := [(0, .iload_n 1, 1), (1, .aload_n 0, 1), (2, .getfield 179, 3), (5, .invokestatic 60, 3), (8, .iload_n 2, 1), (9, .aload_n 0, 1), (10, .getfield 28, 3), (13, .iload_n 1, 1), (14, .aaload, 1), (15, .getfield 186, 3), (18, .invokestatic 60, 3), (21, .iload_n 3, 1), (22, .ifCond .lt (10), 3), (25, .iload_n 3, 1), (26, .sipush (255), 3), (29, .if_icmp .le (13), 3)]
theorem kco_58_t0 : kco_58_0.all (fun q => decide (decode prog_1_method_11_code q.1 = .ok q.2)) = true := by decide +kernel
def kco_58_1 : List (Nat × Instr × Nat) := [(32, .new 130, 3), (35, .dup, 1), (36, .ldc 189, 2), (38, .invokespecial 134, 3), (41, .athrow, 1), (42, .aload_n 0, 1), (43, .getfield 179, 3), (46, .bipush (48), 2), (48, .invokestatic 112, 3), (51, .aload_n 0, 1), (52, .getfield 28, 3), (55, .aload_n 0, 1), (56, .getfield 179, 3), (59, .aaload, 1), (60, .aload_n 0, 1), (61, .getfield 28, 3)]
theorem kco_58_t1 : kco_58_1.all (fun q => decide (decode prog_1_method_11_code q.1 = .ok q.2)) = true := by decide +kernel
def kco_58_2 : List (Nat × Instr × Nat) := [(64, .iload_n 1, 1), (65, .aaload, 1), (66, .invokevirtual 191, 3), (69, .aload_n 0, 1), (70, .getfield 28, 3), (73, .aload_n 0, 1), (74, .getfield 179, 3), (77, .aaload, 1), (78, .getfield 195, 3), (81, .iload_n 2, 1), (82, .iload_n 3, 1), (83, .iastore, 1), (84, .aload_n 0, 1), (85, .dup, 1), (86, .getfield 179, 3), (89, .iconst (1), 1), (90, .iadd, 1), (91, .putfield 179, 3), (94, .aload_n 0, 1), (95, .getfield 179, 3)]
theorem kco_58_t2 : kco_58_2.all (fun q => decide (decode prog_1_method_11_code q.1 = .ok q.2)) = true := by decide +kernel
def kco_58_3 : List (Nat × Instr × Nat) := [(98, .iconst (1), 1), (99, .isub, 1), (100, .ireturn, 1)]
theorem kco_58_t3 : kco_58_3.all (fun q => decide (decode prog_1_method_11_code q.1 = .ok q.2)) = true := by decide +kernel
def kco_58 : List (List (Nat × Instr × Nat)) := [kco_58_0, kco_58_1, kco_58_2, kco_58_3]
theorem kco_58_ok : ∀ pc i n, ck_cdAt kco_58 pc = some (i, n) → decode prog_1_method_11_code pc = .ok (i, n) := ck_cd_ok (List.forall_mem_cons.mpr ⟨kco_58_t0, (List.forall_mem_cons.mpr ⟨kco_58_t1, (List.forall_mem_cons.mpr ⟨kco_58_t2, (List.forall_mem_cons.mpr ⟨kco_58_t3, (fun _ h => by cases h)⟩)⟩)⟩)⟩)
def kco_59_0 : List (Nat × Instr × Nat) := [(0, .aload 4, 2), (2, .iconst (0), 1), (3, .aload_n 0, 1), (4, .iload_n 1, 1), (5, .iload_n 2, 1), (6, .iload_n 3, 1), (7, .invokevirtual 49, 3), (10, .i2l, 1), (11, .lastore, 1), (12, .goto (15), 3), (15, .astore 5, 2), (17, .iconst (1), 1), (18, .ireturn, 1), (19, .astore 5, 2), (21, .iconst (2), 1), (22, .ireturn, 1), (23, .astore 5, 2), (25, .iconst (3), 1), (26, .ireturn, 1), (27, .iconst (0), 1), (28, .ireturn, 1)]
theorem kco_59_t0 : kco_59_0.all (fun q => decide (decode method_12_code q.1 = .ok q.2)) = true := by decide +kernel
def kco_59 : List (List (Nat × Instr × Nat)) := [kco_59_0]
theorem kco_59_ok : ∀ pc i n, ck_cdAt kco_59 pc = some (i, n) → decode method_12_code pc = .ok (i, n) := ck_cd_ok (List.forall_mem_cons.mpr ⟨kco_59_t0, (fun _ h => by cases h)⟩)
def kco_60_0 : List (Nat × Instr × Nat) := [(0, .iload_n 1, 1), (1, .aload_n 0, 1), (2, .getfield 326, 3), (5, .invokestatic 276, 3), (8, .ifCond .eq (35), 3), (11, .iload_n 2, 1), (12, .iload_n 1, 1), (13, .aload_n 0, 1), (14, .getfield 326, 3), (17, .invokestatic 276, 3), (20, .ifCond .eq (12), 3), (23, .aload_n 0, 1), (24, .getfield 103, 3), (27, .iload_n 1, 1), (28, .iaload, 1), (29, .goto (4), 3)]
theorem kco_60_t0 : kco_60_0.all (fun q => decide (decode prog_13_method_52_code q.1 = .ok q.2)) = true := by decide +kernel
def kco_60_1 : List (Nat × Instr × Nat) := [(32, .iconst (0), 1), (33, .invokestatic 276, 3), (36, .ifCond .eq (7), 3), (39, .iconst (1), 1), (40, .goto (4), 3), (43, .iconst (0), 1), (44, .istore 4, 2), (46, .aload_n 0, 1), (47, .iload 4, 2), (49, .ifCond .ne (7), 3), (52, .iconst (1), 1), (53, .goto (31), 3), (56, .iload_n 3, 1), (57, .sipush (256), 3), (60, .invokestatic 276, 3), (63, .ifCond .ne (7), 3)]
theorem kco_60_t1 : kco_60_1.all (fun q => decide (decode prog_13_method_52_code q.1 = .ok q.2)) = true := by decide +kernel
def kco_60_2 : List (Nat × Instr × Nat) := [(66, .iconst (2), 1), (67, .goto (17), 3), (70, .aload_n 0, 1), (71, .getfield 326, 3), (74, .bipush (48), 2), (76, .if_icmp .ne (7), 3), (79, .iconst (3), 1), (80, .goto (4), 3), (83, .iconst (0), 1), (84, .invokevirtual 280, 3), (87, .ifCond .eq (5), 3), (90, .iconst (0), 1), (91, .ireturn, 1), (92, .iconst (0), 1), (93, .istore 5, 2), (95, .iload 5, 2)]
theorem kco_60_t2 : kco_60_2.all (fun q => decide (decode prog_13_method_52_code q.1 = .ok q.2)) = true := by decide +kernel
def kco_60_3 : List (Nat × Instr × Nat) := [(97, .bipush (84), 2), (99, .if_icmp .ge (46), 3), (102, .aload_n 0, 1), (103, .getfield 106, 3), (106, .bipush (84), 2), (108, .aload_n 0, 1), (109, .getfield 326, 3), (112, .imul, 1), (113, .iload 5, 2), (115, .iadd, 1), (116, .iload 5, 2), (118, .iload_n 2, 1), (119, .if_icmp .ne (7), 3), (122, .iload_n 3, 1), (123, .goto (15), 3), (126, .aload_n 0, 1), (127, .getfield 106, 3)]
theorem kco_60_t3 : kco_60_3.all (fun q => decide (decode prog_13_method_52_code q.1 = .ok q.2)) = true := by decide +kernel
def kco_60_4 : List (Nat × Instr × Nat) := [(130, .bipush (84), 2), (132, .iload_n 1, 1), (133, .imul, 1), (134, .iload 5, 2), (136, .iadd, 1), (137, .iaload, 1), (138, .iastore, 1), (139, .iinc 5 (1), 3), (142, .goto (-47), 3), (145, .aload_n 0, 1), (146, .getfield 103, 3), (149, .aload_n 0, 1), (150, .getfield 326, 3), (153, .aload_n 0, 1), (154, .getfield 103, 3), (157, .iload_n 1, 1), (158, .iaload, 1), (159, .iastore, 1)]
theorem kco_60_t4 : kco_60_4.all (fun q => decide (decode prog_13_method_52_code q.1 = .ok q.2)) = true := by decide +kernel
def kco_60_5 : List (Nat × Instr × Nat) := [(160, .aload_n 0, 1), (161, .dup, 1), (162, .getfield 326, 3), (165, .iconst (1), 1), (166, .iadd, 1), (167, .putfield 326, 3), (170, .aload_n 0, 1), (171, .getfield 326, 3), (174, .iconst (1), 1), (175, .isub, 1), (176, .ireturn, 1)]
theorem kco_60_t5 : kco_60_5.all (fun q => decide (decode prog_13_method_52_code q.1 = .ok q.2)) = true := by decide +kernel
def kco_60 : List (List (Nat × Instr × Nat)) := [kco_60_0, kco_60_1, kco_60_2, kco_60_3, kco_60_4, kco_60_5]
theorem kco_60_ok : ∀ pc i n, ck_cdAt kco_60 pc = some (i, n) → decode prog_13_method_52_code pc = .ok (i, n) := ck_cd_ok (List.forall_mem_cons.mpr ⟨kco_60_t0, (List.forall_mem_cons.mpr ⟨kco_60_t1, (List.forall_mem_cons.mpr ⟨kco_60_t2, (List.forall_mem_cons.mpr ⟨kco_60_t3, (List.forall_mem_cons.mpr ⟨kco_60_t4, (List.forall_mem_cons.mpr ⟨kco_60_t5, (fun _ h => by cases h)⟩)⟩)⟩)⟩)⟩)⟩)
def kco_61_0 : List (Nat × Instr × Nat) := [(0, .iload_n 1, 1), (1, .aload_n 0, 1), (2, .getfield 137, 3), (5, .invokestatic 60, 3), (8, .aload_n 0, 1), (9, .getfield 179, 3), (12, .bipush (48), 2), (14, .invokestatic 112, 3), (17, .aload_n 0, 1), (18, .getfield 22, 3), (21, .iload_n 1, 1), (22, .aaload, 1), (23, .aload_n 0, 1), (24, .getfield 28, 3), (27, .aload_n 0, 1), (28, .getfield 179, 3), (31, .aaload, 1)]
theorem kco_61_t0 : kco_61_0.all (fun q => decide (decode prog_1_method_10_code q.1 = .ok q.2)) = true := by decide +kernel
def kco_61_1 : List (Nat × Instr × Nat) := [(32, .lload_n 2, 1), (33, .aload_n 0, 1), (34, .getfield 42, 3), (37, .invokevirtual 182, 3), (40, .aload_n 0, 1), (41, .dup, 1), (42, .getfield 179, 3), (45, .iconst (1), 1), (46, .iadd, 1), (47, .putfield 179, 3), (50, .aload_n 0, 1), (51, .getfield 179, 3), (54, .iconst (1), 1), (55, .isub, 1), (56, .ireturn, 1)]
theorem kco_61_t1 : kco_61_1.all (fun q => decide (decode prog_1_method_10_code q.1 = .ok q.2)) = true := by decide +kernel
def kco_61 : List (List (Nat × Instr × Nat)) := [kco_61_0, kco_61_1]
theorem kco_61_ok : ∀ pc i n, ck_cdAt kco_61 pc = some (i, n) → decode prog_1_method_10_code pc = .ok (i, n) := ck_cd_ok (List.forall_mem_cons.mpr ⟨kco_61_t0, (List.forall_mem_cons.mpr ⟨kco_61_t1, (fun _ h => by cases h)⟩)⟩)
def kco_62_0 : List (Nat × Instr × Nat) := [(0, .aload 4, 2), (2, .iconst (0), 1), (3, .aload_n 0, 1), (4, .iload_n 1, 1), (5, .lload_n 2, 1), (6, .invokevirtual 45, 3), (9, .i2l, 1), (10, .lastore, 1), (11, .goto (11), 3), (14, .astore 5, 2), (16, .iconst (1), 1), (17, .ireturn, 1), (18, .astore 5, 2), (20, .iconst (2), 1), (21, .ireturn, 1), (22, .iconst (0), 1), (23, .ireturn, 1)]
theorem kco_62_t0 : kco_62_0.all (fun q => decide (decode method_11_code q.1 = .ok q.2)) = true := by decide +kernel
def kco_62 : List (List (Nat × Instr × Nat)) := [kco_62_0]
theorem kco_62_ok : ∀ pc i n, ck_cdAt kco_62 pc = some (i, n) → decode method_11_code pc = .ok (i, n) := ck_cd_ok (List.forall_mem_cons.mpr ⟨kco_62_t0, (fun _ h => by cases h)⟩)
def kco_63_0 : List (Nat × Instr × Nat) := [(0, .aload_n 0, 1), (1, .iload_n 1, 1), (2, .aload_n 0, 1), (3, .getfield 304, 3), (6, .invokestatic 276, 3), (9, .ifCond .ne (7), 3), (12, .iconst (1), 1), (13, .goto (17), 3), (16, .aload_n 0, 1), (17, .getfield 326, 3), (20, .bipush (48), 2), (22, .if_icmp .ne (7), 3), (25, .iconst (2), 1), (26, .goto (4), 3), (29, .iconst (0), 1), (30, .invokevirtual 280, 3)]
theorem kco_63_t0 : kco_63_0.all (fun q => decide (decode prog_13_method_51_code q.1 = .ok q.2)) = true := by decide +kernel
def kco_63_1 : List (Nat × Instr × Nat) := [(33, .ifCond .eq (5), 3), (36, .iconst (0), 1), (37, .ireturn, 1), (38, .aload_n 0, 1), (39, .aload_n 0, 1), (40, .getfield 58, 3), (43, .iload_n 1, 1), (44, .iaload, 1), (45, .invokevirtual 311, 3), (48, .pop, 1), (49, .aload_n 0, 1), (50, .aload_n 0, 1), (51, .getfield 61, 3), (54, .iload_n 1, 1), (55, .iaload, 1), (56, .invokevirtual 311, 3), (59, .pop, 1), (60, .aload_n 0, 1), (61, .getfield 326, 3)]
theorem kco_63_t1 : kco_63_1.all (fun q => decide (decode prog_13_method_51_code q.1 = .ok q.2)) = true := by decide +kernel
def kco_63_2 : List (Nat × Instr × Nat) := [(64, .istore 4, 2), (66, .bipush (84), 2), (68, .iload 4, 2), (70, .imul, 1), (71, .istore 5, 2), (73, .iload_n 1, 1), (74, .invokestatic 291, 3), (77, .istore 6, 2), (79, .aload_n 0, 1), (80, .iload 6, 2), (82, .bipush (32), 2), (84, .iadd, 1), (85, .sipush (288), 3), (88, .invokevirtual 329, 3), (91, .iconst (0), 1), (92, .istore 7, 2), (94, .iload 7, 2)]
theorem kco_63_t2 : kco_63_2.all (fun q => decide (decode prog_13_method_51_code q.1 = .ok q.2)) = true := by decide +kernel
def kco_63_3 : List (Nat × Instr × Nat) := [(96, .bipush (32), 2), (98, .if_icmp .ge (32), 3), (101, .aload_n 0, 1), (102, .getfield 106, 3), (105, .iload 5, 2), (107, .iload 7, 2), (109, .iadd, 1), (110, .aload_n 0, 1), (111, .getfield 7, 3), (114, .iload 6, 2), (116, .bipush (96), 2), (118, .iadd, 1), (119, .iload 7, 2), (121, .iadd, 1), (122, .iaload, 1), (123, .iastore, 1), (124, .iinc 7 (1), 3), (127, .goto (-33), 3)]
theorem kco_63_t3 : kco_63_3.all (fun q => decide (decode prog_13_method_51_code q.1 = .ok q.2)) = true := by decide +kernel
def kco_63_4 : List (Nat × Instr × Nat) := [(130, .aload_n 0, 1), (131, .getfield 106, 3), (134, .iload 5, 2), (136, .bipush (32), 2), (138, .iadd, 1), (139, .aload_n 0, 1), (140, .getfield 82, 3), (143, .iload_n 1, 1), (144, .iaload, 1), (145, .sipush (255), 3), (148, .iand, 1), (149, .iastore, 1), (150, .aload_n 0, 1), (151, .getfield 106, 3), (154, .iload 5, 2), (156, .bipush (33), 2), (158, .iadd, 1), (159, .aload_n 0, 1)]
theorem kco_63_t4 : kco_63_4.all (fun q => decide (decode prog_13_method_51_code q.1 = .ok q.2)) = true := by decide +kernel
def kco_63_5 : List (Nat × Instr × Nat) := [(160, .getfield 76, 3), (163, .iload_n 1, 1), (164, .iaload, 1), (165, .sipush (255), 3), (168, .iand, 1), (169, .iastore, 1), (170, .aload_n 0, 1), (171, .getfield 76, 3), (174, .iload_n 1, 1), (175, .dup2, 1), (176, .iaload, 1), (177, .iconst (1), 1), (178, .iadd, 1), (179, .iastore, 1), (180, .aload_n 0, 1), (181, .iload_n 1, 1), (182, .iload 4, 2), (184, .invokevirtual 332, 3), (187, .iconst (0), 1), (188, .istore 7, 2), (190, .iload 7, 2)]
theorem kco_63_t5 : kco_63_5.all (fun q => decide (decode prog_13_method_51_code q.1 = .ok q.2)) = true := by decide +kernel
def kco_63_6 : List (Nat × Instr × Nat) := [(192, .bipush (8), 2), (194, .if_icmp .ge (46), 3), (197, .aload_n 0, 1), (198, .getfield 106, 3), (201, .iload 5, 2), (203, .bipush (34), 2), (205, .iadd, 1), (206, .iload 7, 2), (208, .iadd, 1), (209, .lload_n 2, 1), (210, .bipush (8), 2), (212, .iload 7, 2), (214, .imul, 1), (215, .lshr, 1), (216, .l2i, 1), (217, .sipush (255), 3), (220, .iand, 1), (221, .aload_n 0, 1), (222, .getfield 7, 3)]
theorem kco_63_t6 : kco_63_6.all (fun q => decide (decode prog_13_method_51_code q.1 = .ok q.2)) = true := by decide +kernel
def kco_63_7 : List (Nat × Instr × Nat) := [(225, .sipush (512), 3), (228, .iload 7, 2), (230, .iadd, 1), (231, .iaload, 1), (232, .ixor, 1), (233, .iastore, 1), (234, .iinc 7 (1), 3), (237, .goto (-47), 3), (240, .aload_n 0, 1), (241, .iload_n 1, 1), (242, .iload 4, 2), (244, .sipush (224), 3), (247, .invokevirtual 335, 3), (250, .iconst (0), 1), (251, .istore 7, 2), (253, .iload 7, 2), (255, .bipush (8), 2)]
theorem kco_63_t7 : kco_63_7.all (fun q => decide (decode prog_13_method_51_code q.1 = .ok q.2)) = true := by decide +kernel
def kco_63_8 : List (Nat × Instr × Nat) := [(257, .if_icmp .ge (33), 3), (260, .aload_n 0, 1), (261, .getfield 106, 3), (264, .iload 5, 2), (266, .bipush (42), 2), (268, .iadd, 1), (269, .iload 7, 2), (271, .iadd, 1), (272, .aload_n 0, 1), (273, .getfield 7, 3), (276, .sipush (224), 3), (279, .iload 7, 2), (281, .iadd, 1), (282, .iaload, 1), (283, .iastore, 1), (284, .iinc 7 (1), 3), (287, .goto (-34), 3)]
theorem kco_63_t8 : kco_63_8.all (fun q => decide (decode prog_13_method_51_code q.1 = .ok q.2)) = true := by decide +kernel
def kco_63_9 : List (Nat × Instr × Nat) := [(290, .aload_n 0, 1), (291, .getfield 103, 3), (294, .iload 4, 2), (296, .bipush (50), 2), (298, .iastore, 1), (299, .aload_n 0, 1), (300, .getfield 64, 3), (303, .iload_n 1, 1), (304, .baload, 1), (305, .ifCond .eq (106), 3), (308, .aload_n 0, 1), (309, .getfield 67, 3), (312, .iload_n 1, 1), (313, .baload, 1), (314, .ifCond .ne (97), 3), (317, .aload_n 0, 1), (318, .getfield 106, 3)]
theorem kco_63_t9 : kco_63_9.all (fun q => decide (decode prog_13_method_51_code q.1 = .ok q.2)) = true := by decide +kernel
def kco_63_10 : List (Nat × Instr × Nat) := [(321, .iload 5, 2), (323, .bipush (50), 2), (325, .iadd, 1), (326, .aload_n 0, 1), (327, .getfield 58, 3), (330, .iload_n 1, 1), (331, .iaload, 1), (332, .iastore, 1), (333, .aload_n 0, 1), (334, .getfield 106, 3), (337, .iload 5, 2), (339, .bipush (51), 2), (341, .iadd, 1), (342, .aload_n 0, 1), (343, .getfield 97, 3), (346, .iload_n 1, 1), (347, .iaload, 1), (348, .iastore, 1), (349, .aload_n 0, 1), (350, .aload_n 0, 1), (351, .getfield 94, 3)]
theorem kco_63_t10 : kco_63_10.all (fun q => decide (decode prog_13_method_51_code q.1 = .ok q.2)) = true := by decide +kernel
def kco_63_11 : List (Nat × Instr × Nat) := [(354, .iload_n 1, 1), (355, .iaload, 1), (356, .sipush (512), 3), (359, .invokevirtual 273, 3), (362, .iconst (0), 1), (363, .istore 7, 2), (365, .iload 7, 2), (367, .bipush (32), 2), (369, .if_icmp .ge (33), 3), (372, .aload_n 0, 1), (373, .getfield 106, 3), (376, .iload 5, 2), (378, .bipush (52), 2), (380, .iadd, 1), (381, .iload 7, 2), (383, .iadd, 1)]
theorem kco_63_t11 : kco_63_11.all (fun q => decide (decode prog_13_method_51_code q.1 = .ok q.2)) = true := by decide +kernel
def kco_63_12 : List (Nat × Instr × Nat) := [(384, .aload_n 0, 1), (385, .getfield 7, 3), (388, .sipush (512), 3), (391, .iload 7, 2), (393, .iadd, 1), (394, .iaload, 1), (395, .iastore, 1), (396, .iinc 7 (1), 3), (399, .goto (-34), 3), (402, .aload_n 0, 1), (403, .getfield 103, 3), (406, .iload 4, 2), (408, .bipush (84), 2), (410, .iastore, 1), (411, .aload_n 0, 1), (412, .dup, 1), (413, .getfield 326, 3)]
theorem kco_63_t12 : kco_63_12.all (fun q => decide (decode prog_13_method_51_code q.1 = .ok q.2)) = true := by decide +kernel
def kco_63_13 : List (Nat × Instr × Nat) := [(416, .iconst (1), 1), (417, .iadd, 1), (418, .putfield 326, 3), (421, .iload 4, 2), (423, .ireturn, 1)]
theorem kco_63_t13 : kco_63_13.all (fun q => decide (decode prog_13_method_51_code q.1 = .ok q.2)) = true := by decide +kernel
def kco_63 : List (List (Nat × Instr × Nat)) := [kco_63_0, kco_63_1, kco_63_2, kco_63_3, kco_63_4, kco_63_5, kco_63_6, kco_63_7, kco_63_8, kco_63_9, kco_63_10, kco_63_11, kco_63_12, kco_63_13]
theorem kco_63_ok : ∀ pc i n, ck_cdAt kco_63 pc = some (i, n) → decode prog_13_method_51_code pc = .ok (i, n) := ck_cd_ok (List.forall_mem_cons.mpr ⟨kco_63_t0, (List.forall_mem_cons.mpr ⟨kco_63_t1, (List.forall_mem_cons.mpr ⟨kco_63_t2, (List.forall_mem_cons.mpr ⟨kco_63_t3, (List.forall_mem_cons.mpr ⟨kco_63_t4, (List.forall_mem_cons.mpr ⟨kco_63_t5, (List.forall_mem_cons.mpr ⟨kco_63_t6, (List.forall_mem_cons.mpr ⟨kco_63_t7, (List.forall_mem_cons.mpr ⟨kco_63_t8, (List.forall_mem_cons.mpr ⟨kco_63_t9, (List.forall_mem_cons.mpr ⟨kco_63_t10, (List.forall_mem_cons.mpr ⟨kco_63_t11, (List.forall_mem_cons.mpr ⟨kco_63_t12, (List.forall_mem_cons.mpr ⟨kco_63_t13, (fun _ h => by cases h)⟩)⟩)⟩)⟩)⟩)⟩)⟩)⟩)⟩)⟩)⟩)⟩)⟩)⟩)
def kco_64_0 : List (Nat × Instr × Nat) := [(0, .iload_n 1, 1), (1, .iconst (4), 1), (2, .invokestatic 60, 3), (5, .iload_n 2, 1), (6, .iconst (4), 1), (7, .invokestatic 60, 3), (10, .iload_n 1, 1), (11, .iload_n 2, 1), (12, .if_icmp .ne (13), 3), (15, .new 130, 3), (18, .dup, 1), (19, .ldc 132, 2), (21, .invokespecial 134, 3), (24, .athrow, 1), (25, .aload_n 0, 1), (26, .getfield 137, 3), (29, .bipush (8), 2), (31, .invokestatic 112, 3)]
theorem kco_64_t0 : kco_64_0.all (fun q => decide (decode prog_1_method_9_code q.1 = .ok q.2)) = true := by decide +kernel
def kco_64_1 : List (Nat × Instr × Nat) := [(34, .aload_n 0, 1), (35, .aload_n 0, 1), (36, .getfield 35, 3), (39, .invokevirtual 119, 3), (42, .aload_n 0, 1), (43, .getfield 16, 3), (46, .iload_n 2, 1), (47, .aaload, 1), (48, .invokevirtual 140, 3), (51, .istore_n 3, 1), (52, .aload_n 0, 1), (53, .getfield 47, 3), (56, .iload_n 1, 1), (57, .iload_n 2, 1), (58, .invokevirtual 143, 3), (61, .aload_n 0, 1), (62, .iload_n 1, 1), (63, .iload_n 2, 1)]
theorem kco_64_t1 : kco_64_1.all (fun q => decide (decode prog_1_method_9_code q.1 = .ok q.2)) = true := by decide +kernel
def kco_64_2 : List (Nat × Instr × Nat) := [(64, .invokevirtual 146, 3), (67, .aload_n 0, 1), (68, .aload_n 0, 1), (69, .getfield 16, 3), (72, .iload_n 1, 1), (73, .aaload, 1), (74, .aload_n 0, 1), (75, .getfield 16, 3), (78, .iload_n 2, 1), (79, .aaload, 1), (80, .iload_n 3, 1), (81, .invokevirtual 149, 3), (84, .aload_n 0, 1), (85, .getfield 16, 3), (88, .iload_n 2, 1), (89, .aaload, 1), (90, .getfield 153, 3), (93, .aload_n 0, 1), (94, .getfield 42, 3)]
theorem kco_64_t2 : kco_64_2.all (fun q => decide (decode prog_1_method_9_code q.1 = .ok q.2)) = true := by decide +kernel
def kco_64_3 : List (Nat × Instr × Nat) := [(97, .getfield 72, 3), (100, .invokevirtual 156, 3), (103, .aload_n 0, 1), (104, .getfield 47, 3), (107, .getfield 160, 3), (110, .invokestatic 164, 3), (113, .aload_n 0, 1), (114, .getfield 47, 3), (117, .iload_n 1, 1), (118, .iload_n 3, 1), (119, .aload_n 0, 1), (120, .getfield 35, 3), (123, .aload_n 0, 1), (124, .getfield 42, 3), (127, .getfield 72, 3)]
theorem kco_64_t3 : kco_64_3.all (fun q => decide (decode prog_1_method_9_code q.1 = .ok q.2)) = true := by decide +kernel
def kco_64_4 : List (Nat × Instr × Nat) := [(130, .invokevirtual 156, 3), (133, .invokevirtual 168, 3), (136, .aload_n 0, 1), (137, .getfield 47, 3), (140, .iconst (1), 1), (141, .putfield 172, 3), (144, .aload_n 0, 1), (145, .aload_n 0, 1), (146, .getfield 137, 3), (149, .invokevirtual 176, 3), (152, .aload_n 0, 1), (153, .getfield 137, 3), (156, .iconst (1), 1), (157, .isub, 1), (158, .ireturn, 1)]
theorem kco_64_t4 : kco_64_4.all (fun q => decide (decode prog_1_method_9_code q.1 = .ok q.2)) = true := by decide +kernel
def kco_64 : List (List (Nat × Instr × Nat)) := [kco_64_0, kco_64_1, kco_64_2, kco_64_3, kco_64_4]
theorem kco_64_ok : ∀ pc i n, ck_cdAt kco_64 pc = some (i, n) → decode prog_1_method_9_code pc = .ok (i, n) := ck_cd_ok (List.forall_mem_cons.mpr ⟨kco_64_t0, (List.forall_mem_cons.mpr ⟨kco_64_t1, (List.forall_mem_cons.mpr ⟨kco_64_t2, (List.forall_mem_cons.mpr ⟨kco_64_t3, (List.forall_mem_cons.mpr ⟨kco_64_t4, (fun _ h => by cases h)⟩)⟩)⟩)⟩)⟩)
def kco_65_0 : List (Nat × Instr × Nat) := [(0, .aload_n 3, 1), (1, .iconst (0), 1), (2, .aload_n 0, 1), (3, .iload_n 1, 1), (4, .iload_n 2, 1), (5, .invokevirtual 39, 3), (8, .i2l, 1), (9, .lastore, 1), (10, .goto (15), 3), (13, .astore 4, 2), (15, .iconst (1), 1), (16, .ireturn, 1), (17, .astore 4, 2), (19, .iconst (2), 1), (20, .ireturn, 1), (21, .astore 4, 2), (23, .iconst (3), 1), (24, .ireturn, 1), (25, .iconst (0), 1), (26, .ireturn, 1)]
theorem kco_65_t0 : kco_65_0.all (fun q => decide (decode method_10_code q.1 = .ok q.2)) = true := by decide +kernel
def kco_65 : List (List (Nat × Instr × Nat)) := [kco_65_0]
theorem kco_65_ok : ∀ pc i n, ck_cdAt kco_65 pc = some (i, n) → decode method_10_code pc = .ok (i, n) := ck_cd_ok (List.forall_mem_cons.mpr ⟨kco_65_t0, (fun _ h => by cases h)⟩)
end
section
/-! ===== code, read ===== -/
def kco_66_0 : List (Nat × Instr × Nat) := [(0, .aload_n 0, 1), (1, .iload_n 1, 1), (2, .iconst (4), 1), (3, .invokestatic 276, 3), (6, .ifCond .eq (11), 3), (9, .iload_n 2, 1), (10, .iconst (4), 1), (11, .invokestatic 276, 3), (14, .ifCond .ne (7), 3), (17, .iconst (1), 1), (18, .goto (26), 3), (21, .iload_n 1, 1), (22, .iload_n 2, 1), (23, .if_icmp .ne (7), 3), (26, .iconst (2), 1), (27, .goto (17), 3), (30, .aload_n 0, 1), (31, .getfield 304, 3)]
theorem kco_66_t0 : kco_66_0.all (fun q => decide (decode prog_13_method_45_code q.1 = .ok q.2)) = true := by decide +kernel
def kco_66_1 : List (Nat × Instr × Nat) := [(34, .bipush (8), 2), (36, .if_icmp .ne (7), 3), (39, .iconst (3), 1), (40, .goto (4), 3), (43, .iconst (0), 1), (44, .invokevirtual 280, 3), (47, .ifCond .eq (5), 3), (50, .iconst (0), 1), (51, .ireturn, 1), (52, .aload_n 0, 1), (53, .getfield 304, 3), (56, .istore_n 3, 1), (57, .aload_n 0, 1), (58, .dup, 1), (59, .getfield 304, 3), (62, .iconst (1), 1), (63, .iadd, 1)]
theorem kco_66_t1 : kco_66_1.all (fun q => decide (decode prog_13_method_45_code q.1 = .ok q.2)) = true := by decide +kernel
def kco_66_2 : List (Nat × Instr × Nat) := [(64, .putfield 304, 3), (67, .aload_n 0, 1), (68, .iload_n 3, 1), (69, .iload_n 1, 1), (70, .iload_n 2, 1), (71, .iconst (1), 1), (72, .invokevirtual 307, 3), (75, .aload_n 0, 1), (76, .getfield 38, 3), (79, .istore 4, 2), (81, .aload_n 0, 1), (82, .dup, 1), (83, .getfield 38, 3), (86, .iconst (1), 1), (87, .iadd, 1), (88, .putfield 38, 3), (91, .aload_n 0, 1), (92, .getfield 94, 3), (95, .iload_n 3, 1)]
theorem kco_66_t2 : kco_66_2.all (fun q => decide (decode prog_13_method_45_code q.1 = .ok q.2)) = true := by decide +kernel
def kco_66_3 : List (Nat × Instr × Nat) := [(96, .iload 4, 2), (98, .iastore, 1), (99, .iconst (-1), 1), (100, .istore 5, 2), (102, .bipush (7), 2), (104, .istore 6, 2), (106, .iload 6, 2), (108, .ifCond .lt (33), 3), (111, .aload_n 0, 1), (112, .getfield 52, 3), (115, .bipush (8), 2), (117, .iload_n 2, 1), (118, .imul, 1), (119, .iload 6, 2), (121, .iadd, 1), (122, .baload, 1), (123, .ifCond .eq (8), 3), (126, .iload 6, 2)]
theorem kco_66_t3 : kco_66_3.all (fun q => decide (decode prog_13_method_45_code q.1 = .ok q.2)) = true := by decide +kernel
def kco_66_4 : List (Nat × Instr × Nat) := [(128, .goto (5), 3), (131, .iload 5, 2), (133, .istore 5, 2), (135, .iinc 6 (-1), 3), (138, .goto (-32), 3), (141, .aload_n 0, 1), (142, .getfield 97, 3), (145, .iload_n 3, 1), (146, .iload 5, 2), (148, .ifCond .ge (9), 3), (151, .sipush (255), 3), (154, .goto (5), 3), (157, .iload 5, 2), (159, .iastore, 1)]
theorem kco_66_t4 : kco_66_4.all (fun q => decide (decode prog_13_method_45_code q.1 = .ok q.2)) = true := by decide +kernel
def kco_66_5 : List (Nat × Instr × Nat) := [(160, .aload_n 0, 1), (161, .iload_n 1, 1), (162, .aload_n 0, 1), (163, .iconst (4), 1), (164, .iload_n 2, 1), (165, .iadd, 1), (166, .invokevirtual 311, 3), (169, .sipush (320), 3), (172, .invokevirtual 298, 3), (175, .aload_n 0, 1), (176, .iload 4, 2), (178, .aload_n 0, 1), (179, .iload_n 2, 1), (180, .invokevirtual 311, 3), (183, .sipush (352), 3), (186, .invokevirtual 298, 3), (189, .aload_n 0, 1), (190, .iload 4, 2)]
theorem kco_66_t5 : kco_66_5.all (fun q => decide (decode prog_13_method_45_code q.1 = .ok q.2)) = true := by decide +kernel
def kco_66_6 : List (Nat × Instr × Nat) := [(192, .aload_n 0, 1), (193, .iconst (4), 1), (194, .iload_n 2, 1), (195, .iadd, 1), (196, .invokevirtual 311, 3), (199, .sipush (384), 3), (202, .invokevirtual 298, 3), (205, .iload 5, 2), (207, .ifCond .lt (47), 3), (210, .aload_n 0, 1), (211, .getfield 52, 3), (214, .bipush (8), 2), (216, .iload_n 2, 1), (217, .imul, 1), (218, .iload 5, 2), (220, .iadd, 1), (221, .iconst (0), 1), (222, .bastore, 1), (223, .aload_n 0, 1)]
theorem kco_66_t6 : kco_66_6.all (fun q => decide (decode prog_13_method_45_code q.1 = .ok q.2)) = true := by decide +kernel
def kco_66_7 : List (Nat × Instr × Nat) := [(224, .aload_n 0, 1), (225, .getfield 49, 3), (228, .bipush (8), 2), (230, .iload_n 2, 1), (231, .imul, 1), (232, .iload 5, 2), (234, .iadd, 1), (235, .iaload, 1), (236, .sipush (512), 3), (239, .invokevirtual 273, 3), (242, .aload_n 0, 1), (243, .iload 4, 2), (245, .sipush (512), 3), (248, .sipush (416), 3), (251, .invokevirtual 298, 3), (254, .aload_n 0, 1), (255, .iload 5, 2)]
theorem kco_66_t7 : kco_66_7.all (fun q => decide (decode prog_13_method_45_code q.1 = .ok q.2)) = true := by decide +kernel
def kco_66_8 : List (Nat × Instr × Nat) := [(257, .ifCond .ge (7), 3), (260, .iconst (3), 1), (261, .goto (4), 3), (264, .iconst (4), 1), (265, .iload_n 3, 1), (266, .invokestatic 291, 3), (269, .iconst (0), 1), (270, .iadd, 1), (271, .invokevirtual 314, 3), (274, .aload_n 0, 1), (275, .aload_n 0, 1), (276, .iconst (4), 1), (277, .iload_n 2, 1), (278, .iadd, 1), (279, .invokevirtual 311, 3), (282, .iload_n 3, 1), (283, .invokestatic 291, 3), (286, .sipush (128), 3)]
theorem kco_66_t8 : kco_66_8.all (fun q => decide (decode prog_13_method_45_code q.1 = .ok q.2)) = true := by decide +kernel
def kco_66_9 : List (Nat × Instr × Nat) := [(289, .iadd, 1), (290, .invokevirtual 288, 3), (293, .aload_n 0, 1), (294, .iload_n 3, 1), (295, .invokevirtual 317, 3), (298, .iload_n 3, 1), (299, .ireturn, 1)]
theorem kco_66_t9 : kco_66_9.all (fun q => decide (decode prog_13_method_45_code q.1 = .ok q.2)) = true := by decide +kernel
def kco_66 : List (List (Nat × Instr × Nat)) := [kco_66_0, kco_66_1, kco_66_2, kco_66_3, kco_66_4, kco_66_5, kco_66_6, kco_66_7, kco_66_8, kco_66_9]
theorem kco_66_ok : ∀ pc i n, ck_cdAt kco_66 pc = some (i, n) → decode prog_13_method_45_code pc = .ok (i, n) := ck_cd_ok (List.forall_mem_cons.mpr ⟨kco_66_t0, (List.forall_mem_cons.mpr ⟨kco_66_t1, (List.forall_mem_cons.mpr ⟨kco_66_t2, (List.forall_mem_cons.mpr ⟨kco_66_t3, (List.forall_mem_cons.mpr ⟨kco_66_t4, (List.forall_mem_cons.mpr ⟨kco_66_t5, (List.forall_mem_cons.mpr ⟨kco_66_t6, (List.forall_mem_cons.mpr ⟨kco_66_t7, (List.forall_mem_cons.mpr ⟨kco_66_t8, (List.forall_mem_cons.mpr ⟨kco_66_t9, (fun _ h => by cases h)⟩)⟩)⟩)⟩)⟩)⟩)⟩)⟩)⟩)⟩)
def kco_67_0 : List (Nat × Instr × Nat) := [(0, .iload_n 0, 1), (1, .iload_n 1, 1), (2, .if_icmp .lt (14), 3), (5, .new 277, 3), (8, .dup, 1), (9, .ldc_w 279, 3), (12, .invokespecial 281, 3), (15, .athrow, 1), (16, .return_, 1)]
theorem kco_67_t0 : kco_67_0.all (fun q => decide (decode prog_1_method_24_code q.1 = .ok q.2)) = true := by decide +kernel
def kco_67 : List (List (Nat × Instr × Nat)) := [kco_67_0]
theorem kco_67_ok : ∀ pc i n, ck_cdAt kco_67 pc = some (i, n) → decode prog_1_method_24_code pc = .ok (i, n) := ck_cd_ok (List.forall_mem_cons.mpr ⟨kco_67_t0, (fun _ h => by cases h)⟩)
def kco_68_0 : List (Nat × Instr × Nat) := [(0, .iconst (0), 1), (1, .istore_n 1, 1), (2, .iload_n 1, 1), (3, .aload_n 0, 1), (4, .getfield 29, 3), (7, .if_icmp .ge (28), 3), (10, .aload_n 0, 1), (11, .getfield 25, 3), (14, .iload_n 1, 1), (15, .iaload, 1), (16, .iconst (1), 1), (17, .if_icmp .ne (12), 3), (20, .aload_n 0, 1), (21, .getfield 25, 3), (24, .iload_n 1, 1), (25, .iconst (2), 1), (26, .iastore, 1), (27, .iload_n 1, 1), (28, .ireturn, 1), (29, .iinc 1 (1), 3)]
theorem kco_68_t0 : kco_68_0.all (fun q => decide (decode prog_8_method_4_code q.1 = .ok q.2)) = true := by decide +kernel
def kco_68_1 : List (Nat × Instr × Nat) := [(32, .goto (-30), 3), (35, .sipush (255), 3), (38, .ireturn, 1)]
theorem kco_68_t1 : kco_68_1.all (fun q => decide (decode prog_8_method_4_code q.1 = .ok q.2)) = true := by decide +kernel
def kco_68 : List (List (Nat × Instr × Nat)) := [kco_68_0, kco_68_1]
theorem kco_68_ok : ∀ pc i n, ck_cdAt kco_68 pc = some (i, n) → decode prog_8_method_4_code pc = .ok (i, n) := ck_cd_ok (List.forall_mem_cons.mpr ⟨kco_68_t0, (List.forall_mem_cons.mpr ⟨kco_68_t1, (fun _ h => by cases h)⟩)⟩)
def kco_69_0 : List (Nat × Instr × Nat) := [(0, .aload_n 0, 1), (1, .iconst (0), 1), (2, .putfield 15, 3), (5, .aload_n 0, 1), (6, .iconst (0), 1), (7, .putfield 19, 3), (10, .return_, 1)]
theorem kco_69_t0 : kco_69_0.all (fun q => decide (decode prog_2_method_2_code q.1 = .ok q.2)) = true := by decide +kernel
def kco_69 : List (List (Nat × Instr × Nat)) := [kco_69_0]
theorem kco_69_ok : ∀ pc i n, ck_cdAt kco_69 pc = some (i, n) → decode prog_2_method_2_code pc = .ok (i, n) := ck_cd_ok (List.forall_mem_cons.mpr ⟨kco_69_t0, (fun _ h => by cases h)⟩)
def kco_70_0 : List (Nat × Instr × Nat) := [(0, .aload_n 0, 1), (1, .iload_n 1, 1), (2, .putfield 50, 3), (5, .aload_n 0, 1), (6, .iload_n 2, 1), (7, .putfield 54, 3), (10, .aload_n 0, 1), (11, .getfield 31, 3), (14, .invokevirtual 57, 3), (17, .aload_n 0, 1), (18, .getfield 35, 3), (21, .invokevirtual 57, 3), (24, .aload_n 0, 1), (25, .iconst (0), 1), (26, .putfield 60, 3), (29, .aload_n 0, 1), (30, .getfield 41, 3)]
theorem kco_70_t0 : kco_70_0.all (fun q => decide (decode prog_4_method_2_code q.1 = .ok q.2)) = true := by decide +kernel
def kco_70_1 : List (Nat × Instr × Nat) := [(33, .iconst (0), 1), (34, .putfield 63, 3), (37, .aload_n 0, 1), (38, .iconst (0), 1), (39, .putfield 66, 3), (42, .aload_n 0, 1), (43, .iconst (0), 1), (44, .putfield 70, 3), (47, .aload_n 0, 1), (48, .lconst (0), 1), (49, .putfield 73, 3), (52, .return_, 1)]
theorem kco_70_t1 : kco_70_1.all (fun q => decide (decode prog_4_method_2_code q.1 = .ok q.2)) = true := by decide +kernel
def kco_70 : List (List (Nat × Instr × Nat)) := [kco_70_0, kco_70_1]
theorem kco_70_ok : ∀ pc i n, ck_cdAt kco_70 pc = some (i, n) → decode prog_4_method_2_code pc = .ok (i, n) := ck_cd_ok (List.forall_mem_cons.mpr ⟨kco_70_t0, (List.forall_mem_cons.mpr ⟨kco_70_t1, (fun _ h => by cases h)⟩)⟩)
def kco_71_0 : List (Nat × Instr × Nat) := [(0, .iconst (0), 1), (1, .istore_n 2, 1), (2, .iconst (0), 1), (3, .istore_n 3, 1), (4, .iload_n 3, 1), (5, .bipush (10), 2), (7, .if_icmp .ge (62), 3), (10, .bipush (26), 2), (12, .iload_n 3, 1), (13, .iconst (1), 1), (14, .iand, 1), (15, .isub, 1), (16, .istore 4, 2), (18, .aload_n 1, 1), (19, .iload_n 3, 1), (20, .lconst (0), 1), (21, .lastore, 1), (22, .iconst (0), 1), (23, .istore 5, 2), (25, .iload 5, 2), (27, .iload 4, 2), (29, .if_icmp .ge (34), 3)]
theorem kco_71_t0 : kco_71_0.all (fun q => decide (decode prog_3_method_7_code q.1 = .ok q.2)) = true := by decide +kernel
def kco_71_1 : List (Nat × Instr × Nat) := [(32, .aload_n 1, 1), (33, .iload_n 3, 1), (34, .dup2, 1), (35, .laload, 1), (36, .aload_n 0, 1), (37, .iload_n 2, 1), (38, .iconst (3), 1), (39, .ishr, 1), (40, .iaload, 1), (41, .iload_n 2, 1), (42, .bipush (7), 2), (44, .iand, 1), (45, .ishr, 1), (46, .iconst (1), 1), (47, .iand, 1), (48, .i2l, 1), (49, .iload 5, 2), (51, .lshl, 1), (52, .lor, 1), (53, .lastore, 1), (54, .iinc 2 (1), 3), (57, .iinc 5 (1), 3), (60, .goto (-35), 3), (63, .iinc 3 (1), 3)]
theorem kco_71_t1 : kco_71_1.all (fun q => decide (decode prog_3_method_7_code q.1 = .ok q.2)) = true := by decide +kernel
def kco_71_2 : List (Nat × Instr × Nat) := [(66, .goto (-62), 3), (69, .return_, 1)]
theorem kco_71_t2 : kco_71_2.all (fun q => decide (decode prog_3_method_7_code q.1 = .ok q.2)) = true := by decide +kernel
def kco_71 : List (List (Nat × Instr × Nat)) := [kco_71_0, kco_71_1, kco_71_2]
theorem kco_71_ok : ∀ pc i n, ck_cdAt kco_71 pc = some (i, n) → decode prog_3_method_7_code pc = .ok (i, n) := ck_cd_ok (List.forall_mem_cons.mpr ⟨kco_71_t0, (List.forall_mem_cons.mpr ⟨kco_71_t1, (List.forall_mem_cons.mpr ⟨kco_71_t2, (fun _ h => by cases h)⟩)⟩)⟩)
def kco_72_0 : List (Nat × Instr × Nat) := [(0, .iconst (0), 1), (1, .istore_n 2, 1), (2, .iload_n 2, 1), (3, .bipush (10), 2), (5, .if_icmp .ge (13), 3), (8, .aload_n 0, 1), (9, .iload_n 2, 1), (10, .lconst (0), 1), (11, .lastore, 1), (12, .iinc 2 (1), 3), (15, .goto (-13), 3), (18, .aload_n 0, 1), (19, .iconst (0), 1), (20, .iload_n 1, 1), (21, .i2l, 1), (22, .lastore, 1), (23, .return_, 1)]
theorem kco_72_t0 : kco_72_0.all (fun q => decide (decode prog_3_method_6_code q.1 = .ok q.2)) = true := by decide +kernel
def kco_72 : List (List (Nat × Instr × Nat)) := [kco_72_0]
theorem kco_72_ok : ∀ pc i n, ck_cdAt kco_72 pc = some (i, n) → decode prog_3_method_6_code pc = .ok (i, n) := ck_cd_ok (List.forall_mem_cons.mpr ⟨kco_72_t0, (fun _ h => by cases h)⟩)
def kco_73_0 : List (Nat × Instr × Nat) := [(0, .iload_n 1, 1), (1, .sipush (254), 3), (4, .if_icmp .eq (24), 3), (7, .iload_n 1, 1), (8, .iconst (2), 1), (9, .if_icmp .le (23), 3), (12, .aload_n 0, 1), (13, .iload_n 1, 1), (14, .iconst (3), 1), (15, .ishr, 1), (16, .iaload, 1), (17, .iload_n 1, 1), (18, .bipush (7), 2), (20, .iand, 1), (21, .ishr, 1), (22, .iconst (1), 1), (23, .iand, 1), (24, .iconst (1), 1), (25, .if_icmp .ne (7), 3), (28, .iconst (1), 1), (29, .goto (4), 3)]
theorem kco_73_t0 : kco_73_0.all (fun q => decide (decode prog_3_method_3_code q.1 = .ok q.2)) = true := by decide +kernel
def kco_73_1 : List (Nat × Instr × Nat) := [(32, .iconst (0), 1), (33, .ireturn, 1)]
theorem kco_73_t1 : kco_73_1.all (fun q => decide (decode prog_3_method_3_code q.1 = .ok q.2)) = true := by decide +kernel
def kco_73 : List (List (Nat × Instr × Nat)) := [kco_73_0, kco_73_1]
theorem kco_73_ok : ∀ pc i n, ck_cdAt kco_73 pc = some (i, n) → decode prog_3_method_3_code pc = .ok (i, n) := ck_cd_ok (List.forall_mem_cons.mpr ⟨kco_73_t0, (List.forall_mem_cons.mpr ⟨kco_73_t1, (fun _ h => by cases h)⟩)⟩)
def kco_74_0 : List (Nat × Instr × Nat) := [(0, .iconst (0), 1), (1, .istore_n 3, 1), (2, .iload_n 3, 1), (3, .bipush (10), 2), (5, .if_icmp .ge (19), 3), (8, .aload_n 2, 1), (9, .iload_n 3, 1), (10, .aload_n 0, 1), (11, .iload_n 3, 1), (12, .laload, 1), (13, .aload_n 1, 1), (14, .iload_n 3, 1), (15, .laload, 1), (16, .ladd, 1), (17, .lastore, 1), (18, .iinc 3 (1), 3), (21, .goto (-19), 3), (24, .return_, 1)]
theorem kco_74_t0 : kco_74_0.all (fun q => decide (decode prog_3_method_10_code q.1 = .ok q.2)) = true := by decide +kernel
def kco_74 : List (List (Nat × Instr × Nat)) := [kco_74_0]
theorem kco_74_ok : ∀ pc i n, ck_cdAt kco_74 pc = some (i, n) → decode prog_3_method_10_code pc = .ok (i, n) := ck_cd_ok (List.forall_mem_cons.mpr ⟨kco_74_t0, (fun _ h => by cases h)⟩)
def kco_75_0 : List (Nat × Instr × Nat) := [(0, .iconst (0), 1), (1, .istore_n 3, 1), (2, .iload_n 3, 1), (3, .bipush (10), 2), (5, .if_icmp .ge (19), 3), (8, .aload_n 2, 1), (9, .iload_n 3, 1), (10, .aload_n 0, 1), (11, .iload_n 3, 1), (12, .laload, 1), (13, .aload_n 1, 1), (14, .iload_n 3, 1), (15, .laload, 1), (16, .lsub, 1), (17, .lastore, 1), (18, .iinc 3 (1), 3), (21, .goto (-19), 3), (24, .return_, 1)]
theorem kco_75_t0 : kco_75_0.all (fun q => decide (decode prog_3_method_11_code q.1 = .ok q.2)) = true := by decide +kernel
def kco_75 : List (List (Nat × Instr × Nat)) := [kco_75_0]
theorem kco_75_ok : ∀ pc i n, ck_cdAt kco_75 pc = some (i, n) → decode prog_3_method_11_code pc = .ok (i, n) := ck_cd_ok (List.forall_mem_cons.mpr ⟨kco_75_t0, (fun _ h => by cases h)⟩)
end
section
/-! ===== code, read ===== -/
def kco_76_0 : List (Nat × Instr × Nat) := [(0, .aload_n 0, 1), (1, .iconst (0), 1), (2, .laload, 1), (3, .lstore_n 3, 1), (4, .aload_n 0, 1), (5, .iconst (1), 1), (6, .laload, 1), (7, .lstore 5, 2), (9, .aload_n 0, 1), (10, .iconst (2), 1), (11, .laload, 1), (12, .lstore 7, 2), (14, .aload_n 0, 1), (15, .iconst (3), 1), (16, .laload, 1), (17, .lstore 9, 2), (19, .aload_n 0, 1), (20, .iconst (4), 1), (21, .laload, 1), (22, .lstore 11, 2), (24, .aload_n 0, 1), (25, .iconst (5), 1), (26, .laload, 1), (27, .lstore 13, 2), (29, .aload_n 0, 1), (30, .bipush (6), 2)]
theorem kco_76_t0 : kco_76_0.all (fun q => decide (decode prog_3_method_13_code q.1 = .ok q.2)) = true := by decide +kernel
def kco_76_1 : List (Nat × Instr × Nat) := [(32, .laload, 1), (33, .lstore 15, 2), (35, .aload_n 0, 1), (36, .bipush (7), 2), (38, .laload, 1), (39, .lstore 17, 2), (41, .aload_n 0, 1), (42, .bipush (8), 2), (44, .laload, 1), (45, .lstore 19, 2), (47, .aload_n 0, 1), (48, .bipush (9), 2), (50, .laload, 1), (51, .lstore 21, 2), (53, .aload_n 1, 1), (54, .iconst (0), 1), (55, .laload, 1), (56, .lstore 23, 2), (58, .aload_n 1, 1), (59, .iconst (1), 1), (60, .laload, 1), (61, .lstore 25, 2), (63, .aload_n 1, 1)]
theorem kco_76_t1 : kco_76_1.all (fun q => decide (decode prog_3_method_13_code q.1 = .ok q.2)) = true := by decide +kernel
def kco_76_2 : List (Nat × Instr × Nat) := [(64, .iconst (2), 1), (65, .laload, 1), (66, .lstore 27, 2), (68, .aload_n 1, 1), (69, .iconst (3), 1), (70, .laload, 1), (71, .lstore 29, 2), (73, .aload_n 1, 1), (74, .iconst (4), 1), (75, .laload, 1), (76, .lstore 31, 2), (78, .aload_n 1, 1), (79, .iconst (5), 1), (80, .laload, 1), (81, .lstore 33, 2), (83, .aload_n 1, 1), (84, .bipush (6), 2), (86, .laload, 1), (87, .lstore 35, 2), (89, .aload_n 1, 1), (90, .bipush (7), 2), (92, .laload, 1), (93, .lstore 37, 2), (95, .aload_n 1, 1)]
theorem kco_76_t2 : kco_76_2.all (fun q => decide (decode prog_3_method_13_code q.1 = .ok q.2)) = true := by decide +kernel
def kco_76_3 : List (Nat × Instr × Nat) := [(96, .bipush (8), 2), (98, .laload, 1), (99, .lstore 39, 2), (101, .aload_n 1, 1), (102, .bipush (9), 2), (104, .laload, 1), (105, .lstore 41, 2), (107, .ldc2_w 99, 3), (110, .lload 25, 2), (112, .lmul, 1), (113, .lstore 43, 2), (115, .ldc2_w 99, 3), (118, .lload 27, 2), (120, .lmul, 1), (121, .lstore 45, 2), (123, .ldc2_w 99, 3), (126, .lload 29, 2)]
theorem kco_76_t3 : kco_76_3.all (fun q => decide (decode prog_3_method_13_code q.1 = .ok q.2)) = true := by decide +kernel
def kco_76_4 : List (Nat × Instr × Nat) := [(128, .lmul, 1), (129, .lstore 47, 2), (131, .ldc2_w 99, 3), (134, .lload 31, 2), (136, .lmul, 1), (137, .lstore 49, 2), (139, .ldc2_w 99, 3), (142, .lload 33, 2), (144, .lmul, 1), (145, .lstore 51, 2), (147, .ldc2_w 99, 3), (150, .lload 35, 2), (152, .lmul, 1), (153, .lstore 53, 2), (155, .ldc2_w 99, 3), (158, .lload 37, 2)]
theorem kco_76_t4 : kco_76_4.all (fun q => decide (decode prog_3_method_13_code q.1 = .ok q.2)) = true := by decide +kernel
def kco_76_5 : List (Nat × Instr × Nat) := [(160, .lmul, 1), (161, .lstore 55, 2), (163, .ldc2_w 99, 3), (166, .lload 39, 2), (168, .lmul, 1), (169, .lstore 57, 2), (171, .ldc2_w 99, 3), (174, .lload 41, 2), (176, .lmul, 1), (177, .lstore 59, 2), (179, .lload_n 3, 1), (180, .lload 23, 2), (182, .lmul, 1), (183, .lload 7, 2), (185, .lload 57, 2), (187, .lmul, 1), (188, .ladd, 1), (189, .lload 11, 2), (191, .lload 53, 2)]
theorem kco_76_t5 : kco_76_5.all (fun q => decide (decode prog_3_method_13_code q.1 = .ok q.2)) = true := by decide +kernel
def kco_76_6 : List (Nat × Instr × Nat) := [(193, .lmul, 1), (194, .ladd, 1), (195, .lload 15, 2), (197, .lload 49, 2), (199, .lmul, 1), (200, .ladd, 1), (201, .lload 19, 2), (203, .lload 45, 2), (205, .lmul, 1), (206, .ladd, 1), (207, .ldc2_w 103, 3), (210, .lload 5, 2), (212, .lload 59, 2), (214, .lmul, 1), (215, .lload 9, 2), (217, .lload 55, 2), (219, .lmul, 1), (220, .ladd, 1), (221, .lload 13, 2), (223, .lload 51, 2)]
theorem kco_76_t6 : kco_76_6.all (fun q => decide (decode prog_3_method_13_code q.1 = .ok q.2)) = true := by decide +kernel
def kco_76_7 : List (Nat × Instr × Nat) := [(225, .lmul, 1), (226, .ladd, 1), (227, .lload 17, 2), (229, .lload 47, 2), (231, .lmul, 1), (232, .ladd, 1), (233, .lload 21, 2), (235, .lload 43, 2), (237, .lmul, 1), (238, .ladd, 1), (239, .lmul, 1), (240, .ladd, 1), (241, .lstore 61, 2), (243, .lload_n 3, 1), (244, .lload 25, 2), (246, .lmul, 1), (247, .lload 5, 2), (249, .lload 23, 2), (251, .lmul, 1), (252, .ladd, 1), (253, .lload 7, 2), (255, .lload 59, 2)]
theorem kco_76_t7 : kco_76_7.all (fun q => decide (decode prog_3_method_13_code q.1 = .ok q.2)) = true := by decide +kernel
def kco_76_8 : List (Nat × Instr × Nat) := [(257, .lmul, 1), (258, .ladd, 1), (259, .lload 9, 2), (261, .lload 57, 2), (263, .lmul, 1), (264, .ladd, 1), (265, .lload 11, 2), (267, .lload 55, 2), (269, .lmul, 1), (270, .ladd, 1), (271, .lload 13, 2), (273, .lload 53, 2), (275, .lmul, 1), (276, .ladd, 1), (277, .lload 15, 2), (279, .lload 51, 2), (281, .lmul, 1), (282, .ladd, 1), (283, .lload 17, 2), (285, .lload 49, 2), (287, .lmul, 1)]
theorem kco_76_t8 : kco_76_8.all (fun q => decide (decode prog_3_method_13_code q.1 = .ok q.2)) = true := by decide +kernel
def kco_76_9 : List (Nat × Instr × Nat) := [(288, .ladd, 1), (289, .lload 19, 2), (291, .lload 47, 2), (293, .lmul, 1), (294, .ladd, 1), (295, .lload 21, 2), (297, .lload 45, 2), (299, .lmul, 1), (300, .ladd, 1), (301, .lstore 63, 2), (303, .lload_n 3, 1), (304, .lload 27, 2), (306, .lmul, 1), (307, .lload 7, 2), (309, .lload 23, 2), (311, .lmul, 1), (312, .ladd, 1), (313, .lload 11, 2), (315, .lload 57, 2), (317, .lmul, 1), (318, .ladd, 1), (319, .lload 15, 2)]
theorem kco_76_t9 : kco_76_9.all (fun q => decide (decode prog_3_method_13_code q.1 = .ok q.2)) = true := by decide +kernel
def kco_76_10 : List (Nat × Instr × Nat) := [(321, .lload 53, 2), (323, .lmul, 1), (324, .ladd, 1), (325, .lload 19, 2), (327, .lload 49, 2), (329, .lmul, 1), (330, .ladd, 1), (331, .ldc2_w 103, 3), (334, .lload 5, 2), (336, .lload 25, 2), (338, .lmul, 1), (339, .lload 9, 2), (341, .lload 59, 2), (343, .lmul, 1), (344, .ladd, 1), (345, .lload 13, 2), (347, .lload 55, 2), (349, .lmul, 1), (350, .ladd, 1), (351, .lload 17, 2)]
theorem kco_76_t10 : kco_76_10.all (fun q => decide (decode prog_3_method_13_code q.1 = .ok q.2)) = true := by decide +kernel
def kco_76_11 : List (Nat × Instr × Nat) := [(353, .lload 51, 2), (355, .lmul, 1), (356, .ladd, 1), (357, .lload 21, 2), (359, .lload 47, 2), (361, .lmul, 1), (362, .ladd, 1), (363, .lmul, 1), (364, .ladd, 1), (365, .lstore 65, 2), (367, .lload_n 3, 1), (368, .lload 29, 2), (370, .lmul, 1), (371, .lload 5, 2), (373, .lload 27, 2), (375, .lmul, 1), (376, .ladd, 1), (377, .lload 7, 2), (379, .lload 25, 2), (381, .lmul, 1), (382, .ladd, 1), (383, .lload 9, 2)]
theorem kco_76_t11 : kco_76_11.all (fun q => decide (decode prog_3_method_13_code q.1 = .ok q.2)) = true := by decide +kernel
def kco_76_12 : List (Nat × Instr × Nat) := [(385, .lload 23, 2), (387, .lmul, 1), (388, .ladd, 1), (389, .lload 11, 2), (391, .lload 59, 2), (393, .lmul, 1), (394, .ladd, 1), (395, .lload 13, 2), (397, .lload 57, 2), (399, .lmul, 1), (400, .ladd, 1), (401, .lload 15, 2), (403, .lload 55, 2), (405, .lmul, 1), (406, .ladd, 1), (407, .lload 17, 2), (409, .lload 53, 2), (411, .lmul, 1), (412, .ladd, 1), (413, .lload 19, 2), (415, .lload 51, 2)]
theorem kco_76_t12 : kco_76_12.all (fun q => decide (decode prog_3_method_13_code q.1 = .ok q.2)) = true := by decide +kernel
def kco_76_13 : List (Nat × Instr × Nat) := [(417, .lmul, 1), (418, .ladd, 1), (419, .lload 21, 2), (421, .lload 49, 2), (423, .lmul, 1), (424, .ladd, 1), (425, .lstore 67, 2), (427, .lload_n 3, 1), (428, .lload 31, 2), (430, .lmul, 1), (431, .lload 7, 2), (433, .lload 27, 2), (435, .lmul, 1), (436, .ladd, 1), (437, .lload 11, 2), (439, .lload 23, 2), (441, .lmul, 1), (442, .ladd, 1), (443, .lload 15, 2), (445, .lload 57, 2), (447, .lmul, 1)]
theorem kco_76_t13 : kco_76_13.all (fun q => decide (decode prog_3_method_13_code q.1 = .ok q.2)) = true := by decide +kernel
def kco_76_14 : List (Nat × Instr × Nat) := [(448, .ladd, 1), (449, .lload 19, 2), (451, .lload 53, 2), (453, .lmul, 1), (454, .ladd, 1), (455, .ldc2_w 103, 3), (458, .lload 5, 2), (460, .lload 29, 2), (462, .lmul, 1), (463, .lload 9, 2), (465, .lload 25, 2), (467, .lmul, 1), (468, .ladd, 1), (469, .lload 13, 2), (471, .lload 59, 2), (473, .lmul, 1), (474, .ladd, 1), (475, .lload 17, 2), (477, .lload 55, 2), (479, .lmul, 1)]
theorem kco_76_t14 : kco_76_14.all (fun q => decide (decode prog_3_method_13_code q.1 = .ok q.2)) = true := by decide +kernel
def kco_76_15 : List (Nat × Instr × Nat) := [(480, .ladd, 1), (481, .lload 21, 2), (483, .lload 51, 2), (485, .lmul, 1), (486, .ladd, 1), (487, .lmul, 1), (488, .ladd, 1), (489, .lstore 69, 2), (491, .lload_n 3, 1), (492, .lload 33, 2), (494, .lmul, 1), (495, .lload 5, 2), (497, .lload 31, 2), (499, .lmul, 1), (500, .ladd, 1), (501, .lload 7, 2), (503, .lload 29, 2), (505, .lmul, 1), (506, .ladd, 1), (507, .lload 9, 2), (509, .lload 27, 2), (511, .lmul, 1)]
theorem kco_76_t15 : kco_76_15.all (fun q => decide (decode prog_3_method_13_code q.1 = .ok q.2)) = true := by decide +kernel
def kco_76_16 : List (Nat × Instr × Nat) := [(512, .ladd, 1), (513, .lload 11, 2), (515, .lload 25, 2), (517, .lmul, 1), (518, .ladd, 1), (519, .lload 13, 2), (521, .lload 23, 2), (523, .lmul, 1), (524, .ladd, 1), (525, .lload 15, 2), (527, .lload 59, 2), (529, .lmul, 1), (530, .ladd, 1), (531, .lload 17, 2), (533, .lload 57, 2), (535, .lmul, 1), (536, .ladd, 1), (537, .lload 19, 2), (539, .lload 55, 2), (541, .lmul, 1), (542, .ladd, 1), (543, .lload 21, 2)]
theorem kco_76_t16 : kco_76_16.all (fun q => decide (decode prog_3_method_13_code q.1 = .ok q.2)) = true := by decide +kernel
def kco_76_17 : List (Nat × Instr × Nat) := [(545, .lload 53, 2), (547, .lmul, 1), (548, .ladd, 1), (549, .lstore 71, 2), (551, .lload_n 3, 1), (552, .lload 35, 2), (554, .lmul, 1), (555, .lload 7, 2), (557, .lload 31, 2), (559, .lmul, 1), (560, .ladd, 1), (561, .lload 11, 2), (563, .lload 27, 2), (565, .lmul, 1), (566, .ladd, 1), (567, .lload 15, 2), (569, .lload 23, 2), (571, .lmul, 1), (572, .ladd, 1), (573, .lload 19, 2), (575, .lload 57, 2)]
theorem kco_76_t17 : kco_76_17.all (fun q => decide (decode prog_3_method_13_code q.1 = .ok q.2)) = true := by decide +kernel
def kco_76_18 : List (Nat × Instr × Nat) := [(577, .lmul, 1), (578, .ladd, 1), (579, .ldc2_w 103, 3), (582, .lload 5, 2), (584, .lload 33, 2), (586, .lmul, 1), (587, .lload 9, 2), (589, .lload 29, 2), (591, .lmul, 1), (592, .ladd, 1), (593, .lload 13, 2), (595, .lload 25, 2), (597, .lmul, 1), (598, .ladd, 1), (599, .lload 17, 2), (601, .lload 59, 2), (603, .lmul, 1), (604, .ladd, 1), (605, .lload 21, 2), (607, .lload 55, 2)]
theorem kco_76_t18 : kco_76_18.all (fun q => decide (decode prog_3_method_13_code q.1 = .ok q.2)) = true := by decide +kernel
def kco_76_19 : List (Nat × Instr × Nat) := [(609, .lmul, 1), (610, .ladd, 1), (611, .lmul, 1), (612, .ladd, 1), (613, .lstore 73, 2), (615, .lload_n 3, 1), (616, .lload 37, 2), (618, .lmul, 1), (619, .lload 5, 2), (621, .lload 35, 2), (623, .lmul, 1), (624, .ladd, 1), (625, .lload 7, 2), (627, .lload 33, 2), (629, .lmul, 1), (630, .ladd, 1), (631, .lload 9, 2), (633, .lload 31, 2), (635, .lmul, 1), (636, .ladd, 1), (637, .lload 11, 2), (639, .lload 29, 2)]
theorem kco_76_t19 : kco_76_19.all (fun q => decide (decode prog_3_method_13_code q.1 = .ok q.2)) = true := by decide +kernel
def kco_76_20 : List (Nat × Instr × Nat) := [(641, .lmul, 1), (642, .ladd, 1), (643, .lload 13, 2), (645, .lload 27, 2), (647, .lmul, 1), (648, .ladd, 1), (649, .lload 15, 2), (651, .lload 25, 2), (653, .lmul, 1), (654, .ladd, 1), (655, .lload 17, 2), (657, .lload 23, 2), (659, .lmul, 1), (660, .ladd, 1), (661, .lload 19, 2), (663, .lload 59, 2), (665, .lmul, 1), (666, .ladd, 1), (667, .lload 21, 2), (669, .lload 57, 2), (671, .lmul, 1)]
theorem kco_76_t20 : kco_76_20.all (fun q => decide (decode prog_3_method_13_code q.1 = .ok q.2)) = true := by decide +kernel
def kco_76_21 : List (Nat × Instr × Nat) := [(672, .ladd, 1), (673, .lstore 75, 2), (675, .lload_n 3, 1), (676, .lload 39, 2), (678, .lmul, 1), (679, .lload 7, 2), (681, .lload 35, 2), (683, .lmul, 1), (684, .ladd, 1), (685, .lload 11, 2), (687, .lload 31, 2), (689, .lmul, 1), (690, .ladd, 1), (691, .lload 15, 2), (693, .lload 27, 2), (695, .lmul, 1), (696, .ladd, 1), (697, .lload 19, 2), (699, .lload 23, 2), (701, .lmul, 1), (702, .ladd, 1), (703, .ldc2_w 103, 3)]
theorem kco_76_t21 : kco_76_21.all (fun q => decide (decode prog_3_method_13_code q.1 = .ok q.2)) = true := by decide +kernel
def kco_76_22 : List (Nat × Instr × Nat) := [(706, .lload 5, 2), (708, .lload 37, 2), (710, .lmul, 1), (711, .lload 9, 2), (713, .lload 33, 2), (715, .lmul, 1), (716, .ladd, 1), (717, .lload 13, 2), (719, .lload 29, 2), (721, .lmul, 1), (722, .ladd, 1), (723, .lload 17, 2), (725, .lload 25, 2), (727, .lmul, 1), (728, .ladd, 1), (729, .lload 21, 2), (731, .lload 59, 2), (733, .lmul, 1), (734, .ladd, 1), (735, .lmul, 1)]
theorem kco_76_t22 : kco_76_22.all (fun q => decide (decode prog_3_method_13_code q.1 = .ok q.2)) = true := by decide +kernel
def kco_76_23 : List (Nat × Instr × Nat) := [(736, .ladd, 1), (737, .lstore 77, 2), (739, .lload_n 3, 1), (740, .lload 41, 2), (742, .lmul, 1), (743, .lload 5, 2), (745, .lload 39, 2), (747, .lmul, 1), (748, .ladd, 1), (749, .lload 7, 2), (751, .lload 37, 2), (753, .lmul, 1), (754, .ladd, 1), (755, .lload 9, 2), (757, .lload 35, 2), (759, .lmul, 1), (760, .ladd, 1), (761, .lload 11, 2), (763, .lload 33, 2), (765, .lmul, 1), (766, .ladd, 1), (767, .lload 13, 2)]
theorem kco_76_t23 : kco_76_23.all (fun q => decide (decode prog_3_method_13_code q.1 = .ok q.2)) = true := by decide +kernel
def kco_76_24 : List (Nat × Instr × Nat) := [(769, .lload 31, 2), (771, .lmul, 1), (772, .ladd, 1), (773, .lload 15, 2), (775, .lload 29, 2), (777, .lmul, 1), (778, .ladd, 1), (779, .lload 17, 2), (781, .lload 27, 2), (783, .lmul, 1), (784, .ladd, 1), (785, .lload 19, 2), (787, .lload 25, 2), (789, .lmul, 1), (790, .ladd, 1), (791, .lload 21, 2), (793, .lload 23, 2), (795, .lmul, 1), (796, .ladd, 1), (797, .lstore 79, 2), (799, .lload 61, 2)]
theorem kco_76_t24 : kco_76_24.all (fun q => decide (decode prog_3_method_13_code q.1 = .ok q.2)) = true := by decide +kernel
def kco_76_25 : List (Nat × Instr × Nat) := [(801, .ldc2_w 105, 3), (804, .ladd, 1), (805, .bipush (26), 2), (807, .lshr, 1), (808, .lstore 81, 2), (810, .lload 63, 2), (812, .lload 81, 2), (814, .ladd, 1), (815, .lstore 63, 2), (817, .lload 61, 2), (819, .lload 81, 2), (821, .bipush (26), 2), (823, .lshl, 1), (824, .lsub, 1), (825, .lstore 61, 2), (827, .lload 63, 2), (829, .ldc2_w 107, 3)]
theorem kco_76_t25 : kco_76_25.all (fun q => decide (decode prog_3_method_13_code q.1 = .ok q.2)) = true := by decide +kernel
def kco_76_26 : List (Nat × Instr × Nat) := [(832, .ladd, 1), (833, .bipush (25), 2), (835, .lshr, 1), (836, .lstore 81, 2), (838, .lload 65, 2), (840, .lload 81, 2), (842, .ladd, 1), (843, .lstore 65, 2), (845, .aload_n 2, 1), (846, .iconst (1), 1), (847, .lload 63, 2), (849, .lload 81, 2), (851, .bipush (25), 2), (853, .lshl, 1), (854, .lsub, 1), (855, .lastore, 1), (856, .lload 65, 2), (858, .ldc2_w 105, 3), (861, .ladd, 1), (862, .bipush (26), 2)]
theorem kco_76_t26 : kco_76_26.all (fun q => decide (decode prog_3_method_13_code q.1 = .ok q.2)) = true := by decide +kernel
def kco_76_27 : List (Nat × Instr × Nat) := [(864, .lshr, 1), (865, .lstore 81, 2), (867, .lload 67, 2), (869, .lload 81, 2), (871, .ladd, 1), (872, .lstore 67, 2), (874, .aload_n 2, 1), (875, .iconst (2), 1), (876, .lload 65, 2), (878, .lload 81, 2), (880, .bipush (26), 2), (882, .lshl, 1), (883, .lsub, 1), (884, .lastore, 1), (885, .lload 67, 2), (887, .ldc2_w 107, 3), (890, .ladd, 1), (891, .bipush (25), 2), (893, .lshr, 1), (894, .lstore 81, 2)]
theorem kco_76_t27 : kco_76_27.all (fun q => decide (decode prog_3_method_13_code q.1 = .ok q.2)) = true := by decide +kernel
def kco_76_28 : List (Nat × Instr × Nat) := [(896, .lload 69, 2), (898, .lload 81, 2), (900, .ladd, 1), (901, .lstore 69, 2), (903, .aload_n 2, 1), (904, .iconst (3), 1), (905, .lload 67, 2), (907, .lload 81, 2), (909, .bipush (25), 2), (911, .lshl, 1), (912, .lsub, 1), (913, .lastore, 1), (914, .lload 69, 2), (916, .ldc2_w 105, 3), (919, .ladd, 1), (920, .bipush (26), 2), (922, .lshr, 1), (923, .lstore 81, 2), (925, .lload 71, 2), (927, .lload 81, 2)]
theorem kco_76_t28 : kco_76_28.all (fun q => decide (decode prog_3_method_13_code q.1 = .ok q.2)) = true := by decide +kernel
def kco_76_29 : List (Nat × Instr × Nat) := [(929, .ladd, 1), (930, .lstore 71, 2), (932, .aload_n 2, 1), (933, .iconst (4), 1), (934, .lload 69, 2), (936, .lload 81, 2), (938, .bipush (26), 2), (940, .lshl, 1), (941, .lsub, 1), (942, .lastore, 1), (943, .lload 71, 2), (945, .ldc2_w 107, 3), (948, .ladd, 1), (949, .bipush (25), 2), (951, .lshr, 1), (952, .lstore 81, 2), (954, .lload 73, 2), (956, .lload 81, 2), (958, .ladd, 1), (959, .lstore 73, 2)]
theorem kco_76_t29 : kco_76_29.all (fun q => decide (decode prog_3_method_13_code q.1 = .ok q.2)) = true := by decide +kernel
def kco_76_30 : List (Nat × Instr × Nat) := [(961, .aload_n 2, 1), (962, .iconst (5), 1), (963, .lload 71, 2), (965, .lload 81, 2), (967, .bipush (25), 2), (969, .lshl, 1), (970, .lsub, 1), (971, .lastore, 1), (972, .lload 73, 2), (974, .ldc2_w 105, 3), (977, .ladd, 1), (978, .bipush (26), 2), (980, .lshr, 1), (981, .lstore 81, 2), (983, .lload 75, 2), (985, .lload 81, 2), (987, .ladd, 1), (988, .lstore 75, 2), (990, .aload_n 2, 1), (991, .bipush (6), 2)]
theorem kco_76_t30 : kco_76_30.all (fun q => decide (decode prog_3_method_13_code q.1 = .ok q.2)) = true := by decide +kernel
def kco_76_31 : List (Nat × Instr × Nat) := [(993, .lload 73, 2), (995, .lload 81, 2), (997, .bipush (26), 2), (999, .lshl, 1), (1000, .lsub, 1), (1001, .lastore, 1), (1002, .lload 75, 2), (1004, .ldc2_w 107, 3), (1007, .ladd, 1), (1008, .bipush (25), 2), (1010, .lshr, 1), (1011, .lstore 81, 2), (1013, .lload 77, 2), (1015, .lload 81, 2), (1017, .ladd, 1), (1018, .lstore 77, 2), (1020, .aload_n 2, 1), (1021, .bipush (7), 2), (1023, .lload 75, 2)]
theorem kco_76_t31 : kco_76_31.all (fun q => decide (decode prog_3_method_13_code q.1 = .ok q.2)) = true := by decide +kernel
def kco_76_32 : List (Nat × Instr × Nat) := [(1025, .lload 81, 2), (1027, .bipush (25), 2), (1029, .lshl, 1), (1030, .lsub, 1), (1031, .lastore, 1), (1032, .lload 77, 2), (1034, .ldc2_w 105, 3), (1037, .ladd, 1), (1038, .bipush (26), 2), (1040, .lshr, 1), (1041, .lstore 81, 2), (1043, .lload 79, 2), (1045, .lload 81, 2), (1047, .ladd, 1), (1048, .lstore 79, 2), (1050, .aload_n 2, 1), (1051, .bipush (8), 2), (1053, .lload 77, 2), (1055, .lload 81, 2)]
theorem kco_76_t32 : kco_76_32.all (fun q => decide (decode prog_3_method_13_code q.1 = .ok q.2)) = true := by decide +kernel
def kco_76_33 : List (Nat × Instr × Nat) := [(1057, .bipush (26), 2), (1059, .lshl, 1), (1060, .lsub, 1), (1061, .lastore, 1), (1062, .lload 79, 2), (1064, .ldc2_w 107, 3), (1067, .ladd, 1), (1068, .bipush (25), 2), (1070, .lshr, 1), (1071, .lstore 81, 2), (1073, .lload 61, 2), (1075, .ldc2_w 99, 3), (1078, .lload 81, 2), (1080, .lmul, 1), (1081, .ladd, 1), (1082, .lstore 61, 2), (1084, .aload_n 2, 1), (1085, .bipush (9), 2), (1087, .lload 79, 2)]
theorem kco_76_t33 : kco_76_33.all (fun q => decide (decode prog_3_method_13_code q.1 = .ok q.2)) = true := by decide +kernel
def kco_76_34 : List (Nat × Instr × Nat) := [(1089, .lload 81, 2), (1091, .bipush (25), 2), (1093, .lshl, 1), (1094, .lsub, 1), (1095, .lastore, 1), (1096, .lload 61, 2), (1098, .ldc2_w 105, 3), (1101, .ladd, 1), (1102, .bipush (26), 2), (1104, .lshr, 1), (1105, .lstore 81, 2), (1107, .aload_n 2, 1), (1108, .iconst (1), 1), (1109, .dup2, 1), (1110, .laload, 1), (1111, .lload 81, 2), (1113, .ladd, 1), (1114, .lastore, 1), (1115, .aload_n 2, 1), (1116, .iconst (0), 1), (1117, .lload 61, 2), (1119, .lload 81, 2)]
theorem kco_76_t34 : kco_76_34.all (fun q => decide (decode prog_3_method_13_code q.1 = .ok q.2)) = true := by decide +kernel
def kco_76_35 : List (Nat × Instr × Nat) := [(1121, .bipush (26), 2), (1123, .lshl, 1), (1124, .lsub, 1), (1125, .lastore, 1), (1126, .return_, 1)]
theorem kco_76_t35 : kco_76_35.all (fun q => decide (decode prog_3_method_13_code q.1 = .ok q.2)) = true := by decide +kernel
def kco_76 : List (List (Nat × Instr × Nat)) := [kco_76_0, kco_76_1, kco_76_2, kco_76_3, kco_76_4, kco_76_5, kco_76_6, kco_76_7, kco_76_8, kco_76_9, kco_76_10, kco_76_11, kco_76_12, kco_76_13, kco_76_14, kco_76_15, kco_76_16, kco_76_17, kco_76_18, kco_76_19, kco_76_20, kco_76_21, kco_76_22, kco_76_23, kco_76_24, kco_76_25, kco_76_26, kco_76_27, kco_76_28, kco_76_29, kco_76_30, kco_76_31, kco_76_32, kco_76_33, kco_76_34, kco_76_35]
theorem kco_76_ok : ∀ pc i n, ck_cdAt kco_76 pc = some (i, n) → decode prog_3_method_13_code pc = .ok (i, n) := ck_cd_ok (List.forall_mem_cons.mpr ⟨kco_76_t0, (List.forall_mem_cons.mpr ⟨kco_76_t1, (List.forall_mem_cons.mpr ⟨kco_76_t2, (List.forall_mem_cons.mpr ⟨kco_76_t3, (List.forall_mem_cons.mpr ⟨kco_76_t4, (List.forall_mem_cons.mpr ⟨kco_76_t5, (List.forall_mem_cons.mpr ⟨kco_76_t6, (List.forall_mem_cons.mpr ⟨kco_76_t7, (List.forall_mem_cons.mpr ⟨kco_76_t8, (List.forall_mem_cons.mpr ⟨kco_76_t9, (List.forall_mem_cons.mpr ⟨kco_76_t10, (List.forall_mem_cons.mpr ⟨kco_76_t11, (List.forall_mem_cons.mpr ⟨kco_76_t12, (List.forall_mem_cons.mpr ⟨kco_76_t13, (List.forall_mem_cons.mpr ⟨kco_76_t14, (List.forall_mem_cons.mpr ⟨kco_76_t15, (List.forall_mem_cons.mpr ⟨kco_76_t16, (List.forall_mem_cons.mpr ⟨kco_76_t17, (List.forall_mem_cons.mpr ⟨kco_76_t18, (List.forall_mem_cons.mpr ⟨kco_76_t19, (List.forall_mem_cons.mpr ⟨kco_76_t20, (List.forall_mem_cons.mpr ⟨kco_76_t21, (List.forall_mem_cons.mpr ⟨kco_76_t22, (List.forall_mem_cons.mpr ⟨kco_76_t23, (List.forall_mem_cons.mpr ⟨kco_76_t24, (List.forall_mem_cons.mpr ⟨kco_76_t25, (List.forall_mem_cons.mpr ⟨kco_76_t26, (List.forall_mem_cons.mpr ⟨kco_76_t27, (List.forall_mem_cons.mpr ⟨kco_76_t28, (List.forall_mem_cons.mpr ⟨kco_76_t29, (List.forall_mem_cons.mpr ⟨kco_76_t30, (List.forall_mem_cons.mpr ⟨kco_76_t31, (List.forall_mem_cons.mpr ⟨kco_76_t32, (List.forall_mem_cons.mpr ⟨kco_76_t33, (List.forall_mem_cons.mpr ⟨kco_76_t34, (List.forall_mem_cons.mpr ⟨kco_76_t35, (fun _ h => by cases h)⟩)⟩)⟩)⟩)⟩)⟩)⟩)⟩)⟩)⟩)⟩)⟩)⟩)⟩)⟩)⟩)⟩)⟩)⟩)⟩)⟩)⟩)⟩)⟩)⟩)⟩)⟩)⟩)⟩)⟩)⟩)⟩)⟩)⟩)⟩)⟩)
end
section
/-! ===== code, read ===== -/
def kco_77_0 : List (Nat × Instr × Nat) := [(0, .lconst (0), 1), (1, .lstore_n 2, 1), (2, .iconst (0), 1), (3, .istore 4, 2), (5, .iload 4, 2), (7, .bipush (10), 2), (9, .if_icmp .ge (54), 3), (12, .bipush (26), 2), (14, .iload 4, 2), (16, .iconst (1), 1), (17, .iand, 1), (18, .isub, 1), (19, .istore 5, 2), (21, .ldc2_w 101, 3), (24, .aload_n 0, 1), (25, .iload 4, 2), (27, .laload, 1), (28, .lmul, 1), (29, .lload_n 2, 1), (30, .ladd, 1), (31, .lstore 6, 2)]
theorem kco_77_t0 : kco_77_0.all (fun q => decide (decode prog_3_method_12_code q.1 = .ok q.2)) = true := by decide +kernel
def kco_77_1 : List (Nat × Instr × Nat) := [(33, .lload 6, 2), (35, .lconst (1), 1), (36, .iload 5, 2), (38, .iconst (1), 1), (39, .isub, 1), (40, .lshl, 1), (41, .ladd, 1), (42, .iload 5, 2), (44, .lshr, 1), (45, .lstore_n 2, 1), (46, .aload_n 1, 1), (47, .iload 4, 2), (49, .lload 6, 2), (51, .lload_n 2, 1), (52, .iload 5, 2), (54, .lshl, 1), (55, .lsub, 1), (56, .lastore, 1), (57, .iinc 4 (1), 3), (60, .goto (-55), 3), (63, .aload_n 1, 1)]
theorem kco_77_t1 : kco_77_1.all (fun q => decide (decode prog_3_method_12_code q.1 = .ok q.2)) = true := by decide +kernel
def kco_77_2 : List (Nat × Instr × Nat) := [(64, .iconst (0), 1), (65, .dup2, 1), (66, .laload, 1), (67, .ldc2_w 99, 3), (70, .lload_n 2, 1), (71, .lmul, 1), (72, .ladd, 1), (73, .lastore, 1), (74, .return_, 1)]
theorem kco_77_t2 : kco_77_2.all (fun q => decide (decode prog_3_method_12_code q.1 = .ok q.2)) = true := by decide +kernel
def kco_77 : List (List (Nat × Instr × Nat)) := [kco_77_0, kco_77_1, kco_77_2]
theorem kco_77_ok : ∀ pc i n, ck_cdAt kco_77 pc = some (i, n) → decode prog_3_method_12_code pc = .ok (i, n) := ck_cd_ok (List.forall_mem_cons.mpr ⟨kco_77_t0, (List.forall_mem_cons.mpr ⟨kco_77_t1, (List.forall_mem_cons.mpr ⟨kco_77_t2, (fun _ h => by cases h)⟩)⟩)⟩)
def kco_78_0 : List (Nat × Instr × Nat) := [(0, .aload_n 1, 1), (1, .aload_n 2, 1), (2, .aload_n 0, 1), (3, .getfield 31, 3), (6, .invokestatic 90, 3), (9, .aload_n 1, 1), (10, .aload_n 2, 1), (11, .aload_n 0, 1), (12, .getfield 34, 3), (15, .invokestatic 93, 3), (18, .aload_n 0, 1), (19, .getfield 31, 3), (22, .aload_n 0, 1), (23, .getfield 31, 3), (26, .aload_n 0, 1), (27, .getfield 37, 3), (30, .invokestatic 78, 3)]
theorem kco_78_t0 : kco_78_0.all (fun q => decide (decode prog_3_method_4_code q.1 = .ok q.2)) = true := by decide +kernel
def kco_78_1 : List (Nat × Instr × Nat) := [(33, .aload_n 0, 1), (34, .getfield 34, 3), (37, .aload_n 0, 1), (38, .getfield 34, 3), (41, .aload_n 0, 1), (42, .getfield 40, 3), (45, .invokestatic 78, 3), (48, .aload_n 0, 1), (49, .getfield 37, 3), (52, .aload_n 0, 1), (53, .getfield 40, 3), (56, .aload_n 0, 1), (57, .getfield 43, 3), (60, .invokestatic 93, 3), (63, .aload_n 3, 1)]
theorem kco_78_t1 : kco_78_1.all (fun q => decide (decode prog_3_method_4_code q.1 = .ok q.2)) = true := by decide +kernel
def kco_78_2 : List (Nat × Instr × Nat) := [(64, .aload 4, 2), (66, .aload_n 0, 1), (67, .getfield 46, 3), (70, .invokestatic 93, 3), (73, .aload_n 0, 1), (74, .getfield 46, 3), (77, .aload_n 0, 1), (78, .getfield 31, 3), (81, .aload_n 0, 1), (82, .getfield 46, 3), (85, .invokestatic 78, 3), (88, .aload_n 3, 1), (89, .aload 4, 2), (91, .aload_n 0, 1), (92, .getfield 49, 3), (95, .invokestatic 90, 3)]
theorem kco_78_t2 : kco_78_2.all (fun q => decide (decode prog_3_method_4_code q.1 = .ok q.2)) = true := by decide +kernel
def kco_78_3 : List (Nat × Instr × Nat) := [(98, .aload_n 0, 1), (99, .getfield 49, 3), (102, .aload_n 0, 1), (103, .getfield 34, 3), (106, .aload_n 0, 1), (107, .getfield 49, 3), (110, .invokestatic 78, 3), (113, .aload_n 0, 1), (114, .getfield 46, 3), (117, .aload_n 0, 1), (118, .getfield 49, 3), (121, .aload_n 3, 1), (122, .invokestatic 90, 3), (125, .aload_n 3, 1), (126, .aload_n 3, 1), (127, .aload_n 3, 1)]
theorem kco_78_t3 : kco_78_3.all (fun q => decide (decode prog_3_method_4_code q.1 = .ok q.2)) = true := by decide +kernel
def kco_78_4 : List (Nat × Instr × Nat) := [(128, .invokestatic 78, 3), (131, .aload_n 0, 1), (132, .getfield 46, 3), (135, .aload_n 0, 1), (136, .getfield 49, 3), (139, .aload 4, 2), (141, .invokestatic 93, 3), (144, .aload 4, 2), (146, .aload 4, 2), (148, .aload 4, 2), (150, .invokestatic 78, 3), (153, .aload_n 0, 1), (154, .getfield 15, 3), (157, .aload 4, 2), (159, .aload 4, 2)]
theorem kco_78_t4 : kco_78_4.all (fun q => decide (decode prog_3_method_4_code q.1 = .ok q.2)) = true := by decide +kernel
def kco_78_5 : List (Nat × Instr × Nat) := [(161, .invokestatic 78, 3), (164, .aload_n 0, 1), (165, .getfield 37, 3), (168, .aload_n 0, 1), (169, .getfield 40, 3), (172, .aload_n 1, 1), (173, .invokestatic 78, 3), (176, .aload_n 0, 1), (177, .getfield 43, 3), (180, .aload_n 2, 1), (181, .invokestatic 96, 3), (184, .aload_n 0, 1), (185, .getfield 37, 3), (188, .aload_n 2, 1), (189, .aload_n 2, 1), (190, .invokestatic 90, 3)]
theorem kco_78_t5 : kco_78_5.all (fun q => decide (decode prog_3_method_4_code q.1 = .ok q.2)) = true := by decide +kernel
def kco_78_6 : List (Nat × Instr × Nat) := [(193, .aload_n 0, 1), (194, .getfield 43, 3), (197, .aload_n 2, 1), (198, .aload_n 2, 1), (199, .invokestatic 78, 3), (202, .return_, 1)]
theorem kco_78_t6 : kco_78_6.all (fun q => decide (decode prog_3_method_4_code q.1 = .ok q.2)) = true := by decide +kernel
def kco_78 : List (List (Nat × Instr × Nat)) := [kco_78_0, kco_78_1, kco_78_2, kco_78_3, kco_78_4, kco_78_5, kco_78_6]
theorem kco_78_ok : ∀ pc i n, ck_cdAt kco_78 pc = some (i, n) → decode prog_3_method_4_code pc = .ok (i, n) := ck_cd_ok (List.forall_mem_cons.mpr ⟨kco_78_t0, (List.forall_mem_cons.mpr ⟨kco_78_t1, (List.forall_mem_cons.mpr ⟨kco_78_t2, (List.forall_mem_cons.mpr ⟨kco_78_t3, (List.forall_mem_cons.mpr ⟨kco_78_t4, (List.forall_mem_cons.mpr ⟨kco_78_t5, (List.forall_mem_cons.mpr ⟨kco_78_t6, (fun _ h => by cases h)⟩)⟩)⟩)⟩)⟩)⟩)⟩)
def kco_79_0 : List (Nat × Instr × Nat) := [(0, .aload_n 0, 1), (1, .iconst (0), 1), (2, .aload_n 1, 1), (3, .iconst (0), 1), (4, .bipush (10), 2), (6, .invokestatic 60, 3), (9, .sipush (253), 3), (12, .istore_n 2, 1), (13, .iload_n 2, 1), (14, .ifCond .lt (31), 3), (17, .aload_n 1, 1), (18, .aload_n 1, 1), (19, .aload_n 1, 1), (20, .invokestatic 78, 3), (23, .iload_n 2, 1), (24, .iconst (4), 1), (25, .if_icmp .eq (14), 3), (28, .iload_n 2, 1), (29, .iconst (2), 1), (30, .if_icmp .eq (9), 3)]
theorem kco_79_t0 : kco_79_0.all (fun q => decide (decode prog_3_method_5_code q.1 = .ok q.2)) = true := by decide +kernel
def kco_79_1 : List (Nat × Instr × Nat) := [(33, .aload_n 1, 1), (34, .aload_n 0, 1), (35, .aload_n 1, 1), (36, .invokestatic 78, 3), (39, .iinc 2 (-1), 3), (42, .goto (-29), 3), (45, .return_, 1)]
theorem kco_79_t1 : kco_79_1.all (fun q => decide (decode prog_3_method_5_code q.1 = .ok q.2)) = true := by decide +kernel
def kco_79 : List (List (Nat × Instr × Nat)) := [kco_79_0, kco_79_1]
theorem kco_79_ok : ∀ pc i n, ck_cdAt kco_79 pc = some (i, n) → decode prog_3_method_5_code pc = .ok (i, n) := ck_cd_ok (List.forall_mem_cons.mpr ⟨kco_79_t0, (List.forall_mem_cons.mpr ⟨kco_79_t1, (fun _ h => by cases h)⟩)⟩)
def kco_80_0 : List (Nat × Instr × Nat) := [(0, .lconst (0), 1), (1, .lstore_n 1, 1), (2, .iconst (0), 1), (3, .istore_n 3, 1), (4, .iload_n 3, 1), (5, .bipush (10), 2), (7, .if_icmp .ge (22), 3), (10, .aload_n 0, 1), (11, .iload_n 3, 1), (12, .laload, 1), (13, .lload_n 1, 1), (14, .ladd, 1), (15, .bipush (26), 2), (17, .iload_n 3, 1), (18, .iconst (1), 1), (19, .iand, 1), (20, .isub, 1), (21, .lshr, 1), (22, .lstore_n 1, 1), (23, .iinc 3 (1), 3), (26, .goto (-22), 3), (29, .ldc2_w 99, 3)]
theorem kco_80_t0 : kco_80_0.all (fun q => decide (decode prog_3_method_9_code q.1 = .ok q.2)) = true := by decide +kernel
def kco_80_1 : List (Nat × Instr × Nat) := [(32, .lload_n 1, 1), (33, .lmul, 1), (34, .lstore_n 3, 1), (35, .iconst (0), 1), (36, .istore 5, 2), (38, .iload 5, 2), (40, .bipush (10), 2), (42, .if_icmp .ge (43), 3), (45, .bipush (26), 2), (47, .iload 5, 2), (49, .iconst (1), 1), (50, .iand, 1), (51, .isub, 1), (52, .istore 6, 2), (54, .aload_n 0, 1), (55, .iload 5, 2), (57, .laload, 1), (58, .lload_n 3, 1), (59, .ladd, 1), (60, .lstore 7, 2), (62, .lload 7, 2)]
theorem kco_80_t1 : kco_80_1.all (fun q => decide (decode prog_3_method_9_code q.1 = .ok q.2)) = true := by decide +kernel
def kco_80_2 : List (Nat × Instr × Nat) := [(64, .iload 6, 2), (66, .lshr, 1), (67, .lstore_n 3, 1), (68, .aload_n 0, 1), (69, .iload 5, 2), (71, .lload 7, 2), (73, .lload_n 3, 1), (74, .iload 6, 2), (76, .lshl, 1), (77, .lsub, 1), (78, .lastore, 1), (79, .iinc 5 (1), 3), (82, .goto (-44), 3), (85, .return_, 1)]
theorem kco_80_t2 : kco_80_2.all (fun q => decide (decode prog_3_method_9_code q.1 = .ok q.2)) = true := by decide +kernel
def kco_80 : List (List (Nat × Instr × Nat)) := [kco_80_0, kco_80_1, kco_80_2]
theorem kco_80_ok : ∀ pc i n, ck_cdAt kco_80 pc = some (i, n) → decode prog_3_method_9_code pc = .ok (i, n) := ck_cd_ok (List.forall_mem_cons.mpr ⟨kco_80_t0, (List.forall_mem_cons.mpr ⟨kco_80_t1, (List.forall_mem_cons.mpr ⟨kco_80_t2, (fun _ h => by cases h)⟩)⟩)⟩)
def kco_81_0 : List (Nat × Instr × Nat) := [(0, .iconst (0), 1), (1, .istore_n 2, 1), (2, .iload_n 2, 1), (3, .bipush (32), 2), (5, .if_icmp .ge (13), 3), (8, .aload_n 1, 1), (9, .iload_n 2, 1), (10, .iconst (0), 1), (11, .iastore, 1), (12, .iinc 2 (1), 3), (15, .goto (-13), 3), (18, .iconst (0), 1), (19, .istore_n 2, 1), (20, .iconst (0), 1), (21, .istore_n 3, 1), (22, .iload_n 3, 1), (23, .bipush (10), 2), (25, .if_icmp .ge (58), 3), (28, .bipush (26), 2), (30, .iload_n 3, 1), (31, .iconst (1), 1)]
theorem kco_81_t0 : kco_81_0.all (fun q => decide (decode prog_3_method_8_code q.1 = .ok q.2)) = true := by decide +kernel
def kco_81_1 : List (Nat × Instr × Nat) := [(32, .iand, 1), (33, .isub, 1), (34, .istore 4, 2), (36, .iconst (0), 1), (37, .istore 5, 2), (39, .iload 5, 2), (41, .iload 4, 2), (43, .if_icmp .ge (34), 3), (46, .aload_n 1, 1), (47, .iload_n 2, 1), (48, .iconst (3), 1), (49, .ishr, 1), (50, .dup2, 1), (51, .iaload, 1), (52, .aload_n 0, 1), (53, .iload_n 3, 1), (54, .laload, 1), (55, .iload 5, 2), (57, .lshr, 1), (58, .lconst (1), 1), (59, .land, 1), (60, .l2i, 1), (61, .iload_n 2, 1), (62, .bipush (7), 2)]
theorem kco_81_t1 : kco_81_1.all (fun q => decide (decode prog_3_method_8_code q.1 = .ok q.2)) = true := by decide +kernel
def kco_81_2 : List (Nat × Instr × Nat) := [(64, .iand, 1), (65, .ishl, 1), (66, .ior, 1), (67, .iastore, 1), (68, .iinc 2 (1), 3), (71, .iinc 5 (1), 3), (74, .goto (-35), 3), (77, .iinc 3 (1), 3), (80, .goto (-58), 3), (83, .return_, 1)]
theorem kco_81_t2 : kco_81_2.all (fun q => decide (decode prog_3_method_8_code q.1 = .ok q.2)) = true := by decide +kernel
def kco_81 : List (List (Nat × Instr × Nat)) := [kco_81_0, kco_81_1, kco_81_2]
theorem kco_81_ok : ∀ pc i n, ck_cdAt kco_81 pc = some (i, n) → decode prog_3_method_8_code pc = .ok (i, n) := ck_cd_ok (List.forall_mem_cons.mpr ⟨kco_81_t0, (List.forall_mem_cons.mpr ⟨kco_81_t1, (List.forall_mem_cons.mpr ⟨kco_81_t2, (fun _ h => by cases h)⟩)⟩)⟩)
def kco_82_0 : List (Nat × Instr × Nat) := [(0, .aload_n 2, 1), (1, .aload_n 0, 1), (2, .getfield 15, 3), (5, .invokestatic 52, 3), (8, .aload_n 0, 1), (9, .getfield 19, 3), (12, .iconst (1), 1), (13, .invokestatic 56, 3), (16, .aload_n 0, 1), (17, .getfield 22, 3), (20, .iconst (0), 1), (21, .invokestatic 56, 3), (24, .aload_n 0, 1), (25, .getfield 15, 3), (28, .iconst (0), 1), (29, .aload_n 0, 1), (30, .getfield 25, 3)]
theorem kco_82_t0 : kco_82_0.all (fun q => decide (decode prog_3_method_2_code q.1 = .ok q.2)) = true := by decide +kernel
def kco_82_1 : List (Nat × Instr × Nat) := [(33, .iconst (0), 1), (34, .bipush (10), 2), (36, .invokestatic 60, 3), (39, .aload_n 0, 1), (40, .getfield 28, 3), (43, .iconst (1), 1), (44, .invokestatic 56, 3), (47, .sipush (254), 3), (50, .istore 4, 2), (52, .iload 4, 2), (54, .ifCond .lt (61), 3), (57, .aload_n 1, 1), (58, .iload 4, 2), (60, .invokestatic 66, 3), (63, .ifCond .eq (26), 3)]
theorem kco_82_t1 : kco_82_1.all (fun q => decide (decode prog_3_method_2_code q.1 = .ok q.2)) = true := by decide +kernel
def kco_82_2 : List (Nat × Instr × Nat) := [(66, .aload_n 0, 1), (67, .aload_n 0, 1), (68, .getfield 25, 3), (71, .aload_n 0, 1), (72, .getfield 28, 3), (75, .aload_n 0, 1), (76, .getfield 19, 3), (79, .aload_n 0, 1), (80, .getfield 22, 3), (83, .invokevirtual 70, 3), (86, .goto (23), 3), (89, .aload_n 0, 1), (90, .aload_n 0, 1), (91, .getfield 19, 3), (94, .aload_n 0, 1), (95, .getfield 22, 3)]
theorem kco_82_t2 : kco_82_2.all (fun q => decide (decode prog_3_method_2_code q.1 = .ok q.2)) = true := by decide +kernel
def kco_82_3 : List (Nat × Instr × Nat) := [(98, .aload_n 0, 1), (99, .getfield 25, 3), (102, .aload_n 0, 1), (103, .getfield 28, 3), (106, .invokevirtual 70, 3), (109, .iinc 4 (-1), 3), (112, .goto (-60), 3), (115, .aload_n 0, 1), (116, .getfield 22, 3), (119, .aload_n 0, 1), (120, .getfield 25, 3), (123, .invokestatic 74, 3), (126, .aload_n 0, 1), (127, .getfield 19, 3)]
theorem kco_82_t3 : kco_82_3.all (fun q => decide (decode prog_3_method_2_code q.1 = .ok q.2)) = true := by decide +kernel
def kco_82_4 : List (Nat × Instr × Nat) := [(130, .aload_n 0, 1), (131, .getfield 25, 3), (134, .aload_n 0, 1), (135, .getfield 19, 3), (138, .invokestatic 78, 3), (141, .aload_n 0, 1), (142, .getfield 19, 3), (145, .invokestatic 82, 3), (148, .aload_n 0, 1), (149, .getfield 19, 3), (152, .aload_n 3, 1), (153, .invokestatic 86, 3), (156, .return_, 1)]
theorem kco_82_t4 : kco_82_4.all (fun q => decide (decode prog_3_method_2_code q.1 = .ok q.2)) = true := by decide +kernel
def kco_82 : List (List (Nat × Instr × Nat)) := [kco_82_0, kco_82_1, kco_82_2, kco_82_3, kco_82_4]
theorem kco_82_ok : ∀ pc i n, ck_cdAt kco_82 pc = some (i, n) → decode prog_3_method_2_code pc = .ok (i, n) := ck_cd_ok (List.forall_mem_cons.mpr ⟨kco_82_t0, (List.forall_mem_cons.mpr ⟨kco_82_t1, (List.forall_mem_cons.mpr ⟨kco_82_t2, (List.forall_mem_cons.mpr ⟨kco_82_t3, (List.forall_mem_cons.mpr ⟨kco_82_t4, (fun _ h => by cases h)⟩)⟩)⟩)⟩)⟩)
def kco_83_0 : List (Nat × Instr × Nat) := [(0, .aload_n 0, 1), (1, .getfield 31, 3), (4, .ifCond .ne (24), 3), (7, .aload_n 1, 1), (8, .aload_n 0, 1), (9, .getfield 9, 3), (12, .aload_n 1, 1), (13, .getfield 39, 3), (16, .aload_n 0, 1), (17, .getfield 15, 3), (20, .invokevirtual 44, 3), (23, .aload_n 0, 1), (24, .iconst (1), 1), (25, .putfield 31, 3), (28, .aload_n 0, 1), (29, .getfield 15, 3)]
theorem kco_83_t0 : kco_83_0.all (fun q => decide (decode prog_10_method_4_code q.1 = .ok q.2)) = true := by decide +kernel
def kco_83_1 : List (Nat × Instr × Nat) := [(32, .areturn, 1)]
theorem kco_83_t1 : kco_83_1.all (fun q => decide (decode prog_10_method_4_code q.1 = .ok q.2)) = true := by decide +kernel
def kco_83 : List (List (Nat × Instr × Nat)) := [kco_83_0, kco_83_1]
theorem kco_83_ok : ∀ pc i n, ck_cdAt kco_83 pc = some (i, n) → decode prog_10_method_4_code pc = .ok (i, n) := ck_cd_ok (List.forall_mem_cons.mpr ⟨kco_83_t0, (List.forall_mem_cons.mpr ⟨kco_83_t1, (fun _ h => by cases h)⟩)⟩)
def kco_84_0 : List (Nat × Instr × Nat) := [(0, .aload_n 0, 1), (1, .getfield 16, 3), (4, .iload_n 1, 1), (5, .aaload, 1), (6, .getfield 282, 3), (9, .aload_n 0, 1), (10, .getfield 42, 3), (13, .getfield 72, 3), (16, .invokevirtual 156, 3), (19, .astore_n 3, 1), (20, .aload_n 0, 1), (21, .getfield 16, 3), (24, .iload_n 2, 1), (25, .aaload, 1), (26, .getfield 282, 3), (29, .aload_n 0, 1), (30, .getfield 42, 3)]
theorem kco_84_t0 : kco_84_0.all (fun q => decide (decode prog_1_method_27_code q.1 = .ok q.2)) = true := by decide +kernel
def kco_84_1 : List (Nat × Instr × Nat) := [(33, .getfield 72, 3), (36, .invokevirtual 156, 3), (39, .astore 4, 2), (41, .aload_n 3, 1), (42, .iconst (0), 1), (43, .aload_n 0, 1), (44, .getfield 47, 3), (47, .getfield 292, 3), (50, .iconst (0), 1), (51, .bipush (32), 2), (53, .invokestatic 295, 3), (56, .aload 4, 2), (58, .iconst (0), 1), (59, .aload_n 0, 1), (60, .getfield 47, 3), (63, .getfield 292, 3)]
theorem kco_84_t1 : kco_84_1.all (fun q => decide (decode prog_1_method_27_code q.1 = .ok q.2)) = true := by decide +kernel
def kco_84_2 : List (Nat × Instr × Nat) := [(66, .bipush (32), 2), (68, .bipush (32), 2), (70, .invokestatic 295, 3), (73, .return_, 1)]
theorem kco_84_t2 : kco_84_2.all (fun q => decide (decode prog_1_method_27_code q.1 = .ok q.2)) = true := by decide +kernel
def kco_84 : List (List (Nat × Instr × Nat)) := [kco_84_0, kco_84_1, kco_84_2]
theorem kco_84_ok : ∀ pc i n, ck_cdAt kco_84 pc = some (i, n) → decode prog_1_method_27_code pc = .ok (i, n) := ck_cd_ok (List.forall_mem_cons.mpr ⟨kco_84_t0, (List.forall_mem_cons.mpr ⟨kco_84_t1, (List.forall_mem_cons.mpr ⟨kco_84_t2, (fun _ h => by cases h)⟩)⟩)⟩)
def kco_85_0 : List (Nat × Instr × Nat) := [(0, .aload_n 0, 1), (1, .iconst (0), 1), (2, .aload_n 1, 1), (3, .iconst (0), 1), (4, .bipush (32), 2), (6, .invokestatic 295, 3), (9, .return_, 1)]
theorem kco_85_t0 : kco_85_0.all (fun q => decide (decode prog_1_method_32_code q.1 = .ok q.2)) = true := by decide +kernel
def kco_85 : List (List (Nat × Instr × Nat)) := [kco_85_0]
theorem kco_85_ok : ∀ pc i n, ck_cdAt kco_85 pc = some (i, n) → decode prog_1_method_32_code pc = .ok (i, n) := ck_cd_ok (List.forall_mem_cons.mpr ⟨kco_85_t0, (fun _ h => by cases h)⟩)
def kco_86_0 : List (Nat × Instr × Nat) := [(0, .aload_n 0, 1), (1, .invokevirtual 77, 3), (4, .iconst (0), 1), (5, .istore_n 2, 1), (6, .iload_n 2, 1), (7, .bipush (32), 2), (9, .if_icmp .ge (21), 3), (12, .aload_n 0, 1), (13, .aload_n 0, 1), (14, .getfield 24, 3), (17, .iload_n 2, 1), (18, .iaload, 1), (19, .iload_n 1, 1), (20, .ixor, 1), (21, .invokevirtual 37, 3), (24, .iinc 2 (1), 3), (27, .goto (-21), 3), (30, .bipush (32), 2)]
theorem kco_86_t0 : kco_86_0.all (fun q => decide (decode prog_5_method_10_code q.1 = .ok q.2)) = true := by decide +kernel
def kco_86_1 : List (Nat × Instr × Nat) := [(32, .istore_n 2, 1), (33, .iload_n 2, 1), (34, .bipush (64), 2), (36, .if_icmp .ge (14), 3), (39, .aload_n 0, 1), (40, .iload_n 1, 1), (41, .invokevirtual 37, 3), (44, .iinc 2 (1), 3), (47, .goto (-14), 3), (50, .return_, 1)]
theorem kco_86_t1 : kco_86_1.all (fun q => decide (decode prog_5_method_10_code q.1 = .ok q.2)) = true := by decide +kernel
def kco_86 : List (List (Nat × Instr × Nat)) := [kco_86_0, kco_86_1]
theorem kco_86_ok : ∀ pc i n, ck_cdAt kco_86 pc = some (i, n) → decode prog_5_method_10_code pc = .ok (i, n) := ck_cd_ok (List.forall_mem_cons.mpr ⟨kco_86_t0, (List.forall_mem_cons.mpr ⟨kco_86_t1, (fun _ h => by cases h)⟩)⟩)
def kco_87_0 : List (Nat × Instr × Nat) := [(0, .aload_n 1, 1), (1, .aload_n 0, 1), (2, .getfield 24, 3), (5, .invokestatic 56, 3), (8, .aload_n 0, 1), (9, .bipush (54), 2), (11, .invokevirtual 60, 3), (14, .return_, 1)]
theorem kco_87_t0 : kco_87_0.all (fun q => decide (decode prog_5_method_7_code q.1 = .ok q.2)) = true := by decide +kernel
def kco_87 : List (List (Nat × Instr × Nat)) := [kco_87_0]
theorem kco_87_ok : ∀ pc i n, ck_cdAt kco_87 pc = some (i, n) → decode prog_5_method_7_code pc = .ok (i, n) := ck_cd_ok (List.forall_mem_cons.mpr ⟨kco_87_t0, (fun _ h => by cases h)⟩)
def kco_88_0 : List (Nat × Instr × Nat) := [(0, .aload_n 0, 1), (1, .getfield 12, 3), (4, .aload_n 0, 1), (5, .getfield 12, 3), (8, .getfield 45, 3), (11, .invokevirtual 48, 3), (14, .iconst (0), 1), (15, .istore_n 1, 1), (16, .iload_n 1, 1), (17, .bipush (32), 2), (19, .if_icmp .ge (19), 3), (22, .aload_n 0, 1), (23, .getfield 12, 3), (26, .sipush (255), 3), (29, .invokevirtual 52, 3)]
theorem kco_88_t0 : kco_88_0.all (fun q => decide (decode prog_11_method_2_code q.1 = .ok q.2)) = true := by decide +kernel
def kco_88_1 : List (Nat × Instr × Nat) := [(32, .iinc 1 (1), 3), (35, .goto (-19), 3), (38, .return_, 1)]
theorem kco_88_t1 : kco_88_1.all (fun q => decide (decode prog_11_method_2_code q.1 = .ok q.2)) = true := by decide +kernel
def kco_88 : List (List (Nat × Instr × Nat)) := [kco_88_0, kco_88_1]
theorem kco_88_ok : ∀ pc i n, ck_cdAt kco_88 pc = some (i, n) → decode prog_11_method_2_code pc = .ok (i, n) := ck_cd_ok (List.forall_mem_cons.mpr ⟨kco_88_t0, (List.forall_mem_cons.mpr ⟨kco_88_t1, (fun _ h => by cases h)⟩)⟩)
def kco_89_0 : List (Nat × Instr × Nat) := [(0, .iconst (0), 1), (1, .istore_n 3, 1), (2, .iload_n 3, 1), (3, .iload_n 2, 1), (4, .if_icmp .ge (16), 3), (7, .aload_n 0, 1), (8, .aload_n 1, 1), (9, .iload_n 3, 1), (10, .iaload, 1), (11, .invokevirtual 37, 3), (14, .iinc 3 (1), 3), (17, .goto (-15), 3), (20, .return_, 1)]
theorem kco_89_t0 : kco_89_0.all (fun q => decide (decode prog_5_method_4_code q.1 = .ok q.2)) = true := by decide +kernel
def kco_89 : List (List (Nat × Instr × Nat)) := [kco_89_0]
theorem kco_89_ok : ∀ pc i n, ck_cdAt kco_89 pc = some (i, n) → decode prog_5_method_4_code pc = .ok (i, n) := ck_cd_ok (List.forall_mem_cons.mpr ⟨kco_89_t0, (fun _ h => by cases h)⟩)
def kco_90_0 : List (Nat × Instr × Nat) := [(0, .aload_n 0, 1), (1, .getfield 21, 3), (4, .aload_n 1, 1), (5, .aload_n 2, 1), (6, .aload_n 0, 1), (7, .getfield 39, 3), (10, .invokevirtual 56, 3), (13, .aload_n 0, 1), (14, .getfield 12, 3), (17, .aload_n 0, 1), (18, .getfield 39, 3), (21, .bipush (32), 2), (23, .invokevirtual 60, 3), (26, .return_, 1)]
theorem kco_90_t0 : kco_90_0.all (fun q => decide (decode prog_11_method_3_code q.1 = .ok q.2)) = true := by decide +kernel
def kco_90 : List (List (Nat × Instr × Nat)) := [kco_90_0]
theorem kco_90_ok : ∀ pc i n, ck_cdAt kco_90 pc = some (i, n) → decode prog_11_method_3_code pc = .ok (i, n) := ck_cd_ok (List.forall_mem_cons.mpr ⟨kco_90_t0, (fun _ h => by cases h)⟩)
def kco_91_0 : List (Nat × Instr × Nat) := [(0, .aload_n 0, 1), (1, .aload_n 0, 1), (2, .getfield 27, 3), (5, .invokevirtual 63, 3), (8, .aload_n 0, 1), (9, .bipush (92), 2), (11, .invokevirtual 60, 3), (14, .aload_n 0, 1), (15, .aload_n 0, 1), (16, .getfield 27, 3), (19, .bipush (32), 2), (21, .invokevirtual 67, 3), (24, .aload_n 0, 1), (25, .aload_n 1, 1), (26, .invokevirtual 63, 3), (29, .return_, 1)]
theorem kco_91_t0 : kco_91_0.all (fun q => decide (decode prog_5_method_8_code q.1 = .ok q.2)) = true := by decide +kernel
def kco_91 : List (List (Nat × Instr × Nat)) := [kco_91_0]
theorem kco_91_ok : ∀ pc i n, ck_cdAt kco_91 pc = some (i, n) → decode prog_5_method_8_code pc = .ok (i, n) := ck_cd_ok (List.forall_mem_cons.mpr ⟨kco_91_t0, (fun _ h => by cases h)⟩)
def kco_92_0 : List (Nat × Instr × Nat) := [(0, .aload_n 0, 1), (1, .aload_n 0, 1), (2, .getfield 30, 3), (5, .invokevirtual 71, 3), (8, .aload_n 0, 1), (9, .aload_n 0, 1), (10, .getfield 30, 3), (13, .invokevirtual 74, 3), (16, .aload_n 0, 1), (17, .iload_n 1, 1), (18, .invokevirtual 37, 3), (21, .aload_n 0, 1), (22, .iconst (1), 1), (23, .invokevirtual 37, 3), (26, .aload_n 0, 1), (27, .aload_n 2, 1), (28, .invokevirtual 71, 3), (31, .aload_n 0, 1)]
theorem kco_92_t0 : kco_92_0.all (fun q => decide (decode prog_5_method_9_code q.1 = .ok q.2)) = true := by decide +kernel
def kco_92_1 : List (Nat × Instr × Nat) := [(32, .aload_n 0, 1), (33, .getfield 30, 3), (36, .invokevirtual 74, 3), (39, .aload_n 0, 1), (40, .aload_n 2, 1), (41, .bipush (32), 2), (43, .invokevirtual 67, 3), (46, .aload_n 0, 1), (47, .iload_n 1, 1), (48, .invokevirtual 37, 3), (51, .aload_n 0, 1), (52, .iconst (2), 1), (53, .invokevirtual 37, 3), (56, .aload_n 0, 1), (57, .aload_n 3, 1), (58, .invokevirtual 71, 3), (61, .return_, 1)]
theorem kco_92_t1 : kco_92_1.all (fun q => decide (decode prog_5_method_9_code q.1 = .ok q.2)) = true := by decide +kernel
def kco_92 : List (List (Nat × Instr × Nat)) := [kco_92_0, kco_92_1]
theorem kco_92_ok : ∀ pc i n, ck_cdAt kco_92 pc = some (i, n) → decode prog_5_method_9_code pc = .ok (i, n) := ck_cd_ok (List.forall_mem_cons.mpr ⟨kco_92_t0, (List.forall_mem_cons.mpr ⟨kco_92_t1, (fun _ h => by cases h)⟩)⟩)
def kco_93_0 : List (Nat × Instr × Nat) := [(0, .aload_n 0, 1), (1, .getfield 12, 3), (4, .bipush (88), 2), (6, .aload_n 1, 1), (7, .aload_n 0, 1), (8, .getfield 42, 3), (11, .invokevirtual 64, 3), (14, .return_, 1)]
theorem kco_93_t0 : kco_93_0.all (fun q => decide (decode prog_11_method_4_code q.1 = .ok q.2)) = true := by decide +kernel
def kco_93 : List (List (Nat × Instr × Nat)) := [kco_93_0]
theorem kco_93_ok : ∀ pc i n, ck_cdAt kco_93 pc = some (i, n) → decode prog_11_method_4_code pc = .ok (i, n) := ck_cd_ok (List.forall_mem_cons.mpr ⟨kco_93_t0, (fun _ h => by cases h)⟩)
end
section
/-! ===== code, read ===== -/
def kco_94_0 : List (Nat × Instr × Nat) := [(0, .aload_n 0, 1), (1, .getfield 42, 3), (4, .invokevirtual 301, 3), (7, .aload_n 0, 1), (8, .getfield 42, 3), (11, .aload_n 1, 1), (12, .getfield 282, 3), (15, .getfield 304, 3), (18, .aload_n 2, 1), (19, .getfield 153, 3), (22, .aload_n 0, 1), (23, .getfield 42, 3), (26, .getfield 72, 3), (29, .invokevirtual 156, 3)]
theorem kco_94_t0 : kco_94_0.all (fun q => decide (decode prog_1_method_28_code q.1 = .ok q.2)) = true := by decide +kernel
def kco_94_1 : List (Nat × Instr × Nat) := [(32, .invokevirtual 305, 3), (35, .aload_n 0, 1), (36, .getfield 42, 3), (39, .aload_n 0, 1), (40, .getfield 35, 3), (43, .getfield 304, 3), (46, .aload_n 2, 1), (47, .getfield 282, 3), (50, .aload_n 0, 1), (51, .getfield 42, 3), (54, .getfield 72, 3), (57, .invokevirtual 156, 3), (60, .invokevirtual 305, 3), (63, .aload_n 0, 1)]
theorem kco_94_t1 : kco_94_1.all (fun q => decide (decode prog_1_method_28_code q.1 = .ok q.2)) = true := by decide +kernel
def kco_94_2 : List (Nat × Instr × Nat) := [(64, .getfield 42, 3), (67, .aload_n 0, 1), (68, .getfield 35, 3), (71, .getfield 304, 3), (74, .aload_n 2, 1), (75, .getfield 153, 3), (78, .aload_n 0, 1), (79, .getfield 42, 3), (82, .getfield 72, 3), (85, .invokevirtual 156, 3), (88, .invokevirtual 305, 3), (91, .iload_n 3, 1), (92, .sipush (255), 3), (95, .if_icmp .eq (33), 3)]
theorem kco_94_t2 : kco_94_2.all (fun q => decide (decode prog_1_method_28_code q.1 = .ok q.2)) = true := by decide +kernel
def kco_94_3 : List (Nat × Instr × Nat) := [(98, .aload_n 0, 1), (99, .getfield 42, 3), (102, .aload_n 0, 1), (103, .getfield 35, 3), (106, .getfield 304, 3), (109, .aload_n 2, 1), (110, .getfield 115, 3), (113, .iload_n 3, 1), (114, .aaload, 1), (115, .aload_n 0, 1), (116, .getfield 42, 3), (119, .getfield 72, 3), (122, .invokevirtual 156, 3), (125, .invokevirtual 305, 3)]
theorem kco_94_t3 : kco_94_3.all (fun q => decide (decode prog_1_method_28_code q.1 = .ok q.2)) = true := by decide +kernel
def kco_94_4 : List (Nat × Instr × Nat) := [(128, .aload_n 0, 1), (129, .getfield 42, 3), (132, .aload_n 0, 1), (133, .getfield 47, 3), (136, .getfield 263, 3), (139, .invokevirtual 308, 3), (142, .return_, 1)]
theorem kco_94_t4 : kco_94_4.all (fun q => decide (decode prog_1_method_28_code q.1 = .ok q.2)) = true := by decide +kernel
def kco_94 : List (List (Nat × Instr × Nat)) := [kco_94_0, kco_94_1, kco_94_2, kco_94_3, kco_94_4]
theorem kco_94_ok : ∀ pc i n, ck_cdAt kco_94 pc = some (i, n) → decode prog_1_method_28_code pc = .ok (i, n) := ck_cd_ok (List.forall_mem_cons.mpr ⟨kco_94_t0, (List.forall_mem_cons.mpr ⟨kco_94_t1, (List.forall_mem_cons.mpr ⟨kco_94_t2, (List.forall_mem_cons.mpr ⟨kco_94_t3, (List.forall_mem_cons.mpr ⟨kco_94_t4, (fun _ h => by cases h)⟩)⟩)⟩)⟩)⟩)
def kco_95_0 : List (Nat × Instr × Nat) := [(0, .aload_n 0, 1), (1, .getfield 47, 3), (4, .iconst (0), 1), (5, .iload_n 1, 1), (6, .iastore, 1), (7, .aload_n 0, 1), (8, .getfield 47, 3), (11, .iconst (1), 1), (12, .iload_n 2, 1), (13, .iastore, 1), (14, .aload_n 3, 1), (15, .iconst (0), 1), (16, .aload_n 0, 1), (17, .getfield 47, 3), (20, .iconst (2), 1), (21, .bipush (32), 2), (23, .invokestatic 77, 3), (26, .aload_n 0, 1), (27, .iconst (1), 1), (28, .putfield 66, 3), (31, .return_, 1)]
theorem kco_95_t0 : kco_95_0.all (fun q => decide (decode prog_4_method_4_code q.1 = .ok q.2)) = true := by decide +kernel
def kco_95 : List (List (Nat × Instr × Nat)) := [kco_95_0]
theorem kco_95_ok : ∀ pc i n, ck_cdAt kco_95 pc = some (i, n) → decode prog_4_method_4_code pc = .ok (i, n) := ck_cd_ok (List.forall_mem_cons.mpr ⟨kco_95_t0, (fun _ h => by cases h)⟩)
def kco_96_0 : List (Nat × Instr × Nat) := [(0, .aload 4, 2), (2, .getfield 27, 3), (5, .aload_n 3, 1), (6, .invokevirtual 33, 3), (9, .aload 4, 2), (11, .aload_n 1, 1), (12, .aload_n 2, 1), (13, .invokevirtual 39, 3), (16, .aload 4, 2), (18, .getfield 27, 3), (21, .bipush (82), 2), (23, .aload_n 3, 1), (24, .aload_n 0, 1), (25, .getfield 9, 3), (28, .invokevirtual 42, 3), (31, .aload_n 0, 1)]
theorem kco_96_t0 : kco_96_0.all (fun q => decide (decode prog_2_method_4_code q.1 = .ok q.2)) = true := by decide +kernel
def kco_96_1 : List (Nat × Instr × Nat) := [(32, .iconst (0), 1), (33, .putfield 15, 3), (36, .aload_n 0, 1), (37, .iconst (1), 1), (38, .putfield 19, 3), (41, .return_, 1)]
theorem kco_96_t1 : kco_96_1.all (fun q => decide (decode prog_2_method_4_code q.1 = .ok q.2)) = true := by decide +kernel
def kco_96 : List (List (Nat × Instr × Nat)) := [kco_96_0, kco_96_1]
theorem kco_96_ok : ∀ pc i n, ck_cdAt kco_96 pc = some (i, n) → decode prog_2_method_4_code pc = .ok (i, n) := ck_cd_ok (List.forall_mem_cons.mpr ⟨kco_96_t0, (List.forall_mem_cons.mpr ⟨kco_96_t1, (fun _ h => by cases h)⟩)⟩)
def kco_97_0 : List (Nat × Instr × Nat) := [(0, .aload_n 0, 1), (1, .getfield 47, 3), (4, .getfield 172, 3), (7, .ifCond .eq (77), 3), (10, .aload_n 0, 1), (11, .aload_n 0, 1), (12, .getfield 47, 3), (15, .getfield 212, 3), (18, .invokevirtual 119, 3), (21, .aload_n 0, 1), (22, .getfield 47, 3), (25, .aload_n 0, 1), (26, .getfield 47, 3), (29, .getfield 237, 3)]
theorem kco_97_t0 : kco_97_0.all (fun q => decide (decode prog_1_method_31_code q.1 = .ok q.2)) = true := by decide +kernel
def kco_97_1 : List (Nat × Instr × Nat) := [(32, .getfield 241, 3), (35, .putfield 249, 3), (38, .aload_n 0, 1), (39, .getfield 47, 3), (42, .getfield 237, 3), (45, .aload_n 0, 1), (46, .getfield 47, 3), (49, .getfield 212, 3), (52, .getfield 304, 3), (55, .aload_n 0, 1), (56, .getfield 47, 3), (59, .getfield 160, 3), (62, .aload_n 0, 1), (63, .getfield 47, 3)]
theorem kco_97_t1 : kco_97_1.all (fun q => decide (decode prog_1_method_31_code q.1 = .ok q.2)) = true := by decide +kernel
def kco_97_2 : List (Nat × Instr × Nat) := [(66, .getfield 263, 3), (69, .aload_n 0, 1), (70, .getfield 42, 3), (73, .invokevirtual 317, 3), (76, .aload_n 0, 1), (77, .getfield 47, 3), (80, .iconst (0), 1), (81, .putfield 172, 3), (84, .aload_n 0, 1), (85, .getfield 22, 3), (88, .iload_n 1, 1), (89, .aaload, 1), (90, .astore_n 2, 1), (91, .aload_n 0, 1), (92, .getfield 22, 3), (95, .iload_n 1, 1)]
theorem kco_97_t2 : kco_97_2.all (fun q => decide (decode prog_1_method_31_code q.1 = .ok q.2)) = true := by decide +kernel
def kco_97_3 : List (Nat × Instr × Nat) := [(96, .aload_n 0, 1), (97, .getfield 47, 3), (100, .aastore, 1), (101, .aload_n 0, 1), (102, .aload_n 2, 1), (103, .putfield 47, 3), (106, .iload_n 1, 1), (107, .aload_n 0, 1), (108, .getfield 137, 3), (111, .if_icmp .ne (13), 3), (114, .aload_n 0, 1), (115, .dup, 1), (116, .getfield 137, 3), (119, .iconst (1), 1), (120, .iadd, 1), (121, .putfield 137, 3), (124, .return_, 1)]
theorem kco_97_t3 : kco_97_3.all (fun q => decide (decode prog_1_method_31_code q.1 = .ok q.2)) = true := by decide +kernel
def kco_97 : List (List (Nat × Instr × Nat)) := [kco_97_0, kco_97_1, kco_97_2, kco_97_3]
theorem kco_97_ok : ∀ pc i n, ck_cdAt kco_97 pc = some (i, n) → decode prog_1_method_31_code pc = .ok (i, n) := ck_cd_ok (List.forall_mem_cons.mpr ⟨kco_97_t0, (List.forall_mem_cons.mpr ⟨kco_97_t1, (List.forall_mem_cons.mpr ⟨kco_97_t2, (List.forall_mem_cons.mpr ⟨kco_97_t3, (fun _ h => by cases h)⟩)⟩)⟩)⟩)
def kco_98_0 : List (Nat × Instr × Nat) := [(0, .sipush (1024), 3), (3, .sipush (544), 3), (6, .iload_n 0, 1), (7, .imul, 1), (8, .iadd, 1), (9, .ireturn, 1)]
theorem kco_98_t0 : kco_98_0.all (fun q => decide (decode prog_13_method_39_code q.1 = .ok q.2)) = true := by decide +kernel
def kco_98 : List (List (Nat × Instr × Nat)) := [kco_98_0]
theorem kco_98_ok : ∀ pc i n, ck_cdAt kco_98 pc = some (i, n) → decode prog_13_method_39_code pc = .ok (i, n) := ck_cd_ok (List.forall_mem_cons.mpr ⟨kco_98_t0, (fun _ h => by cases h)⟩)
def kco_99_0 : List (Nat × Instr × Nat) := [(0, .aload_n 0, 1), (1, .getfield 58, 3), (4, .iload_n 1, 1), (5, .iload_n 2, 1), (6, .iastore, 1), (7, .aload_n 0, 1), (8, .getfield 61, 3), (11, .iload_n 1, 1), (12, .iload_n 3, 1), (13, .iastore, 1), (14, .aload_n 0, 1), (15, .getfield 64, 3), (18, .iload_n 1, 1), (19, .iload 4, 2), (21, .bastore, 1), (22, .aload_n 0, 1), (23, .getfield 67, 3), (26, .iload_n 1, 1), (27, .iconst (0), 1), (28, .bastore, 1), (29, .aload_n 0, 1), (30, .getfield 70, 3)]
theorem kco_99_t0 : kco_99_0.all (fun q => decide (decode prog_13_method_42_code q.1 = .ok q.2)) = true := by decide +kernel
def kco_99_1 : List (Nat × Instr × Nat) := [(33, .iload_n 1, 1), (34, .iconst (0), 1), (35, .bastore, 1), (36, .aload_n 0, 1), (37, .getfield 73, 3), (40, .iload_n 1, 1), (41, .iconst (0), 1), (42, .bastore, 1), (43, .aload_n 0, 1), (44, .getfield 76, 3), (47, .iload_n 1, 1), (48, .iconst (0), 1), (49, .iastore, 1), (50, .aload_n 0, 1), (51, .getfield 79, 3), (54, .iload_n 1, 1), (55, .iconst (0), 1), (56, .iastore, 1), (57, .aload_n 0, 1), (58, .getfield 82, 3), (61, .iload_n 1, 1), (62, .iconst (0), 1), (63, .iastore, 1)]
theorem kco_99_t1 : kco_99_1.all (fun q => decide (decode prog_13_method_42_code q.1 = .ok q.2)) = true := by decide +kernel
def kco_99_2 : List (Nat × Instr × Nat) := [(64, .aload_n 0, 1), (65, .getfield 85, 3), (68, .iload_n 1, 1), (69, .iconst (0), 1), (70, .iastore, 1), (71, .aload_n 0, 1), (72, .getfield 100, 3), (75, .iload_n 1, 1), (76, .lconst (0), 1), (77, .lastore, 1), (78, .iconst (0), 1), (79, .istore 5, 2), (81, .iload 5, 2), (83, .sipush (544), 3), (86, .if_icmp .ge (22), 3), (89, .aload_n 0, 1), (90, .getfield 7, 3), (93, .iload_n 1, 1), (94, .invokestatic 291, 3)]
theorem kco_99_t2 : kco_99_2.all (fun q => decide (decode prog_13_method_42_code q.1 = .ok q.2)) = true := by decide +kernel
def kco_99_3 : List (Nat × Instr × Nat) := [(97, .iload 5, 2), (99, .iadd, 1), (100, .iconst (0), 1), (101, .iastore, 1), (102, .iinc 5 (1), 3), (105, .goto (-24), 3), (108, .return_, 1)]
theorem kco_99_t3 : kco_99_3.all (fun q => decide (decode prog_13_method_42_code q.1 = .ok q.2)) = true := by decide +kernel
def kco_99 : List (List (Nat × Instr × Nat)) := [kco_99_0, kco_99_1, kco_99_2, kco_99_3]
theorem kco_99_ok : ∀ pc i n, ck_cdAt kco_99 pc = some (i, n) → decode prog_13_method_42_code pc = .ok (i, n) := ck_cd_ok (List.forall_mem_cons.mpr ⟨kco_99_t0, (List.forall_mem_cons.mpr ⟨kco_99_t1, (List.forall_mem_cons.mpr ⟨kco_99_t2, (List.forall_mem_cons.mpr ⟨kco_99_t3, (fun _ h => by cases h)⟩)⟩)⟩)⟩)
def kco_100_0 : List (Nat × Instr × Nat) := [(0, .iload_n 0, 1), (1, .iload_n 1, 1), (2, .iushr, 1), (3, .iload_n 0, 1), (4, .bipush (32), 2), (6, .iload_n 1, 1), (7, .isub, 1), (8, .ishl, 1), (9, .ior, 1), (10, .ireturn, 1)]
theorem kco_100_t0 : kco_100_0.all (fun q => decide (decode prog_13_method_6_code q.1 = .ok q.2)) = true := by decide +kernel
def kco_100 : List (List (Nat × Instr × Nat)) := [kco_100_0]
theorem kco_100_ok : ∀ pc i n, ck_cdAt kco_100 pc = some (i, n) → decode prog_13_method_6_code pc = .ok (i, n) := ck_cd_ok (List.forall_mem_cons.mpr ⟨kco_100_t0, (fun _ h => by cases h)⟩)
def kco_101_0 : List (Nat × Instr × Nat) := [(0, .iconst (0), 1), (1, .istore_n 2, 1), (2, .iload_n 2, 1), (3, .bipush (16), 2), (5, .if_icmp .ge (63), 3), (8, .iload_n 1, 1), (9, .iconst (4), 1), (10, .iload_n 2, 1), (11, .imul, 1), (12, .iadd, 1), (13, .istore_n 3, 1), (14, .aload_n 0, 1), (15, .getfield 28, 3), (18, .iload_n 2, 1), (19, .aload_n 0, 1), (20, .getfield 13, 3), (23, .iload_n 3, 1), (24, .iaload, 1), (25, .bipush (24), 2), (27, .ishl, 1), (28, .aload_n 0, 1), (29, .getfield 13, 3)]
theorem kco_101_t0 : kco_101_0.all (fun q => decide (decode prog_13_method_7_code q.1 = .ok q.2)) = true := by decide +kernel
def kco_101_1 : List (Nat × Instr × Nat) := [(32, .iload_n 3, 1), (33, .iconst (1), 1), (34, .iadd, 1), (35, .iaload, 1), (36, .bipush (16), 2), (38, .ishl, 1), (39, .ior, 1), (40, .aload_n 0, 1), (41, .getfield 13, 3), (44, .iload_n 3, 1), (45, .iconst (2), 1), (46, .iadd, 1), (47, .iaload, 1), (48, .bipush (8), 2), (50, .ishl, 1), (51, .ior, 1), (52, .aload_n 0, 1), (53, .getfield 13, 3), (56, .iload_n 3, 1), (57, .iconst (3), 1), (58, .iadd, 1), (59, .iaload, 1), (60, .ior, 1), (61, .iastore, 1), (62, .iinc 2 (1), 3)]
theorem kco_101_t1 : kco_101_1.all (fun q => decide (decode prog_13_method_7_code q.1 = .ok q.2)) = true := by decide +kernel
def kco_101_2 : List (Nat × Instr × Nat) := [(65, .goto (-63), 3), (68, .bipush (16), 2), (70, .istore_n 2, 1), (71, .iload_n 2, 1), (72, .bipush (64), 2), (74, .if_icmp .ge (100), 3), (77, .aload_n 0, 1), (78, .getfield 28, 3), (81, .iload_n 2, 1), (82, .bipush (15), 2), (84, .isub, 1), (85, .iaload, 1), (86, .istore_n 3, 1), (87, .aload_n 0, 1), (88, .getfield 28, 3), (91, .iload_n 2, 1), (92, .iconst (2), 1), (93, .isub, 1), (94, .iaload, 1), (95, .istore 4, 2)]
theorem kco_101_t2 : kco_101_2.all (fun q => decide (decode prog_13_method_7_code q.1 = .ok q.2)) = true := by decide +kernel
def kco_101_3 : List (Nat × Instr × Nat) := [(97, .iload_n 3, 1), (98, .bipush (7), 2), (100, .invokestatic 191, 3), (103, .iload_n 3, 1), (104, .bipush (18), 2), (106, .invokestatic 191, 3), (109, .ixor, 1), (110, .iload_n 3, 1), (111, .iconst (3), 1), (112, .iushr, 1), (113, .ixor, 1), (114, .istore_n 3, 1), (115, .iload 4, 2), (117, .bipush (17), 2), (119, .invokestatic 191, 3), (122, .iload 4, 2), (124, .bipush (19), 2), (126, .invokestatic 191, 3)]
theorem kco_101_t3 : kco_101_3.all (fun q => decide (decode prog_13_method_7_code q.1 = .ok q.2)) = true := by decide +kernel
def kco_101_4 : List (Nat × Instr × Nat) := [(129, .ixor, 1), (130, .iload 4, 2), (132, .bipush (10), 2), (134, .iushr, 1), (135, .ixor, 1), (136, .istore 4, 2), (138, .aload_n 0, 1), (139, .getfield 28, 3), (142, .iload_n 2, 1), (143, .aload_n 0, 1), (144, .getfield 28, 3), (147, .iload_n 2, 1), (148, .bipush (16), 2), (150, .isub, 1), (151, .iaload, 1), (152, .iload_n 3, 1), (153, .iadd, 1), (154, .aload_n 0, 1), (155, .getfield 28, 3), (158, .iload_n 2, 1), (159, .bipush (7), 2)]
theorem kco_101_t4 : kco_101_4.all (fun q => decide (decode prog_13_method_7_code q.1 = .ok q.2)) = true := by decide +kernel
def kco_101_5 : List (Nat × Instr × Nat) := [(161, .isub, 1), (162, .iaload, 1), (163, .iadd, 1), (164, .iload 4, 2), (166, .iadd, 1), (167, .iastore, 1), (168, .iinc 2 (1), 3), (171, .goto (-100), 3), (174, .iconst (0), 1), (175, .istore_n 2, 1), (176, .iload_n 2, 1), (177, .bipush (8), 2), (179, .if_icmp .ge (21), 3), (182, .aload_n 0, 1), (183, .getfield 25, 3), (186, .iload_n 2, 1), (187, .aload_n 0, 1), (188, .getfield 22, 3), (191, .iload_n 2, 1)]
theorem kco_101_t5 : kco_101_5.all (fun q => decide (decode prog_13_method_7_code q.1 = .ok q.2)) = true := by decide +kernel
def kco_101_6 : List (Nat × Instr × Nat) := [(192, .iaload, 1), (193, .iastore, 1), (194, .iinc 2 (1), 3), (197, .goto (-21), 3), (200, .iconst (0), 1), (201, .istore_n 2, 1), (202, .iload_n 2, 1), (203, .bipush (64), 2), (205, .if_icmp .ge (204), 3), (208, .aload_n 0, 1), (209, .getfield 25, 3), (212, .iconst (4), 1), (213, .iaload, 1), (214, .istore_n 3, 1), (215, .aload_n 0, 1), (216, .getfield 25, 3), (219, .iconst (0), 1), (220, .iaload, 1), (221, .istore 4, 2), (223, .aload_n 0, 1)]
theorem kco_101_t6 : kco_101_6.all (fun q => decide (decode prog_13_method_7_code q.1 = .ok q.2)) = true := by decide +kernel
def kco_101_7 : List (Nat × Instr × Nat) := [(224, .getfield 25, 3), (227, .bipush (7), 2), (229, .iaload, 1), (230, .iload_n 3, 1), (231, .bipush (6), 2), (233, .invokestatic 191, 3), (236, .iload_n 3, 1), (237, .bipush (11), 2), (239, .invokestatic 191, 3), (242, .ixor, 1), (243, .iload_n 3, 1), (244, .bipush (25), 2), (246, .invokestatic 191, 3), (249, .ixor, 1), (250, .iadd, 1), (251, .iload_n 3, 1), (252, .aload_n 0, 1), (253, .getfield 25, 3)]
theorem kco_101_t7 : kco_101_7.all (fun q => decide (decode prog_13_method_7_code q.1 = .ok q.2)) = true := by decide +kernel
def kco_101_8 : List (Nat × Instr × Nat) := [(256, .iconst (5), 1), (257, .iaload, 1), (258, .iand, 1), (259, .iload_n 3, 1), (260, .iconst (-1), 1), (261, .ixor, 1), (262, .aload_n 0, 1), (263, .getfield 25, 3), (266, .bipush (6), 2), (268, .iaload, 1), (269, .iand, 1), (270, .ixor, 1), (271, .iadd, 1), (272, .aload_n 0, 1), (273, .getfield 19, 3), (276, .iload_n 2, 1), (277, .iaload, 1), (278, .iadd, 1), (279, .aload_n 0, 1), (280, .getfield 28, 3), (283, .iload_n 2, 1), (284, .iaload, 1), (285, .iadd, 1), (286, .istore 5, 2)]
theorem kco_101_t8 : kco_101_8.all (fun q => decide (decode prog_13_method_7_code q.1 = .ok q.2)) = true := by decide +kernel
def kco_101_9 : List (Nat × Instr × Nat) := [(288, .iload 4, 2), (290, .iconst (2), 1), (291, .invokestatic 191, 3), (294, .iload 4, 2), (296, .bipush (13), 2), (298, .invokestatic 191, 3), (301, .ixor, 1), (302, .iload 4, 2), (304, .bipush (22), 2), (306, .invokestatic 191, 3), (309, .ixor, 1), (310, .iload 4, 2), (312, .aload_n 0, 1), (313, .getfield 25, 3), (316, .iconst (1), 1), (317, .iaload, 1), (318, .iand, 1), (319, .iload 4, 2)]
theorem kco_101_t9 : kco_101_9.all (fun q => decide (decode prog_13_method_7_code q.1 = .ok q.2)) = true := by decide +kernel
def kco_101_10 : List (Nat × Instr × Nat) := [(321, .aload_n 0, 1), (322, .getfield 25, 3), (325, .iconst (2), 1), (326, .iaload, 1), (327, .iand, 1), (328, .ixor, 1), (329, .aload_n 0, 1), (330, .getfield 25, 3), (333, .iconst (1), 1), (334, .iaload, 1), (335, .aload_n 0, 1), (336, .getfield 25, 3), (339, .iconst (2), 1), (340, .iaload, 1), (341, .iand, 1), (342, .ixor, 1), (343, .iadd, 1), (344, .istore 6, 2), (346, .bipush (7), 2), (348, .istore 7, 2), (350, .iload 7, 2)]
theorem kco_101_t10 : kco_101_10.all (fun q => decide (decode prog_13_method_7_code q.1 = .ok q.2)) = true := by decide +kernel
def kco_101_11 : List (Nat × Instr × Nat) := [(352, .ifCond .le (25), 3), (355, .aload_n 0, 1), (356, .getfield 25, 3), (359, .iload 7, 2), (361, .aload_n 0, 1), (362, .getfield 25, 3), (365, .iload 7, 2), (367, .iconst (1), 1), (368, .isub, 1), (369, .iaload, 1), (370, .iastore, 1), (371, .iinc 7 (-1), 3), (374, .goto (-24), 3), (377, .aload_n 0, 1), (378, .getfield 25, 3), (381, .iconst (4), 1), (382, .aload_n 0, 1), (383, .getfield 25, 3)]
theorem kco_101_t11 : kco_101_11.all (fun q => decide (decode prog_13_method_7_code q.1 = .ok q.2)) = true := by decide +kernel
def kco_101_12 : List (Nat × Instr × Nat) := [(386, .iconst (4), 1), (387, .iaload, 1), (388, .iload 5, 2), (390, .iadd, 1), (391, .iastore, 1), (392, .aload_n 0, 1), (393, .getfield 25, 3), (396, .iconst (0), 1), (397, .iload 5, 2), (399, .iload 6, 2), (401, .iadd, 1), (402, .iastore, 1), (403, .iinc 2 (1), 3), (406, .goto (-204), 3), (409, .iconst (0), 1), (410, .istore_n 2, 1), (411, .iload_n 2, 1), (412, .bipush (8), 2), (414, .if_icmp .ge (28), 3)]
theorem kco_101_t12 : kco_101_12.all (fun q => decide (decode prog_13_method_7_code q.1 = .ok q.2)) = true := by decide +kernel
def kco_101_13 : List (Nat × Instr × Nat) := [(417, .aload_n 0, 1), (418, .getfield 22, 3), (421, .iload_n 2, 1), (422, .aload_n 0, 1), (423, .getfield 22, 3), (426, .iload_n 2, 1), (427, .iaload, 1), (428, .aload_n 0, 1), (429, .getfield 25, 3), (432, .iload_n 2, 1), (433, .iaload, 1), (434, .iadd, 1), (435, .iastore, 1), (436, .iinc 2 (1), 3), (439, .goto (-28), 3), (442, .return_, 1)]
theorem kco_101_t13 : kco_101_13.all (fun q => decide (decode prog_13_method_7_code q.1 = .ok q.2)) = true := by decide +kernel
def kco_101 : List (List (Nat × Instr × Nat)) := [kco_101_0, kco_101_1, kco_101_2, kco_101_3, kco_101_4, kco_101_5, kco_101_6, kco_101_7, kco_101_8, kco_101_9, kco_101_10, kco_101_11, kco_101_12, kco_101_13]
theorem kco_101_ok : ∀ pc i n, ck_cdAt kco_101 pc = some (i, n) → decode prog_13_method_7_code pc = .ok (i, n) := ck_cd_ok (List.forall_mem_cons.mpr ⟨kco_101_t0, (List.forall_mem_cons.mpr ⟨kco_101_t1, (List.forall_mem_cons.mpr ⟨kco_101_t2, (List.forall_mem_cons.mpr ⟨kco_101_t3, (List.forall_mem_cons.mpr ⟨kco_101_t4, (List.forall_mem_cons.mpr ⟨kco_101_t5, (List.forall_mem_cons.mpr ⟨kco_101_t6, (List.forall_mem_cons.mpr ⟨kco_101_t7, (List.forall_mem_cons.mpr ⟨kco_101_t8, (List.forall_mem_cons.mpr ⟨kco_101_t9, (List.forall_mem_cons.mpr ⟨kco_101_t10, (List.forall_mem_cons.mpr ⟨kco_101_t11, (List.forall_mem_cons.mpr ⟨kco_101_t12, (List.forall_mem_cons.mpr ⟨kco_101_t13, (fun _ h => by cases h)⟩)⟩)⟩)⟩)⟩)⟩)⟩)⟩)⟩)⟩)⟩)⟩)⟩)⟩)
end
section
/-! ===== code, read ===== -/
def kco_102_0 : List (Nat × Instr × Nat) := [(0, .iload_n 1, 1), (1, .istore_n 3, 1), (2, .aload_n 0, 1), (3, .getfield 13, 3), (6, .iload_n 3, 1), (7, .sipush (128), 3), (10, .iastore, 1), (11, .iinc 3 (1), 3), (14, .iload_n 3, 1), (15, .bipush (64), 2), (17, .irem, 1), (18, .bipush (56), 2), (20, .if_icmp .eq (16), 3), (23, .aload_n 0, 1), (24, .getfield 13, 3), (27, .iload_n 3, 1), (28, .iconst (0), 1), (29, .iastore, 1), (30, .iinc 3 (1), 3)]
theorem kco_102_t0 : kco_102_0.all (fun q => decide (decode prog_13_method_8_code q.1 = .ok q.2)) = true := by decide +kernel
def kco_102_1 : List (Nat × Instr × Nat) := [(33, .goto (-19), 3), (36, .bipush (7), 2), (38, .istore 4, 2), (40, .iload 4, 2), (42, .ifCond .lt (42), 3), (45, .aload_n 0, 1), (46, .getfield 13, 3), (49, .iload_n 3, 1), (50, .iload 4, 2), (52, .iconst (3), 1), (53, .if_icmp .le (7), 3), (56, .iconst (0), 1), (57, .goto (17), 3), (60, .bipush (8), 2), (62, .iload_n 1, 1), (63, .imul, 1)]
theorem kco_102_t1 : kco_102_1.all (fun q => decide (decode prog_13_method_8_code q.1 = .ok q.2)) = true := by decide +kernel
def kco_102_2 : List (Nat × Instr × Nat) := [(64, .bipush (8), 2), (66, .iload 4, 2), (68, .imul, 1), (69, .ishr, 1), (70, .sipush (255), 3), (73, .iand, 1), (74, .iastore, 1), (75, .iinc 3 (1), 3), (78, .iinc 4 (-1), 3), (81, .goto (-41), 3), (84, .iconst (0), 1), (85, .istore 4, 2), (87, .iload 4, 2), (89, .bipush (8), 2), (91, .if_icmp .ge (26), 3), (94, .aload_n 0, 1), (95, .getfield 22, 3)]
theorem kco_102_t2 : kco_102_2.all (fun q => decide (decode prog_13_method_8_code q.1 = .ok q.2)) = true := by decide +kernel
def kco_102_3 : List (Nat × Instr × Nat) := [(98, .iload 4, 2), (100, .aload_n 0, 1), (101, .getfield 19, 3), (104, .bipush (64), 2), (106, .iload 4, 2), (108, .iadd, 1), (109, .iaload, 1), (110, .iastore, 1), (111, .iinc 4 (1), 3), (114, .goto (-27), 3), (117, .iconst (0), 1), (118, .istore 4, 2), (120, .iload 4, 2), (122, .iload_n 3, 1), (123, .if_icmp .ge (15), 3), (126, .aload_n 0, 1), (127, .iload 4, 2)]
theorem kco_102_t3 : kco_102_3.all (fun q => decide (decode prog_13_method_8_code q.1 = .ok q.2)) = true := by decide +kernel
def kco_102_4 : List (Nat × Instr × Nat) := [(129, .invokevirtual 195, 3), (132, .iinc 4 (64), 3), (135, .goto (-15), 3), (138, .iconst (0), 1), (139, .istore 4, 2), (141, .iload 4, 2), (143, .bipush (32), 2), (145, .if_icmp .ge (42), 3), (148, .aload_n 0, 1), (149, .getfield 7, 3), (152, .iload_n 2, 1), (153, .iload 4, 2), (155, .iadd, 1), (156, .aload_n 0, 1), (157, .getfield 22, 3)]
theorem kco_102_t4 : kco_102_4.all (fun q => decide (decode prog_13_method_8_code q.1 = .ok q.2)) = true := by decide +kernel
def kco_102_5 : List (Nat × Instr × Nat) := [(160, .iload 4, 2), (162, .iconst (4), 1), (163, .idiv, 1), (164, .iaload, 1), (165, .bipush (24), 2), (167, .bipush (8), 2), (169, .iload 4, 2), (171, .iconst (4), 1), (172, .irem, 1), (173, .imul, 1), (174, .isub, 1), (175, .iushr, 1), (176, .sipush (255), 3), (179, .iand, 1), (180, .iastore, 1), (181, .iinc 4 (1), 3), (184, .goto (-43), 3), (187, .return_, 1)]
theorem kco_102_t5 : kco_102_5.all (fun q => decide (decode prog_13_method_8_code q.1 = .ok q.2)) = true := by decide +kernel
def kco_102 : List (List (Nat × Instr × Nat)) := [kco_102_0, kco_102_1, kco_102_2, kco_102_3, kco_102_4, kco_102_5]
theorem kco_102_ok : ∀ pc i n, ck_cdAt kco_102 pc = some (i, n) → decode prog_13_method_8_code pc = .ok (i, n) := ck_cd_ok (List.forall_mem_cons.mpr ⟨kco_102_t0, (List.forall_mem_cons.mpr ⟨kco_102_t1, (List.forall_mem_cons.mpr ⟨kco_102_t2, (List.forall_mem_cons.mpr ⟨kco_102_t3, (List.forall_mem_cons.mpr ⟨kco_102_t4, (List.forall_mem_cons.mpr ⟨kco_102_t5, (fun _ h => by cases h)⟩)⟩)⟩)⟩)⟩)⟩)
def kco_103_0 : List (Nat × Instr × Nat) := [(0, .iconst (0), 1), (1, .istore_n 3, 1), (2, .iload_n 3, 1), (3, .iconst (4), 1), (4, .if_icmp .ge (46), 3), (7, .aload_n 0, 1), (8, .getfield 13, 3), (11, .iload_n 3, 1), (12, .aload_n 0, 1), (13, .getfield 109, 3), (16, .bipush (8), 2), (18, .iload_n 3, 1), (19, .imul, 1), (20, .ishr, 1), (21, .sipush (255), 3), (24, .iand, 1), (25, .iastore, 1), (26, .aload_n 0, 1), (27, .getfield 13, 3), (30, .iconst (4), 1), (31, .iload_n 3, 1)]
theorem kco_103_t0 : kco_103_0.all (fun q => decide (decode prog_13_method_27_code q.1 = .ok q.2)) = true := by decide +kernel
def kco_103_1 : List (Nat × Instr × Nat) := [(32, .iadd, 1), (33, .iload_n 1, 1), (34, .bipush (8), 2), (36, .iload_n 3, 1), (37, .imul, 1), (38, .ishr, 1), (39, .sipush (255), 3), (42, .iand, 1), (43, .iastore, 1), (44, .iinc 3 (1), 3), (47, .goto (-45), 3), (50, .aload_n 0, 1), (51, .bipush (8), 2), (53, .iload_n 2, 1), (54, .invokevirtual 209, 3), (57, .return_, 1)]
theorem kco_103_t1 : kco_103_1.all (fun q => decide (decode prog_13_method_27_code q.1 = .ok q.2)) = true := by decide +kernel
def kco_103 : List (List (Nat × Instr × Nat)) := [kco_103_0, kco_103_1]
theorem kco_103_ok : ∀ pc i n, ck_cdAt kco_103 pc = some (i, n) → decode prog_13_method_27_code pc = .ok (i, n) := ck_cd_ok (List.forall_mem_cons.mpr ⟨kco_103_t0, (List.forall_mem_cons.mpr ⟨kco_103_t1, (fun _ h => by cases h)⟩)⟩)
def kco_104_0 : List (Nat × Instr × Nat) := [(0, .iconst (0), 1), (1, .istore_n 3, 1), (2, .iload_n 3, 1), (3, .bipush (16), 2), (5, .if_icmp .ge (75), 3), (8, .iload_n 3, 1), (9, .bipush (15), 2), (11, .if_icmp .ne (19), 3), (14, .aload_n 0, 1), (15, .getfield 7, 3), (18, .iload_n 2, 1), (19, .bipush (31), 2), (21, .iadd, 1), (22, .iaload, 1), (23, .bipush (127), 2), (25, .iand, 1), (26, .i2l, 1), (27, .goto (16), 3), (30, .aload_n 0, 1), (31, .getfield 7, 3)]
theorem kco_104_t0 : kco_104_0.all (fun q => decide (decode prog_13_method_22_code q.1 = .ok q.2)) = true := by decide +kernel
def kco_104_1 : List (Nat × Instr × Nat) := [(34, .iload_n 2, 1), (35, .iconst (2), 1), (36, .iload_n 3, 1), (37, .imul, 1), (38, .iadd, 1), (39, .iconst (1), 1), (40, .iadd, 1), (41, .iaload, 1), (42, .i2l, 1), (43, .lstore 4, 2), (45, .aload_n 0, 1), (46, .getfield 31, 3), (49, .bipush (16), 2), (51, .iload_n 1, 1), (52, .imul, 1), (53, .iload_n 3, 1), (54, .iadd, 1), (55, .aload_n 0, 1), (56, .getfield 7, 3), (59, .iload_n 2, 1), (60, .iconst (2), 1), (61, .iload_n 3, 1), (62, .imul, 1), (63, .iadd, 1)]
theorem kco_104_t1 : kco_104_1.all (fun q => decide (decode prog_13_method_22_code q.1 = .ok q.2)) = true := by decide +kernel
def kco_104_2 : List (Nat × Instr × Nat) := [(64, .iaload, 1), (65, .i2l, 1), (66, .ldc2_w 226, 3), (69, .lload 4, 2), (71, .lmul, 1), (72, .ladd, 1), (73, .lastore, 1), (74, .iinc 3 (1), 3), (77, .goto (-75), 3), (80, .return_, 1)]
theorem kco_104_t2 : kco_104_2.all (fun q => decide (decode prog_13_method_22_code q.1 = .ok q.2)) = true := by decide +kernel
def kco_104 : List (List (Nat × Instr × Nat)) := [kco_104_0, kco_104_1, kco_104_2]
theorem kco_104_ok : ∀ pc i n, ck_cdAt kco_104 pc = some (i, n) → decode prog_13_method_22_code pc = .ok (i, n) := ck_cd_ok (List.forall_mem_cons.mpr ⟨kco_104_t0, (List.forall_mem_cons.mpr ⟨kco_104_t1, (List.forall_mem_cons.mpr ⟨kco_104_t2, (fun _ h => by cases h)⟩)⟩)⟩)
def kco_105_0 : List (Nat × Instr × Nat) := [(0, .iconst (0), 1), (1, .istore 4, 2), (3, .iload 4, 2), (5, .bipush (16), 2), (7, .if_icmp .ge (31), 3), (10, .aload_n 0, 1), (11, .getfield 31, 3), (14, .bipush (16), 2), (16, .iload_n 1, 1), (17, .imul, 1), (18, .iload 4, 2), (20, .iadd, 1), (21, .iload 4, 2), (23, .ifCond .ne (7), 3), (26, .lload_n 2, 1), (27, .goto (4), 3), (30, .lconst (0), 1), (31, .lastore, 1)]
theorem kco_105_t0 : kco_105_0.all (fun q => decide (decode prog_13_method_20_code q.1 = .ok q.2)) = true := by decide +kernel
def kco_105_1 : List (Nat × Instr × Nat) := [(32, .iinc 4 (1), 3), (35, .goto (-32), 3), (38, .return_, 1)]
theorem kco_105_t1 : kco_105_1.all (fun q => decide (decode prog_13_method_20_code q.1 = .ok q.2)) = true := by decide +kernel
def kco_105 : List (List (Nat × Instr × Nat)) := [kco_105_0, kco_105_1]
theorem kco_105_ok : ∀ pc i n, ck_cdAt kco_105 pc = some (i, n) → decode prog_13_method_20_code pc = .ok (i, n) := ck_cd_ok (List.forall_mem_cons.mpr ⟨kco_105_t0, (List.forall_mem_cons.mpr ⟨kco_105_t1, (fun _ h => by cases h)⟩)⟩)
def kco_106_0 : List (Nat × Instr × Nat) := [(0, .iload_n 1, 1), (1, .sipush (254), 3), (4, .if_icmp .ne (7), 3), (7, .iconst (1), 1), (8, .goto (27), 3), (11, .iload_n 1, 1), (12, .iconst (3), 1), (13, .if_icmp .lt (10), 3), (16, .iload_n 1, 1), (17, .sipush (255), 3), (20, .if_icmp .ne (7), 3), (23, .iconst (0), 1), (24, .goto (11), 3), (27, .iload_n 0, 1), (28, .iload_n 1, 1), (29, .bipush (8), 2), (31, .irem, 1)]
theorem kco_106_t0 : kco_106_0.all (fun q => decide (decode prog_13_method_25_code q.1 = .ok q.2)) = true := by decide +kernel
def kco_106_1 : List (Nat × Instr × Nat) := [(32, .ishr, 1), (33, .iconst (1), 1), (34, .iand, 1), (35, .ireturn, 1)]
theorem kco_106_t1 : kco_106_1.all (fun q => decide (decode prog_13_method_25_code q.1 = .ok q.2)) = true := by decide +kernel
def kco_106 : List (List (Nat × Instr × Nat)) := [kco_106_0, kco_106_1]
theorem kco_106_ok : ∀ pc i n, ck_cdAt kco_106 pc = some (i, n) → decode prog_13_method_25_code pc = .ok (i, n) := ck_cd_ok (List.forall_mem_cons.mpr ⟨kco_106_t0, (List.forall_mem_cons.mpr ⟨kco_106_t1, (fun _ h => by cases h)⟩)⟩)
def kco_107_0 : List (Nat × Instr × Nat) := [(0, .iconst (0), 1), (1, .istore_n 3, 1), (2, .iload_n 3, 1), (3, .bipush (16), 2), (5, .if_icmp .ge (57), 3), (8, .aload_n 0, 1), (9, .getfield 31, 3), (12, .bipush (16), 2), (14, .iload_n 1, 1), (15, .imul, 1), (16, .iload_n 3, 1), (17, .iadd, 1), (18, .laload, 1), (19, .lstore 4, 2), (21, .aload_n 0, 1), (22, .getfield 31, 3), (25, .bipush (16), 2), (27, .iload_n 1, 1), (28, .imul, 1), (29, .iload_n 3, 1), (30, .iadd, 1), (31, .aload_n 0, 1)]
theorem kco_107_t0 : kco_107_0.all (fun q => decide (decode prog_13_method_21_code q.1 = .ok q.2)) = true := by decide +kernel
def kco_107_1 : List (Nat × Instr × Nat) := [(32, .getfield 31, 3), (35, .bipush (16), 2), (37, .iload_n 2, 1), (38, .imul, 1), (39, .iload_n 3, 1), (40, .iadd, 1), (41, .laload, 1), (42, .lastore, 1), (43, .aload_n 0, 1), (44, .getfield 31, 3), (47, .bipush (16), 2), (49, .iload_n 2, 1), (50, .imul, 1), (51, .iload_n 3, 1), (52, .iadd, 1), (53, .lload 4, 2), (55, .lastore, 1), (56, .iinc 3 (1), 3), (59, .goto (-57), 3), (62, .return_, 1)]
theorem kco_107_t1 : kco_107_1.all (fun q => decide (decode prog_13_method_21_code q.1 = .ok q.2)) = true := by decide +kernel
def kco_107 : List (List (Nat × Instr × Nat)) := [kco_107_0, kco_107_1]
theorem kco_107_ok : ∀ pc i n, ck_cdAt kco_107 pc = some (i, n) → decode prog_13_method_21_code pc = .ok (i, n) := ck_cd_ok (List.forall_mem_cons.mpr ⟨kco_107_t0, (List.forall_mem_cons.mpr ⟨kco_107_t1, (fun _ h => by cases h)⟩)⟩)
def kco_108_0 : List (Nat × Instr × Nat) := [(0, .iconst (0), 1), (1, .istore_n 2, 1), (2, .iload_n 2, 1), (3, .bipush (16), 2), (5, .if_icmp .ge (104), 3), (8, .aload_n 0, 1), (9, .getfield 31, 3), (12, .bipush (16), 2), (14, .iload_n 1, 1), (15, .imul, 1), (16, .iload_n 2, 1), (17, .iadd, 1), (18, .laload, 1), (19, .bipush (16), 2), (21, .lshr, 1), (22, .lstore_n 3, 1), (23, .aload_n 0, 1), (24, .getfield 31, 3), (27, .bipush (16), 2), (29, .iload_n 1, 1), (30, .imul, 1), (31, .iload_n 2, 1)]
theorem kco_108_t0 : kco_108_0.all (fun q => decide (decode prog_13_method_17_code q.1 = .ok q.2)) = true := by decide +kernel
def kco_108_1 : List (Nat × Instr × Nat) := [(32, .iadd, 1), (33, .aload_n 0, 1), (34, .getfield 31, 3), (37, .bipush (16), 2), (39, .iload_n 1, 1), (40, .imul, 1), (41, .iload_n 2, 1), (42, .iadd, 1), (43, .laload, 1), (44, .lload_n 3, 1), (45, .bipush (16), 2), (47, .lshl, 1), (48, .lsub, 1), (49, .lastore, 1), (50, .iload_n 2, 1), (51, .bipush (15), 2), (53, .if_icmp .ge (14), 3), (56, .bipush (16), 2), (58, .iload_n 1, 1), (59, .imul, 1), (60, .iload_n 2, 1), (61, .iadd, 1), (62, .iconst (1), 1), (63, .iadd, 1)]
theorem kco_108_t1 : kco_108_1.all (fun q => decide (decode prog_13_method_17_code q.1 = .ok q.2)) = true := by decide +kernel
def kco_108_2 : List (Nat × Instr × Nat) := [(64, .goto (7), 3), (67, .bipush (16), 2), (69, .iload_n 1, 1), (70, .imul, 1), (71, .istore 5, 2), (73, .aload_n 0, 1), (74, .getfield 31, 3), (77, .iload 5, 2), (79, .aload_n 0, 1), (80, .getfield 31, 3), (83, .iload 5, 2), (85, .laload, 1), (86, .iload_n 2, 1), (87, .bipush (15), 2), (89, .if_icmp .ge (7), 3), (92, .lload_n 3, 1), (93, .goto (8), 3)]
theorem kco_108_t2 : kco_108_2.all (fun q => decide (decode prog_13_method_17_code q.1 = .ok q.2)) = true := by decide +kernel
def kco_108_3 : List (Nat × Instr × Nat) := [(96, .ldc2_w 221, 3), (99, .lload_n 3, 1), (100, .lmul, 1), (101, .ladd, 1), (102, .lastore, 1), (103, .iinc 2 (1), 3), (106, .goto (-104), 3), (109, .return_, 1)]
theorem kco_108_t3 : kco_108_3.all (fun q => decide (decode prog_13_method_17_code q.1 = .ok q.2)) = true := by decide +kernel
def kco_108 : List (List (Nat × Instr × Nat)) := [kco_108_0, kco_108_1, kco_108_2, kco_108_3]
theorem kco_108_ok : ∀ pc i n, ck_cdAt kco_108 pc = some (i, n) → decode prog_13_method_17_code pc = .ok (i, n) := ck_cd_ok (List.forall_mem_cons.mpr ⟨kco_108_t0, (List.forall_mem_cons.mpr ⟨kco_108_t1, (List.forall_mem_cons.mpr ⟨kco_108_t2, (List.forall_mem_cons.mpr ⟨kco_108_t3, (fun _ h => by cases h)⟩)⟩)⟩)⟩)
def kco_109_0 : List (Nat × Instr × Nat) := [(0, .iconst (0), 1), (1, .istore 6, 2), (3, .iload 6, 2), (5, .bipush (16), 2), (7, .if_icmp .ge (49), 3), (10, .aload_n 0, 1), (11, .getfield 31, 3), (14, .bipush (16), 2), (16, .iload_n 1, 1), (17, .imul, 1), (18, .iload 6, 2), (20, .iadd, 1), (21, .aload_n 0, 1), (22, .getfield 31, 3), (25, .bipush (16), 2), (27, .iload_n 2, 1), (28, .imul, 1), (29, .iload 6, 2), (31, .iadd, 1)]
theorem kco_109_t0 : kco_109_0.all (fun q => decide (decode prog_13_method_19_code q.1 = .ok q.2)) = true := by decide +kernel
def kco_109_1 : List (Nat × Instr × Nat) := [(32, .laload, 1), (33, .lload 4, 2), (35, .aload_n 0, 1), (36, .getfield 31, 3), (39, .bipush (16), 2), (41, .iload_n 3, 1), (42, .imul, 1), (43, .iload 6, 2), (45, .iadd, 1), (46, .laload, 1), (47, .lmul, 1), (48, .ladd, 1), (49, .lastore, 1), (50, .iinc 6 (1), 3), (53, .goto (-50), 3), (56, .aload_n 0, 1), (57, .iload_n 1, 1), (58, .invokevirtual 223, 3), (61, .aload_n 0, 1), (62, .iload_n 1, 1), (63, .invokevirtual 223, 3)]
theorem kco_109_t1 : kco_109_1.all (fun q => decide (decode prog_13_method_19_code q.1 = .ok q.2)) = true := by decide +kernel
def kco_109_2 : List (Nat × Instr × Nat) := [(66, .return_, 1)]
theorem kco_109_t2 : kco_109_2.all (fun q => decide (decode prog_13_method_19_code q.1 = .ok q.2)) = true := by decide +kernel
def kco_109 : List (List (Nat × Instr × Nat)) := [kco_109_0, kco_109_1, kco_109_2]
theorem kco_109_ok : ∀ pc i n, ck_cdAt kco_109 pc = some (i, n) → decode prog_13_method_19_code pc = .ok (i, n) := ck_cd_ok (List.forall_mem_cons.mpr ⟨kco_109_t0, (List.forall_mem_cons.mpr ⟨kco_109_t1, (List.forall_mem_cons.mpr ⟨kco_109_t2, (fun _ h => by cases h)⟩)⟩)⟩)
def kco_110_0 : List (Nat × Instr × Nat) := [(0, .iconst (0), 1), (1, .istore 4, 2), (3, .iload 4, 2), (5, .bipush (31), 2), (7, .if_icmp .ge (17), 3), (10, .aload_n 0, 1), (11, .getfield 35, 3), (14, .iload 4, 2), (16, .lconst (0), 1), (17, .lastore, 1), (18, .iinc 4 (1), 3), (21, .goto (-18), 3), (24, .iconst (0), 1), (25, .istore 4, 2), (27, .iload 4, 2), (29, .bipush (16), 2), (31, .if_icmp .ge (71), 3)]
theorem kco_110_t0 : kco_110_0.all (fun q => decide (decode prog_13_method_18_code q.1 = .ok q.2)) = true := by decide +kernel
def kco_110_1 : List (Nat × Instr × Nat) := [(34, .iconst (0), 1), (35, .istore 5, 2), (37, .iload 5, 2), (39, .bipush (16), 2), (41, .if_icmp .ge (55), 3), (44, .aload_n 0, 1), (45, .getfield 35, 3), (48, .iload 4, 2), (50, .iload 5, 2), (52, .iadd, 1), (53, .aload_n 0, 1), (54, .getfield 35, 3), (57, .iload 4, 2), (59, .iload 5, 2), (61, .iadd, 1), (62, .laload, 1), (63, .aload_n 0, 1)]
theorem kco_110_t1 : kco_110_1.all (fun q => decide (decode prog_13_method_18_code q.1 = .ok q.2)) = true := by decide +kernel
def kco_110_2 : List (Nat × Instr × Nat) := [(64, .getfield 31, 3), (67, .bipush (16), 2), (69, .iload_n 2, 1), (70, .imul, 1), (71, .iload 4, 2), (73, .iadd, 1), (74, .laload, 1), (75, .aload_n 0, 1), (76, .getfield 31, 3), (79, .bipush (16), 2), (81, .iload_n 3, 1), (82, .imul, 1), (83, .iload 5, 2), (85, .iadd, 1), (86, .laload, 1), (87, .lmul, 1), (88, .ladd, 1), (89, .lastore, 1), (90, .iinc 5 (1), 3), (93, .goto (-56), 3)]
theorem kco_110_t2 : kco_110_2.all (fun q => decide (decode prog_13_method_18_code q.1 = .ok q.2)) = true := by decide +kernel
def kco_110_3 : List (Nat × Instr × Nat) := [(96, .iinc 4 (1), 3), (99, .goto (-72), 3), (102, .iconst (0), 1), (103, .istore 4, 2), (105, .iload 4, 2), (107, .bipush (16), 2), (109, .if_icmp .ge (54), 3), (112, .aload_n 0, 1), (113, .getfield 31, 3), (116, .bipush (16), 2), (118, .iload_n 1, 1), (119, .imul, 1), (120, .iload 4, 2), (122, .iadd, 1), (123, .aload_n 0, 1), (124, .getfield 35, 3), (127, .iload 4, 2)]
theorem kco_110_t3 : kco_110_3.all (fun q => decide (decode prog_13_method_18_code q.1 = .ok q.2)) = true := by decide +kernel
def kco_110_4 : List (Nat × Instr × Nat) := [(129, .laload, 1), (130, .iload 4, 2), (132, .bipush (15), 2), (134, .if_icmp .ge (20), 3), (137, .ldc2_w 221, 3), (140, .aload_n 0, 1), (141, .getfield 35, 3), (144, .iload 4, 2), (146, .bipush (16), 2), (148, .iadd, 1), (149, .laload, 1), (150, .lmul, 1), (151, .goto (4), 3), (154, .lconst (0), 1), (155, .ladd, 1), (156, .lastore, 1), (157, .iinc 4 (1), 3)]
theorem kco_110_t4 : kco_110_4.all (fun q => decide (decode prog_13_method_18_code q.1 = .ok q.2)) = true := by decide +kernel
def kco_110_5 : List (Nat × Instr × Nat) := [(160, .goto (-55), 3), (163, .aload_n 0, 1), (164, .iload_n 1, 1), (165, .invokevirtual 223, 3), (168, .aload_n 0, 1), (169, .iload_n 1, 1), (170, .invokevirtual 223, 3), (173, .return_, 1)]
theorem kco_110_t5 : kco_110_5.all (fun q => decide (decode prog_13_method_18_code q.1 = .ok q.2)) = true := by decide +kernel
def kco_110 : List (List (Nat × Instr × Nat)) := [kco_110_0, kco_110_1, kco_110_2, kco_110_3, kco_110_4, kco_110_5]
theorem kco_110_ok : ∀ pc i n, ck_cdAt kco_110 pc = some (i, n) → decode prog_13_method_18_code pc = .ok (i, n) := ck_cd_ok (List.forall_mem_cons.mpr ⟨kco_110_t0, (List.forall_mem_cons.mpr ⟨kco_110_t1, (List.forall_mem_cons.mpr ⟨kco_110_t2, (List.forall_mem_cons.mpr ⟨kco_110_t3, (List.forall_mem_cons.mpr ⟨kco_110_t4, (List.forall_mem_cons.mpr ⟨kco_110_t5, (fun _ h => by cases h)⟩)⟩)⟩)⟩)⟩)⟩)
def kco_111_0 : List (Nat × Instr × Nat) := [(0, .iconst (0), 1), (1, .istore_n 1, 1), (2, .iload_n 1, 1), (3, .bipush (16), 2), (5, .if_icmp .ge (28), 3), (8, .aload_n 0, 1), (9, .getfield 31, 3), (12, .sipush (176), 3), (15, .iload_n 1, 1), (16, .iadd, 1), (17, .aload_n 0, 1), (18, .getfield 31, 3), (21, .bipush (16), 2), (23, .iload_n 1, 1), (24, .iadd, 1), (25, .laload, 1), (26, .lastore, 1), (27, .iinc 1 (1), 3), (30, .goto (-28), 3)]
theorem kco_111_t0 : kco_111_0.all (fun q => decide (decode prog_13_method_24_code q.1 = .ok q.2)) = true := by decide +kernel
def kco_111_1 : List (Nat × Instr × Nat) := [(33, .sipush (253), 3), (36, .istore_n 1, 1), (37, .iload_n 1, 1), (38, .ifCond .lt (38), 3), (41, .aload_n 0, 1), (42, .bipush (11), 2), (44, .bipush (11), 2), (46, .bipush (11), 2), (48, .invokevirtual 236, 3), (51, .iload_n 1, 1), (52, .iconst (2), 1), (53, .if_icmp .eq (17), 3), (56, .iload_n 1, 1), (57, .iconst (4), 1), (58, .if_icmp .eq (12), 3), (61, .aload_n 0, 1), (62, .bipush (11), 2)]
theorem kco_111_t1 : kco_111_1.all (fun q => decide (decode prog_13_method_24_code q.1 = .ok q.2)) = true := by decide +kernel
def kco_111_2 : List (Nat × Instr × Nat) := [(64, .bipush (11), 2), (66, .iconst (1), 1), (67, .invokevirtual 236, 3), (70, .iinc 1 (-1), 3), (73, .goto (-36), 3), (76, .return_, 1)]
theorem kco_111_t2 : kco_111_2.all (fun q => decide (decode prog_13_method_24_code q.1 = .ok q.2)) = true := by decide +kernel
def kco_111 : List (List (Nat × Instr × Nat)) := [kco_111_0, kco_111_1, kco_111_2]
theorem kco_111_ok : ∀ pc i n, ck_cdAt kco_111 pc = some (i, n) → decode prog_13_method_24_code pc = .ok (i, n) := ck_cd_ok (List.forall_mem_cons.mpr ⟨kco_111_t0, (List.forall_mem_cons.mpr ⟨kco_111_t1, (List.forall_mem_cons.mpr ⟨kco_111_t2, (fun _ h => by cases h)⟩)⟩)⟩)
end
section
/-! ===== code, read ===== -/
def kco_112_0 : List (Nat × Instr × Nat) := [(0, .iconst (0), 1), (1, .istore_n 3, 1), (2, .iload_n 3, 1), (3, .iconst (4), 1), (4, .if_icmp .ge (14), 3), (7, .aload_n 0, 1), (8, .iload_n 1, 1), (9, .invokevirtual 223, 3), (12, .iinc 3 (1), 3), (15, .goto (-13), 3), (18, .iconst (0), 1), (19, .istore_n 3, 1), (20, .iload_n 3, 1), (21, .iconst (2), 1), (22, .if_icmp .ge (157), 3), (25, .lconst (0), 1), (26, .lstore 4, 2), (28, .iconst (0), 1), (29, .istore 6, 2), (31, .iload 6, 2)]
theorem kco_112_t0 : kco_112_0.all (fun q => decide (decode prog_13_method_23_code q.1 = .ok q.2)) = true := by decide +kernel
def kco_112_1 : List (Nat × Instr × Nat) := [(33, .bipush (16), 2), (35, .if_icmp .ge (92), 3), (38, .iload 6, 2), (40, .ifCond .ne (9), 3), (43, .ldc2_w 228, 3), (46, .goto (19), 3), (49, .iload 6, 2), (51, .bipush (15), 2), (53, .if_icmp .ne (9), 3), (56, .ldc2_w 230, 3), (59, .goto (6), 3), (62, .ldc2_w 232, 3)]
theorem kco_112_t1 : kco_112_1.all (fun q => decide (decode prog_13_method_23_code q.1 = .ok q.2)) = true := by decide +kernel
def kco_112_2 : List (Nat × Instr × Nat) := [(65, .lstore 7, 2), (67, .aload_n 0, 1), (68, .getfield 31, 3), (71, .bipush (16), 2), (73, .iload_n 1, 1), (74, .imul, 1), (75, .iload 6, 2), (77, .iadd, 1), (78, .laload, 1), (79, .lload 7, 2), (81, .lsub, 1), (82, .lload 4, 2), (84, .lsub, 1), (85, .lstore 9, 2), (87, .lload 9, 2), (89, .lconst (0), 1), (90, .lcmp, 1), (91, .ifCond .ge (7), 3), (94, .lconst (1), 1), (95, .goto (4), 3)]
theorem kco_112_t2 : kco_112_2.all (fun q => decide (decode prog_13_method_23_code q.1 = .ok q.2)) = true := by decide +kernel
def kco_112_3 : List (Nat × Instr × Nat) := [(98, .lconst (0), 1), (99, .lstore 4, 2), (101, .aload_n 0, 1), (102, .getfield 31, 3), (105, .sipush (240), 3), (108, .iload 6, 2), (110, .iadd, 1), (111, .lload 9, 2), (113, .ldc2_w 234, 3), (116, .lload 4, 2), (118, .lmul, 1), (119, .ladd, 1), (120, .lastore, 1), (121, .iinc 6 (1), 3), (124, .goto (-93), 3), (127, .iconst (0), 1)]
theorem kco_112_t3 : kco_112_3.all (fun q => decide (decode prog_13_method_23_code q.1 = .ok q.2)) = true := by decide +kernel
def kco_112_4 : List (Nat × Instr × Nat) := [(128, .istore 6, 2), (130, .iload 6, 2), (132, .bipush (16), 2), (134, .if_icmp .ge (39), 3), (137, .lload 4, 2), (139, .lconst (0), 1), (140, .lcmp, 1), (141, .ifCond .ne (32), 3), (144, .aload_n 0, 1), (145, .getfield 31, 3), (148, .bipush (16), 2), (150, .iload_n 1, 1), (151, .imul, 1), (152, .iload 6, 2), (154, .iadd, 1), (155, .aload_n 0, 1), (156, .getfield 31, 3), (159, .sipush (240), 3)]
theorem kco_112_t4 : kco_112_4.all (fun q => decide (decode prog_13_method_23_code q.1 = .ok q.2)) = true := by decide +kernel
def kco_112_5 : List (Nat × Instr × Nat) := [(162, .iload 6, 2), (164, .iadd, 1), (165, .laload, 1), (166, .lastore, 1), (167, .iinc 6 (1), 3), (170, .goto (-40), 3), (173, .iinc 3 (1), 3), (176, .goto (-156), 3), (179, .iconst (0), 1), (180, .istore_n 3, 1), (181, .iload_n 3, 1), (182, .bipush (32), 2), (184, .if_icmp .ge (42), 3), (187, .aload_n 0, 1), (188, .getfield 7, 3), (191, .iload_n 2, 1)]
theorem kco_112_t5 : kco_112_5.all (fun q => decide (decode prog_13_method_23_code q.1 = .ok q.2)) = true := by decide +kernel
def kco_112_6 : List (Nat × Instr × Nat) := [(192, .iload_n 3, 1), (193, .iadd, 1), (194, .aload_n 0, 1), (195, .getfield 31, 3), (198, .bipush (16), 2), (200, .iload_n 1, 1), (201, .imul, 1), (202, .iload_n 3, 1), (203, .iconst (2), 1), (204, .idiv, 1), (205, .iadd, 1), (206, .laload, 1), (207, .bipush (8), 2), (209, .iload_n 3, 1), (210, .iconst (2), 1), (211, .irem, 1), (212, .imul, 1), (213, .lshr, 1), (214, .l2i, 1), (215, .sipush (255), 3), (218, .iand, 1), (219, .iastore, 1), (220, .iinc 3 (1), 3), (223, .goto (-42), 3)]
theorem kco_112_t6 : kco_112_6.all (fun q => decide (decode prog_13_method_23_code q.1 = .ok q.2)) = true := by decide +kernel
def kco_112_7 : List (Nat × Instr × Nat) := [(226, .return_, 1)]
theorem kco_112_t7 : kco_112_7.all (fun q => decide (decode prog_13_method_23_code q.1 = .ok q.2)) = true := by decide +kernel
def kco_112 : List (List (Nat × Instr × Nat)) := [kco_112_0, kco_112_1, kco_112_2, kco_112_3, kco_112_4, kco_112_5, kco_112_6, kco_112_7]
theorem kco_112_ok : ∀ pc i n, ck_cdAt kco_112 pc = some (i, n) → decode prog_13_method_23_code pc = .ok (i, n) := ck_cd_ok (List.forall_mem_cons.mpr ⟨kco_112_t0, (List.forall_mem_cons.mpr ⟨kco_112_t1, (List.forall_mem_cons.mpr ⟨kco_112_t2, (List.forall_mem_cons.mpr ⟨kco_112_t3, (List.forall_mem_cons.mpr ⟨kco_112_t4, (List.forall_mem_cons.mpr ⟨kco_112_t5, (List.forall_mem_cons.mpr ⟨kco_112_t6, (List.forall_mem_cons.mpr ⟨kco_112_t7, (fun _ h => by cases h)⟩)⟩)⟩)⟩)⟩)⟩)⟩)⟩)
def kco_113_0 : List (Nat × Instr × Nat) := [(0, .aload_n 0, 1), (1, .bipush (9), 2), (3, .iload_n 2, 1), (4, .invokevirtual 240, 3), (7, .aload_n 0, 1), (8, .iconst (2), 1), (9, .iload_n 2, 1), (10, .invokevirtual 240, 3), (13, .aload_n 0, 1), (14, .iconst (0), 1), (15, .lconst (1), 1), (16, .invokevirtual 243, 3), (19, .aload_n 0, 1), (20, .iconst (1), 1), (21, .lconst (0), 1), (22, .invokevirtual 243, 3), (25, .aload_n 0, 1), (26, .iconst (3), 1), (27, .lconst (1), 1), (28, .invokevirtual 243, 3), (31, .sipush (254), 3)]
theorem kco_113_t0 : kco_113_0.all (fun q => decide (decode prog_13_method_26_code q.1 = .ok q.2)) = true := by decide +kernel
def kco_113_1 : List (Nat × Instr × Nat) := [(34, .istore 4, 2), (36, .iload 4, 2), (38, .ifCond .lt (234), 3), (41, .aload_n 0, 1), (42, .getfield 7, 3), (45, .iload_n 1, 1), (46, .iload 4, 2), (48, .bipush (8), 2), (50, .idiv, 1), (51, .iadd, 1), (52, .iaload, 1), (53, .iload 4, 2), (55, .invokestatic 247, 3), (58, .istore 5, 2), (60, .iload 5, 2), (62, .iconst (1), 1), (63, .if_icmp .ne (15), 3)]
theorem kco_113_t1 : kco_113_1.all (fun q => decide (decode prog_13_method_26_code q.1 = .ok q.2)) = true := by decide +kernel
def kco_113_2 : List (Nat × Instr × Nat) := [(66, .aload_n 0, 1), (67, .iconst (0), 1), (68, .iconst (2), 1), (69, .invokevirtual 250, 3), (72, .aload_n 0, 1), (73, .iconst (1), 1), (74, .iconst (3), 1), (75, .invokevirtual 250, 3), (78, .aload_n 0, 1), (79, .bipush (10), 2), (81, .iconst (0), 1), (82, .iconst (1), 1), (83, .lconst (1), 1), (84, .invokevirtual 253, 3), (87, .aload_n 0, 1), (88, .bipush (12), 2), (90, .iconst (0), 1), (91, .iconst (1), 1), (92, .ldc2_w 257, 3), (95, .invokevirtual 253, 3)]
theorem kco_113_t2 : kco_113_2.all (fun q => decide (decode prog_13_method_26_code q.1 = .ok q.2)) = true := by decide +kernel
def kco_113_3 : List (Nat × Instr × Nat) := [(98, .aload_n 0, 1), (99, .bipush (7), 2), (101, .bipush (10), 2), (103, .bipush (10), 2), (105, .invokevirtual 236, 3), (108, .aload_n 0, 1), (109, .bipush (8), 2), (111, .bipush (12), 2), (113, .bipush (12), 2), (115, .invokevirtual 236, 3), (118, .aload_n 0, 1), (119, .iconst (4), 1), (120, .bipush (7), 2), (122, .bipush (8), 2), (124, .ldc2_w 257, 3), (127, .invokevirtual 253, 3)]
theorem kco_113_t3 : kco_113_3.all (fun q => decide (decode prog_13_method_26_code q.1 = .ok q.2)) = true := by decide +kernel
def kco_113_4 : List (Nat × Instr × Nat) := [(130, .aload_n 0, 1), (131, .bipush (13), 2), (133, .iconst (2), 1), (134, .iconst (3), 1), (135, .ldc2_w 257, 3), (138, .invokevirtual 253, 3), (141, .aload_n 0, 1), (142, .iconst (5), 1), (143, .bipush (13), 2), (145, .bipush (10), 2), (147, .invokevirtual 236, 3), (150, .aload_n 0, 1), (151, .bipush (13), 2), (153, .iconst (2), 1), (154, .iconst (3), 1), (155, .lconst (1), 1), (156, .invokevirtual 253, 3), (159, .aload_n 0, 1)]
theorem kco_113_t4 : kco_113_4.all (fun q => decide (decode prog_13_method_26_code q.1 = .ok q.2)) = true := by decide +kernel
def kco_113_5 : List (Nat × Instr × Nat) := [(160, .bipush (6), 2), (162, .bipush (13), 2), (164, .bipush (12), 2), (166, .invokevirtual 236, 3), (169, .aload_n 0, 1), (170, .bipush (13), 2), (172, .iconst (5), 1), (173, .bipush (6), 2), (175, .lconst (1), 1), (176, .invokevirtual 253, 3), (179, .aload_n 0, 1), (180, .iconst (2), 1), (181, .bipush (13), 2), (183, .bipush (13), 2), (185, .invokevirtual 236, 3), (188, .aload_n 0, 1), (189, .bipush (13), 2), (191, .iconst (5), 1)]
theorem kco_113_t5 : kco_113_5.all (fun q => decide (decode prog_13_method_26_code q.1 = .ok q.2)) = true := by decide +kernel
def kco_113_6 : List (Nat × Instr × Nat) := [(192, .bipush (6), 2), (194, .ldc2_w 257, 3), (197, .invokevirtual 253, 3), (200, .aload_n 0, 1), (201, .bipush (13), 2), (203, .bipush (13), 2), (205, .bipush (13), 2), (207, .invokevirtual 236, 3), (210, .aload_n 0, 1), (211, .iconst (3), 1), (212, .bipush (9), 2), (214, .bipush (13), 2), (216, .invokevirtual 236, 3), (219, .aload_n 0, 1), (220, .iconst (0), 1), (221, .bipush (7), 2), (223, .bipush (8), 2)]
theorem kco_113_t6 : kco_113_6.all (fun q => decide (decode prog_13_method_26_code q.1 = .ok q.2)) = true := by decide +kernel
def kco_113_7 : List (Nat × Instr × Nat) := [(225, .invokevirtual 236, 3), (228, .aload_n 0, 1), (229, .bipush (13), 2), (231, .bipush (7), 2), (233, .iconst (4), 1), (234, .ldc2_w 259, 3), (237, .invokevirtual 253, 3), (240, .aload_n 0, 1), (241, .iconst (1), 1), (242, .iconst (4), 1), (243, .bipush (13), 2), (245, .invokevirtual 236, 3), (248, .iload 5, 2), (250, .iconst (1), 1), (251, .if_icmp .ne (15), 3), (254, .aload_n 0, 1), (255, .iconst (0), 1)]
theorem kco_113_t7 : kco_113_7.all (fun q => decide (decode prog_13_method_26_code q.1 = .ok q.2)) = true := by decide +kernel
def kco_113_8 : List (Nat × Instr × Nat) := [(256, .iconst (2), 1), (257, .invokevirtual 250, 3), (260, .aload_n 0, 1), (261, .iconst (1), 1), (262, .iconst (3), 1), (263, .invokevirtual 250, 3), (266, .iinc 4 (-1), 3), (269, .goto (-233), 3), (272, .aload_n 0, 1), (273, .invokevirtual 261, 3), (276, .aload_n 0, 1), (277, .iconst (0), 1), (278, .iconst (0), 1), (279, .bipush (11), 2), (281, .invokevirtual 236, 3), (284, .aload_n 0, 1), (285, .iconst (0), 1), (286, .iload_n 3, 1), (287, .invokevirtual 264, 3)]
theorem kco_113_t8 : kco_113_8.all (fun q => decide (decode prog_13_method_26_code q.1 = .ok q.2)) = true := by decide +kernel
def kco_113_9 : List (Nat × Instr × Nat) := [(290, .return_, 1)]
theorem kco_113_t9 : kco_113_9.all (fun q => decide (decode prog_13_method_26_code q.1 = .ok q.2)) = true := by decide +kernel
def kco_113 : List (List (Nat × Instr × Nat)) := [kco_113_0, kco_113_1, kco_113_2, kco_113_3, kco_113_4, kco_113_5, kco_113_6, kco_113_7, kco_113_8, kco_113_9]
theorem kco_113_ok : ∀ pc i n, ck_cdAt kco_113 pc = some (i, n) → decode prog_13_method_26_code pc = .ok (i, n) := ck_cd_ok (List.forall_mem_cons.mpr ⟨kco_113_t0, (List.forall_mem_cons.mpr ⟨kco_113_t1, (List.forall_mem_cons.mpr ⟨kco_113_t2, (List.forall_mem_cons.mpr ⟨kco_113_t3, (List.forall_mem_cons.mpr ⟨kco_113_t4, (List.forall_mem_cons.mpr ⟨kco_113_t5, (List.forall_mem_cons.mpr ⟨kco_113_t6, (List.forall_mem_cons.mpr ⟨kco_113_t7, (List.forall_mem_cons.mpr ⟨kco_113_t8, (List.forall_mem_cons.mpr ⟨kco_113_t9, (fun _ h => by cases h)⟩)⟩)⟩)⟩)⟩)⟩)⟩)⟩)⟩)⟩)
def kco_114_0 : List (Nat × Instr × Nat) := [(0, .aload_n 0, 1), (1, .iload_n 1, 1), (2, .sipush (480), 3), (5, .invokevirtual 267, 3), (8, .aload_n 0, 1), (9, .sipush (480), 3), (12, .sipush (544), 3), (15, .iload_n 2, 1), (16, .invokevirtual 270, 3), (19, .return_, 1)]
theorem kco_114_t0 : kco_114_0.all (fun q => decide (decode prog_13_method_28_code q.1 = .ok q.2)) = true := by decide +kernel
def kco_114 : List (List (Nat × Instr × Nat)) := [kco_114_0]
theorem kco_114_ok : ∀ pc i n, ck_cdAt kco_114 pc = some (i, n) → decode prog_13_method_28_code pc = .ok (i, n) := ck_cd_ok (List.forall_mem_cons.mpr ⟨kco_114_t0, (fun _ h => by cases h)⟩)
def kco_115_0 : List (Nat × Instr × Nat) := [(0, .aload_n 0, 1), (1, .getfield 42, 3), (4, .iload_n 1, 1), (5, .baload, 1), (6, .ifCond .ne (23), 3), (9, .aload_n 0, 1), (10, .iload_n 1, 1), (11, .sipush (576), 3), (14, .bipush (32), 2), (16, .iload_n 1, 1), (17, .imul, 1), (18, .iadd, 1), (19, .invokevirtual 273, 3), (22, .aload_n 0, 1), (23, .getfield 42, 3), (26, .iload_n 1, 1), (27, .iconst (1), 1), (28, .bastore, 1), (29, .sipush (576), 3)]
theorem kco_115_t0 : kco_115_0.all (fun q => decide (decode prog_13_method_29_code q.1 = .ok q.2)) = true := by decide +kernel
def kco_115_1 : List (Nat × Instr × Nat) := [(32, .bipush (32), 2), (34, .iload_n 1, 1), (35, .imul, 1), (36, .iadd, 1), (37, .ireturn, 1)]
theorem kco_115_t1 : kco_115_1.all (fun q => decide (decode prog_13_method_29_code q.1 = .ok q.2)) = true := by decide +kernel
def kco_115 : List (List (Nat × Instr × Nat)) := [kco_115_0, kco_115_1]
theorem kco_115_ok : ∀ pc i n, ck_cdAt kco_115 pc = some (i, n) → decode prog_13_method_29_code pc = .ok (i, n) := ck_cd_ok (List.forall_mem_cons.mpr ⟨kco_115_t0, (List.forall_mem_cons.mpr ⟨kco_115_t1, (fun _ h => by cases h)⟩)⟩)
def kco_116_0 : List (Nat × Instr × Nat) := [(0, .aload_n 0, 1), (1, .iload_n 1, 1), (2, .sipush (480), 3), (5, .invokevirtual 267, 3), (8, .aload_n 0, 1), (9, .sipush (480), 3), (12, .iload_n 2, 1), (13, .iload_n 3, 1), (14, .invokevirtual 270, 3), (17, .return_, 1)]
theorem kco_116_t0 : kco_116_0.all (fun q => decide (decode prog_13_method_30_code q.1 = .ok q.2)) = true := by decide +kernel
def kco_116 : List (List (Nat × Instr × Nat)) := [kco_116_0]
theorem kco_116_ok : ∀ pc i n, ck_cdAt kco_116 pc = some (i, n) → decode prog_13_method_30_code pc = .ok (i, n) := ck_cd_ok (List.forall_mem_cons.mpr ⟨kco_116_t0, (fun _ h => by cases h)⟩)
def kco_117_0 : List (Nat × Instr × Nat) := [(0, .aload_n 0, 1), (1, .iconst (0), 1), (2, .putfield 199, 3), (5, .return_, 1)]
theorem kco_117_t0 : kco_117_0.all (fun q => decide (decode prog_13_method_9_code q.1 = .ok q.2)) = true := by decide +kernel
def kco_117 : List (List (Nat × Instr × Nat)) := [kco_117_0]
theorem kco_117_ok : ∀ pc i n, ck_cdAt kco_117 pc = some (i, n) → decode prog_13_method_9_code pc = .ok (i, n) := ck_cd_ok (List.forall_mem_cons.mpr ⟨kco_117_t0, (fun _ h => by cases h)⟩)
def kco_118_0 : List (Nat × Instr × Nat) := [(0, .aload_n 0, 1), (1, .getfield 16, 3), (4, .aload_n 0, 1), (5, .getfield 199, 3), (8, .iload_n 1, 1), (9, .iastore, 1), (10, .aload_n 0, 1), (11, .dup, 1), (12, .getfield 199, 3), (15, .iconst (1), 1), (16, .iadd, 1), (17, .putfield 199, 3), (20, .return_, 1)]
theorem kco_118_t0 : kco_118_0.all (fun q => decide (decode prog_13_method_10_code q.1 = .ok q.2)) = true := by decide +kernel
def kco_118 : List (List (Nat × Instr × Nat)) := [kco_118_0]
theorem kco_118_ok : ∀ pc i n, ck_cdAt kco_118 pc = some (i, n) → decode prog_13_method_10_code pc = .ok (i, n) := ck_cd_ok (List.forall_mem_cons.mpr ⟨kco_118_t0, (fun _ h => by cases h)⟩)
def kco_119_0 : List (Nat × Instr × Nat) := [(0, .iconst (0), 1), (1, .istore_n 2, 1), (2, .iload_n 2, 1), (3, .bipush (32), 2), (5, .if_icmp .ge (21), 3), (8, .aload_n 0, 1), (9, .aload_n 0, 1), (10, .getfield 7, 3), (13, .iload_n 1, 1), (14, .iload_n 2, 1), (15, .iadd, 1), (16, .iaload, 1), (17, .invokevirtual 202, 3), (20, .iinc 2 (1), 3), (23, .goto (-21), 3), (26, .return_, 1)]
theorem kco_119_t0 : kco_119_0.all (fun q => decide (decode prog_13_method_11_code q.1 = .ok q.2)) = true := by decide +kernel
def kco_119 : List (List (Nat × Instr × Nat)) := [kco_119_0]
theorem kco_119_ok : ∀ pc i n, ck_cdAt kco_119 pc = some (i, n) → decode prog_13_method_11_code pc = .ok (i, n) := ck_cd_ok (List.forall_mem_cons.mpr ⟨kco_119_t0, (fun _ h => by cases h)⟩)
def kco_120_0 : List (Nat × Instr × Nat) := [(0, .iconst (0), 1), (1, .istore_n 3, 1), (2, .iload_n 3, 1), (3, .bipush (64), 2), (5, .if_icmp .ge (35), 3), (8, .aload_n 0, 1), (9, .getfield 13, 3), (12, .iload_n 3, 1), (13, .iload_n 3, 1), (14, .bipush (32), 2), (16, .if_icmp .ge (16), 3), (19, .aload_n 0, 1), (20, .getfield 7, 3), (23, .iload_n 1, 1), (24, .iload_n 3, 1), (25, .iadd, 1), (26, .iaload, 1), (27, .iload_n 2, 1), (28, .ixor, 1), (29, .goto (4), 3)]
theorem kco_120_t0 : kco_120_0.all (fun q => decide (decode prog_13_method_12_code q.1 = .ok q.2)) = true := by decide +kernel
def kco_120_1 : List (Nat × Instr × Nat) := [(32, .iload_n 2, 1), (33, .iastore, 1), (34, .iinc 3 (1), 3), (37, .goto (-35), 3), (40, .return_, 1)]
theorem kco_120_t1 : kco_120_1.all (fun q => decide (decode prog_13_method_12_code q.1 = .ok q.2)) = true := by decide +kernel
def kco_120 : List (List (Nat × Instr × Nat)) := [kco_120_0, kco_120_1]
theorem kco_120_ok : ∀ pc i n, ck_cdAt kco_120 pc = some (i, n) → decode prog_13_method_12_code pc = .ok (i, n) := ck_cd_ok (List.forall_mem_cons.mpr ⟨kco_120_t0, (List.forall_mem_cons.mpr ⟨kco_120_t1, (fun _ h => by cases h)⟩)⟩)
def kco_121_0 : List (Nat × Instr × Nat) := [(0, .aload_n 0, 1), (1, .iload_n 1, 1), (2, .bipush (54), 2), (4, .invokevirtual 205, 3), (7, .iconst (0), 1), (8, .istore_n 3, 1), (9, .iload_n 3, 1), (10, .aload_n 0, 1), (11, .getfield 199, 3), (14, .if_icmp .ge (24), 3), (17, .aload_n 0, 1), (18, .getfield 13, 3), (21, .bipush (64), 2), (23, .iload_n 3, 1), (24, .iadd, 1), (25, .aload_n 0, 1), (26, .getfield 16, 3), (29, .iload_n 3, 1), (30, .iaload, 1), (31, .iastore, 1)]
theorem kco_121_t0 : kco_121_0.all (fun q => decide (decode prog_13_method_13_code q.1 = .ok q.2)) = true := by decide +kernel
def kco_121_1 : List (Nat × Instr × Nat) := [(32, .iinc 3 (1), 3), (35, .goto (-26), 3), (38, .aload_n 0, 1), (39, .bipush (64), 2), (41, .aload_n 0, 1), (42, .getfield 199, 3), (45, .iadd, 1), (46, .sipush (160), 3), (49, .invokevirtual 209, 3), (52, .aload_n 0, 1), (53, .iload_n 1, 1), (54, .bipush (92), 2), (56, .invokevirtual 205, 3), (59, .iconst (0), 1), (60, .istore_n 3, 1), (61, .iload_n 3, 1), (62, .bipush (32), 2)]
theorem kco_121_t1 : kco_121_1.all (fun q => decide (decode prog_13_method_13_code q.1 = .ok q.2)) = true := by decide +kernel
def kco_121_2 : List (Nat × Instr × Nat) := [(64, .if_icmp .ge (28), 3), (67, .aload_n 0, 1), (68, .getfield 13, 3), (71, .bipush (64), 2), (73, .iload_n 3, 1), (74, .iadd, 1), (75, .aload_n 0, 1), (76, .getfield 7, 3), (79, .sipush (160), 3), (82, .iload_n 3, 1), (83, .iadd, 1), (84, .iaload, 1), (85, .iastore, 1), (86, .iinc 3 (1), 3), (89, .goto (-28), 3), (92, .aload_n 0, 1), (93, .bipush (96), 2), (95, .iload_n 2, 1)]
theorem kco_121_t2 : kco_121_2.all (fun q => decide (decode prog_13_method_13_code q.1 = .ok q.2)) = true := by decide +kernel
def kco_121_3 : List (Nat × Instr × Nat) := [(96, .invokevirtual 209, 3), (99, .return_, 1)]
theorem kco_121_t3 : kco_121_3.all (fun q => decide (decode prog_13_method_13_code q.1 = .ok q.2)) = true := by decide +kernel
def kco_121 : List (List (Nat × Instr × Nat)) := [kco_121_0, kco_121_1, kco_121_2, kco_121_3]
theorem kco_121_ok : ∀ pc i n, ck_cdAt kco_121 pc = some (i, n) → decode prog_13_method_13_code pc = .ok (i, n) := ck_cd_ok (List.forall_mem_cons.mpr ⟨kco_121_t0, (List.forall_mem_cons.mpr ⟨kco_121_t1, (List.forall_mem_cons.mpr ⟨kco_121_t2, (List.forall_mem_cons.mpr ⟨kco_121_t3, (fun _ h => by cases h)⟩)⟩)⟩)⟩)
def kco_122_0 : List (Nat × Instr × Nat) := [(0, .aload_n 0, 1), (1, .iload_n 1, 1), (2, .sipush (192), 3), (5, .invokevirtual 212, 3), (8, .aload_n 0, 1), (9, .invokevirtual 215, 3), (12, .aload_n 0, 1), (13, .iload_n 2, 1), (14, .invokevirtual 202, 3), (17, .aload_n 0, 1), (18, .iconst (1), 1), (19, .invokevirtual 202, 3), (22, .aload_n 0, 1), (23, .sipush (192), 3), (26, .sipush (224), 3), (29, .invokevirtual 212, 3)]
theorem kco_122_t0 : kco_122_0.all (fun q => decide (decode prog_13_method_14_code q.1 = .ok q.2)) = true := by decide +kernel
def kco_122_1 : List (Nat × Instr × Nat) := [(32, .aload_n 0, 1), (33, .invokevirtual 215, 3), (36, .aload_n 0, 1), (37, .sipush (224), 3), (40, .invokevirtual 218, 3), (43, .aload_n 0, 1), (44, .iload_n 2, 1), (45, .invokevirtual 202, 3), (48, .aload_n 0, 1), (49, .iconst (2), 1), (50, .invokevirtual 202, 3), (53, .aload_n 0, 1), (54, .sipush (192), 3), (57, .sipush (256), 3), (60, .invokevirtual 212, 3), (63, .return_, 1)]
theorem kco_122_t1 : kco_122_1.all (fun q => decide (decode prog_13_method_14_code q.1 = .ok q.2)) = true := by decide +kernel
def kco_122 : List (List (Nat × Instr × Nat)) := [kco_122_0, kco_122_1]
theorem kco_122_ok : ∀ pc i n, ck_cdAt kco_122 pc = some (i, n) → decode prog_13_method_14_code pc = .ok (i, n) := ck_cd_ok (List.forall_mem_cons.mpr ⟨kco_122_t0, (List.forall_mem_cons.mpr ⟨kco_122_t1, (fun _ h => by cases h)⟩)⟩)
def kco_123_0 : List (Nat × Instr × Nat) := [(0, .iconst (0), 1), (1, .istore_n 3, 1), (2, .iload_n 3, 1), (3, .bipush (32), 2), (5, .if_icmp .ge (25), 3), (8, .aload_n 0, 1), (9, .getfield 7, 3), (12, .iload_n 2, 1), (13, .iload_n 3, 1), (14, .iadd, 1), (15, .aload_n 0, 1), (16, .getfield 7, 3), (19, .iload_n 1, 1), (20, .iload_n 3, 1), (21, .iadd, 1), (22, .iaload, 1), (23, .iastore, 1), (24, .iinc 3 (1), 3), (27, .goto (-25), 3), (30, .return_, 1)]
theorem kco_123_t0 : kco_123_0.all (fun q => decide (decode prog_13_method_15_code q.1 = .ok q.2)) = true := by decide +kernel
def kco_123 : List (List (Nat × Instr × Nat)) := [kco_123_0]
theorem kco_123_ok : ∀ pc i n, ck_cdAt kco_123 pc = some (i, n) → decode prog_13_method_15_code pc = .ok (i, n) := ck_cd_ok (List.forall_mem_cons.mpr ⟨kco_123_t0, (fun _ h => by cases h)⟩)
def kco_124_0 : List (Nat × Instr × Nat) := [(0, .aload_n 0, 1), (1, .invokevirtual 215, 3), (4, .iconst (0), 1), (5, .istore_n 3, 1), (6, .iload_n 3, 1), (7, .bipush (32), 2), (9, .if_icmp .ge (16), 3), (12, .aload_n 0, 1), (13, .sipush (255), 3), (16, .invokevirtual 202, 3), (19, .iinc 3 (1), 3), (22, .goto (-16), 3), (25, .iconst (0), 1), (26, .istore_n 3, 1), (27, .iload_n 3, 1), (28, .iload_n 1, 1), (29, .if_icmp .ge (21), 3)]
theorem kco_124_t0 : kco_124_0.all (fun q => decide (decode prog_13_method_44_code q.1 = .ok q.2)) = true := by decide +kernel
def kco_124_1 : List (Nat × Instr × Nat) := [(32, .aload_n 0, 1), (33, .sipush (320), 3), (36, .bipush (32), 2), (38, .iload_n 3, 1), (39, .imul, 1), (40, .iadd, 1), (41, .invokevirtual 218, 3), (44, .iinc 3 (1), 3), (47, .goto (-20), 3), (50, .aload_n 0, 1), (51, .sipush (128), 3), (54, .bipush (88), 2), (56, .invokevirtual 295, 3), (59, .aload_n 0, 1), (60, .sipush (224), 3), (63, .iload_n 2, 1)]
theorem kco_124_t1 : kco_124_1.all (fun q => decide (decode prog_13_method_44_code q.1 = .ok q.2)) = true := by decide +kernel
def kco_124_2 : List (Nat × Instr × Nat) := [(64, .invokevirtual 288, 3), (67, .return_, 1)]
theorem kco_124_t2 : kco_124_2.all (fun q => decide (decode prog_13_method_44_code q.1 = .ok q.2)) = true := by decide +kernel
def kco_124 : List (List (Nat × Instr × Nat)) := [kco_124_0, kco_124_1, kco_124_2]
theorem kco_124_ok : ∀ pc i n, ck_cdAt kco_124 pc = some (i, n) → decode prog_13_method_44_code pc = .ok (i, n) := ck_cd_ok (List.forall_mem_cons.mpr ⟨kco_124_t0, (List.forall_mem_cons.mpr ⟨kco_124_t1, (List.forall_mem_cons.mpr ⟨kco_124_t2, (fun _ h => by cases h)⟩)⟩)⟩)
def kco_125_0 : List (Nat × Instr × Nat) := [(0, .aload_n 0, 1), (1, .invokevirtual 215, 3), (4, .aload_n 0, 1), (5, .iload_n 2, 1), (6, .invokevirtual 218, 3), (9, .aload_n 0, 1), (10, .iload_n 1, 1), (11, .invokestatic 291, 3), (14, .iconst (0), 1), (15, .iadd, 1), (16, .bipush (82), 2), (18, .invokevirtual 295, 3), (21, .aload_n 0, 1), (22, .sipush (224), 3), (25, .iload_n 1, 1), (26, .invokestatic 291, 3), (29, .iconst (0), 1), (30, .iadd, 1), (31, .invokevirtual 288, 3)]
theorem kco_125_t0 : kco_125_0.all (fun q => decide (decode prog_13_method_40_code q.1 = .ok q.2)) = true := by decide +kernel
def kco_125_1 : List (Nat × Instr × Nat) := [(34, .aload_n 0, 1), (35, .sipush (256), 3), (38, .iload_n 1, 1), (39, .invokestatic 291, 3), (42, .iload_n 3, 1), (43, .iadd, 1), (44, .invokevirtual 288, 3), (47, .return_, 1)]
theorem kco_125_t1 : kco_125_1.all (fun q => decide (decode prog_13_method_40_code q.1 = .ok q.2)) = true := by decide +kernel
def kco_125 : List (List (Nat × Instr × Nat)) := [kco_125_0, kco_125_1]
theorem kco_125_ok : ∀ pc i n, ck_cdAt kco_125 pc = some (i, n) → decode prog_13_method_40_code pc = .ok (i, n) := ck_cd_ok (List.forall_mem_cons.mpr ⟨kco_125_t0, (List.forall_mem_cons.mpr ⟨kco_125_t1, (fun _ h => by cases h)⟩)⟩)
end
section
/-! ===== code, read ===== -/
def kco_126_0 : List (Nat × Instr × Nat) := [(0, .iload_n 1, 1), (1, .invokestatic 291, 3), (4, .istore_n 2, 1), (5, .aload_n 0, 1), (6, .getfield 91, 3), (9, .iload_n 1, 1), (10, .aload_n 0, 1), (11, .getfield 38, 3), (14, .iastore, 1), (15, .aload_n 0, 1), (16, .dup, 1), (17, .getfield 38, 3), (20, .iconst (1), 1), (21, .iadd, 1), (22, .putfield 38, 3), (25, .aload_n 0, 1), (26, .aload_n 0, 1), (27, .getfield 91, 3), (30, .iload_n 1, 1), (31, .iaload, 1)]
theorem kco_126_t0 : kco_126_0.all (fun q => decide (decode prog_13_method_41_code q.1 = .ok q.2)) = true := by decide +kernel
def kco_126_1 : List (Nat × Instr × Nat) := [(32, .iload_n 2, 1), (33, .bipush (96), 2), (35, .iadd, 1), (36, .invokevirtual 273, 3), (39, .aload_n 0, 1), (40, .getfield 82, 3), (43, .iload_n 1, 1), (44, .aload_n 0, 1), (45, .getfield 76, 3), (48, .iload_n 1, 1), (49, .iaload, 1), (50, .iastore, 1), (51, .aload_n 0, 1), (52, .getfield 76, 3), (55, .iload_n 1, 1), (56, .iconst (0), 1), (57, .iastore, 1), (58, .aload_n 0, 1), (59, .aload_n 0, 1), (60, .getfield 91, 3), (63, .iload_n 1, 1)]
theorem kco_126_t1 : kco_126_1.all (fun q => decide (decode prog_13_method_41_code q.1 = .ok q.2)) = true := by decide +kernel
def kco_126_2 : List (Nat × Instr × Nat) := [(64, .iaload, 1), (65, .iload_n 2, 1), (66, .sipush (128), 3), (69, .iadd, 1), (70, .sipush (320), 3), (73, .invokevirtual 298, 3), (76, .aload_n 0, 1), (77, .iload_n 1, 1), (78, .sipush (320), 3), (81, .bipush (32), 2), (83, .invokevirtual 301, 3), (86, .aload_n 0, 1), (87, .getfield 70, 3), (90, .iload_n 1, 1), (91, .iconst (1), 1), (92, .bastore, 1), (93, .return_, 1)]
theorem kco_126_t2 : kco_126_2.all (fun q => decide (decode prog_13_method_41_code q.1 = .ok q.2)) = true := by decide +kernel
def kco_126 : List (List (Nat × Instr × Nat)) := [kco_126_0, kco_126_1, kco_126_2]
theorem kco_126_ok : ∀ pc i n, ck_cdAt kco_126 pc = some (i, n) → decode prog_13_method_41_code pc = .ok (i, n) := ck_cd_ok (List.forall_mem_cons.mpr ⟨kco_126_t0, (List.forall_mem_cons.mpr ⟨kco_126_t1, (List.forall_mem_cons.mpr ⟨kco_126_t2, (fun _ h => by cases h)⟩)⟩)⟩)
def kco_127_0 : List (Nat × Instr × Nat) := [(0, .iload_n 1, 1), (1, .iconst (4), 1), (2, .invokestatic 60, 3), (5, .aload_n 0, 1), (6, .getfield 16, 3), (9, .iload_n 1, 1), (10, .aaload, 1), (11, .invokevirtual 127, 3), (14, .ireturn, 1)]
theorem kco_127_t0 : kco_127_0.all (fun q => decide (decode prog_1_method_8_code q.1 = .ok q.2)) = true := by decide +kernel
def kco_127 : List (List (Nat × Instr × Nat)) := [kco_127_0]
theorem kco_127_ok : ∀ pc i n, ck_cdAt kco_127 pc = some (i, n) → decode prog_1_method_8_code pc = .ok (i, n) := ck_cd_ok (List.forall_mem_cons.mpr ⟨kco_127_t0, (fun _ h => by cases h)⟩)
def kco_128_0 : List (Nat × Instr × Nat) := [(0, .aload_n 2, 1), (1, .iconst (0), 1), (2, .aload_n 0, 1), (3, .iload_n 1, 1), (4, .invokevirtual 36, 3), (7, .i2l, 1), (8, .lastore, 1), (9, .goto (6), 3), (12, .astore_n 3, 1), (13, .iconst (1), 1), (14, .ireturn, 1), (15, .iconst (0), 1), (16, .ireturn, 1)]
theorem kco_128_t0 : kco_128_0.all (fun q => decide (decode method_9_code q.1 = .ok q.2)) = true := by decide +kernel
def kco_128 : List (List (Nat × Instr × Nat)) := [kco_128_0]
theorem kco_128_ok : ∀ pc i n, ck_cdAt kco_128 pc = some (i, n) → decode method_9_code pc = .ok (i, n) := ck_cd_ok (List.forall_mem_cons.mpr ⟨kco_128_t0, (fun _ h => by cases h)⟩)
def kco_129_0 : List (Nat × Instr × Nat) := [(0, .aload_n 0, 1), (1, .iload_n 1, 1), (2, .iconst (4), 1), (3, .invokestatic 276, 3), (6, .ifCond .eq (7), 3), (9, .iconst (0), 1), (10, .goto (4), 3), (13, .iconst (1), 1), (14, .invokevirtual 280, 3), (17, .ifCond .eq (5), 3), (20, .iconst (0), 1), (21, .ireturn, 1), (22, .iconst (0), 1), (23, .istore_n 2, 1), (24, .iconst (0), 1), (25, .istore_n 3, 1), (26, .iload_n 3, 1), (27, .bipush (8), 2), (29, .if_icmp .ge (31), 3)]
theorem kco_129_t0 : kco_129_0.all (fun q => decide (decode prog_13_method_38_code q.1 = .ok q.2)) = true := by decide +kernel
def kco_129_1 : List (Nat × Instr × Nat) := [(32, .aload_n 0, 1), (33, .getfield 52, 3), (36, .bipush (8), 2), (38, .iload_n 1, 1), (39, .imul, 1), (40, .iload_n 3, 1), (41, .iadd, 1), (42, .baload, 1), (43, .ifCond .eq (9), 3), (46, .iload_n 2, 1), (47, .iconst (1), 1), (48, .iadd, 1), (49, .goto (4), 3), (52, .iload_n 2, 1), (53, .istore_n 2, 1), (54, .iinc 3 (1), 3), (57, .goto (-31), 3), (60, .iload_n 2, 1), (61, .ireturn, 1)]
theorem kco_129_t1 : kco_129_1.all (fun q => decide (decode prog_13_method_38_code q.1 = .ok q.2)) = true := by decide +kernel
def kco_129 : List (List (Nat × Instr × Nat)) := [kco_129_0, kco_129_1]
theorem kco_129_ok : ∀ pc i n, ck_cdAt kco_129 pc = some (i, n) → decode prog_13_method_38_code pc = .ok (i, n) := ck_cd_ok (List.forall_mem_cons.mpr ⟨kco_129_t0, (List.forall_mem_cons.mpr ⟨kco_129_t1, (fun _ h => by cases h)⟩)⟩)
def kco_130_0 : List (Nat × Instr × Nat) := [(0, .iconst (0), 1), (1, .istore_n 1, 1), (2, .iconst (0), 1), (3, .istore_n 2, 1), (4, .iload_n 2, 1), (5, .aload_n 0, 1), (6, .getfield 29, 3), (9, .if_icmp .ge (22), 3), (12, .aload_n 0, 1), (13, .getfield 25, 3), (16, .iload_n 2, 1), (17, .iaload, 1), (18, .iconst (1), 1), (19, .if_icmp .ne (6), 3), (22, .iinc 1 (1), 3), (25, .iinc 2 (1), 3), (28, .goto (-24), 3), (31, .iload_n 1, 1)]
theorem kco_130_t0 : kco_130_0.all (fun q => decide (decode prog_8_method_3_code q.1 = .ok q.2)) = true := by decide +kernel
def kco_130_1 : List (Nat × Instr × Nat) := [(32, .ireturn, 1)]
theorem kco_130_t1 : kco_130_1.all (fun q => decide (decode prog_8_method_3_code q.1 = .ok q.2)) = true := by decide +kernel
def kco_130 : List (List (Nat × Instr × Nat)) := [kco_130_0, kco_130_1]
theorem kco_130_ok : ∀ pc i n, ck_cdAt kco_130 pc = some (i, n) → decode prog_8_method_3_code pc = .ok (i, n) := ck_cd_ok (List.forall_mem_cons.mpr ⟨kco_130_t0, (List.forall_mem_cons.mpr ⟨kco_130_t1, (fun _ h => by cases h)⟩)⟩)
def kco_131_0 : List (Nat × Instr × Nat) := [(0, .iload_n 1, 1), (1, .iconst (4), 1), (2, .invokestatic 60, 3), (5, .aload_n 0, 1), (6, .getfield 16, 3), (9, .iload_n 1, 1), (10, .aaload, 1), (11, .astore_n 2, 1), (12, .aload_n 2, 1), (13, .getfield 109, 3), (16, .bipush (8), 2), (18, .invokestatic 112, 3), (21, .aload_n 0, 1), (22, .aload_n 2, 1), (23, .getfield 115, 3), (26, .aload_n 2, 1), (27, .getfield 109, 3), (30, .aaload, 1), (31, .invokevirtual 119, 3)]
theorem kco_131_t0 : kco_131_0.all (fun q => decide (decode prog_1_method_7_code q.1 = .ok q.2)) = true := by decide +kernel
def kco_131_1 : List (Nat × Instr × Nat) := [(34, .aload_n 2, 1), (35, .invokevirtual 123, 3), (38, .ireturn, 1)]
theorem kco_131_t1 : kco_131_1.all (fun q => decide (decode prog_1_method_7_code q.1 = .ok q.2)) = true := by decide +kernel
def kco_131 : List (List (Nat × Instr × Nat)) := [kco_131_0, kco_131_1]
theorem kco_131_ok : ∀ pc i n, ck_cdAt kco_131 pc = some (i, n) → decode prog_1_method_7_code pc = .ok (i, n) := ck_cd_ok (List.forall_mem_cons.mpr ⟨kco_131_t0, (List.forall_mem_cons.mpr ⟨kco_131_t1, (fun _ h => by cases h)⟩)⟩)
def kco_132_0 : List (Nat × Instr × Nat) := [(0, .aload_n 2, 1), (1, .iconst (0), 1), (2, .aload_n 0, 1), (3, .iload_n 1, 1), (4, .invokevirtual 30, 3), (7, .i2l, 1), (8, .lastore, 1), (9, .goto (9), 3), (12, .astore_n 3, 1), (13, .iconst (1), 1), (14, .ireturn, 1), (15, .astore_n 3, 1), (16, .iconst (2), 1), (17, .ireturn, 1), (18, .iconst (0), 1), (19, .ireturn, 1)]
theorem kco_132_t0 : kco_132_0.all (fun q => decide (decode method_8_code q.1 = .ok q.2)) = true := by decide +kernel
def kco_132 : List (List (Nat × Instr × Nat)) := [kco_132_0]
theorem kco_132_ok : ∀ pc i n, ck_cdAt kco_132 pc = some (i, n) → decode method_8_code pc = .ok (i, n) := ck_cd_ok (List.forall_mem_cons.mpr ⟨kco_132_t0, (fun _ h => by cases h)⟩)
def kco_133_0 : List (Nat × Instr × Nat) := [(0, .aload_n 0, 1), (1, .iload_n 1, 1), (2, .iconst (4), 1), (3, .invokestatic 276, 3), (6, .ifCond .ne (7), 3), (9, .iconst (1), 1), (10, .goto (19), 3), (13, .aload_n 0, 1), (14, .getfield 46, 3), (17, .iload_n 1, 1), (18, .iaload, 1), (19, .bipush (8), 2), (21, .if_icmp .ne (7), 3), (24, .iconst (2), 1), (25, .goto (4), 3), (28, .iconst (0), 1), (29, .invokevirtual 280, 3)]
theorem kco_133_t0 : kco_133_0.all (fun q => decide (decode prog_13_method_37_code q.1 = .ok q.2)) = true := by decide +kernel
def kco_133_1 : List (Nat × Instr × Nat) := [(32, .ifCond .eq (5), 3), (35, .iconst (0), 1), (36, .ireturn, 1), (37, .bipush (8), 2), (39, .iload_n 1, 1), (40, .imul, 1), (41, .aload_n 0, 1), (42, .getfield 46, 3), (45, .iload_n 1, 1), (46, .iaload, 1), (47, .iadd, 1), (48, .istore_n 2, 1), (49, .aload_n 0, 1), (50, .getfield 49, 3), (53, .iload_n 2, 1), (54, .aload_n 0, 1), (55, .getfield 38, 3), (58, .iastore, 1), (59, .aload_n 0, 1), (60, .getfield 52, 3), (63, .iload_n 2, 1)]
theorem kco_133_t1 : kco_133_1.all (fun q => decide (decode prog_13_method_37_code q.1 = .ok q.2)) = true := by decide +kernel
def kco_133_2 : List (Nat × Instr × Nat) := [(64, .iconst (1), 1), (65, .bastore, 1), (66, .aload_n 0, 1), (67, .getfield 55, 3), (70, .iload_n 2, 1), (71, .iconst (1), 1), (72, .bastore, 1), (73, .aload_n 0, 1), (74, .dup, 1), (75, .getfield 38, 3), (78, .iconst (1), 1), (79, .iadd, 1), (80, .putfield 38, 3), (83, .aload_n 0, 1), (84, .getfield 46, 3), (87, .iload_n 1, 1), (88, .dup2, 1), (89, .iaload, 1), (90, .iconst (1), 1), (91, .iadd, 1), (92, .iastore, 1), (93, .aload_n 0, 1), (94, .getfield 46, 3)]
theorem kco_133_t2 : kco_133_2.all (fun q => decide (decode prog_13_method_37_code q.1 = .ok q.2)) = true := by decide +kernel
def kco_133_3 : List (Nat × Instr × Nat) := [(97, .iload_n 1, 1), (98, .iaload, 1), (99, .iconst (1), 1), (100, .isub, 1), (101, .ireturn, 1)]
theorem kco_133_t3 : kco_133_3.all (fun q => decide (decode prog_13_method_37_code q.1 = .ok q.2)) = true := by decide +kernel
def kco_133 : List (List (Nat × Instr × Nat)) := [kco_133_0, kco_133_1, kco_133_2, kco_133_3]
theorem kco_133_ok : ∀ pc i n, ck_cdAt kco_133 pc = some (i, n) → decode prog_13_method_37_code pc = .ok (i, n) := ck_cd_ok (List.forall_mem_cons.mpr ⟨kco_133_t0, (List.forall_mem_cons.mpr ⟨kco_133_t1, (List.forall_mem_cons.mpr ⟨kco_133_t2, (List.forall_mem_cons.mpr ⟨kco_133_t3, (fun _ h => by cases h)⟩)⟩)⟩)⟩)
def kco_134_0 : List (Nat × Instr × Nat) := [(0, .aload_n 0, 1), (1, .getfield 29, 3), (4, .bipush (8), 2), (6, .if_icmp .ge (23), 3), (9, .aload_n 0, 1), (10, .getfield 25, 3), (13, .aload_n 0, 1), (14, .getfield 29, 3), (17, .iconst (1), 1), (18, .iastore, 1), (19, .aload_n 0, 1), (20, .dup, 1), (21, .getfield 29, 3), (24, .iconst (1), 1), (25, .iadd, 1), (26, .putfield 29, 3), (29, .aload_n 0, 1), (30, .getfield 29, 3)]
theorem kco_134_t0 : kco_134_0.all (fun q => decide (decode prog_8_method_2_code q.1 = .ok q.2)) = true := by decide +kernel
def kco_134_1 : List (Nat × Instr × Nat) := [(33, .iconst (1), 1), (34, .isub, 1), (35, .ireturn, 1)]
theorem kco_134_t1 : kco_134_1.all (fun q => decide (decode prog_8_method_2_code q.1 = .ok q.2)) = true := by decide +kernel
def kco_134 : List (List (Nat × Instr × Nat)) := [kco_134_0, kco_134_1]
theorem kco_134_ok : ∀ pc i n, ck_cdAt kco_134 pc = some (i, n) → decode prog_8_method_2_code pc = .ok (i, n) := ck_cd_ok (List.forall_mem_cons.mpr ⟨kco_134_t0, (List.forall_mem_cons.mpr ⟨kco_134_t1, (fun _ h => by cases h)⟩)⟩)
def kco_135_0 : List (Nat × Instr × Nat) := [(0, .iload_n 1, 1), (1, .sipush (129), 3), (4, .invokestatic 60, 3), (7, .iload_n 2, 1), (8, .iconst (4), 1), (9, .invokestatic 60, 3), (12, .aload_n 0, 1), (13, .getfield 42, 3), (16, .getfield 82, 3), (19, .invokevirtual 99, 3), (22, .iconst (0), 1), (23, .istore_n 3, 1), (24, .iload_n 3, 1), (25, .iload_n 1, 1), (26, .if_icmp .ge (33), 3), (29, .aload_n 0, 1), (30, .getfield 42, 3)]
theorem kco_135_t0 : kco_135_0.all (fun q => decide (decode prog_1_method_6_code q.1 = .ok q.2)) = true := by decide +kernel
def kco_135_1 : List (Nat × Instr × Nat) := [(33, .getfield 82, 3), (36, .aload_n 0, 1), (37, .getfield 11, 3), (40, .iload_n 3, 1), (41, .bipush (32), 2), (43, .idiv, 1), (44, .aaload, 1), (45, .iload_n 3, 1), (46, .bipush (32), 2), (48, .irem, 1), (49, .iaload, 1), (50, .invokevirtual 102, 3), (53, .iinc 3 (1), 3), (56, .goto (-32), 3), (59, .aload_n 0, 1), (60, .getfield 42, 3), (63, .getfield 82, 3)]
theorem kco_135_t1 : kco_135_1.all (fun q => decide (decode prog_1_method_6_code q.1 = .ok q.2)) = true := by decide +kernel
def kco_135_2 : List (Nat × Instr × Nat) := [(66, .aload_n 0, 1), (67, .getfield 11, 3), (70, .iload_n 2, 1), (71, .aaload, 1), (72, .invokevirtual 106, 3), (75, .return_, 1)]
theorem kco_135_t2 : kco_135_2.all (fun q => decide (decode prog_1_method_6_code q.1 = .ok q.2)) = true := by decide +kernel
def kco_135 : List (List (Nat × Instr × Nat)) := [kco_135_0, kco_135_1, kco_135_2]
theorem kco_135_ok : ∀ pc i n, ck_cdAt kco_135 pc = some (i, n) → decode prog_1_method_6_code pc = .ok (i, n) := ck_cd_ok (List.forall_mem_cons.mpr ⟨kco_135_t0, (List.forall_mem_cons.mpr ⟨kco_135_t1, (List.forall_mem_cons.mpr ⟨kco_135_t2, (fun _ h => by cases h)⟩)⟩)⟩)
def kco_136_0 : List (Nat × Instr × Nat) := [(0, .aload_n 0, 1), (1, .iload_n 1, 1), (2, .iload_n 2, 1), (3, .invokevirtual 26, 3), (6, .goto (6), 3), (9, .astore_n 3, 1), (10, .iconst (1), 1), (11, .ireturn, 1), (12, .iconst (0), 1), (13, .ireturn, 1)]
theorem kco_136_t0 : kco_136_0.all (fun q => decide (decode method_7_code q.1 = .ok q.2)) = true := by decide +kernel
def kco_136 : List (List (Nat × Instr × Nat)) := [kco_136_0]
theorem kco_136_ok : ∀ pc i n, ck_cdAt kco_136 pc = some (i, n) → decode method_7_code pc = .ok (i, n) := ck_cd_ok (List.forall_mem_cons.mpr ⟨kco_136_t0, (fun _ h => by cases h)⟩)
def kco_137_0 : List (Nat × Instr × Nat) := [(0, .aload_n 0, 1), (1, .iload_n 1, 1), (2, .sipush (129), 3), (5, .invokestatic 276, 3), (8, .ifCond .eq (15), 3), (11, .iload_n 2, 1), (12, .iconst (4), 1), (13, .invokestatic 276, 3), (16, .ifCond .eq (7), 3), (19, .iconst (0), 1), (20, .goto (4), 3), (23, .iconst (1), 1), (24, .invokevirtual 280, 3), (27, .ifCond .ne (37), 3), (30, .iconst (0), 1), (31, .istore_n 3, 1)]
theorem kco_137_t0 : kco_137_0.all (fun q => decide (decode prog_13_method_36_code q.1 = .ok q.2)) = true := by decide +kernel
def kco_137_1 : List (Nat × Instr × Nat) := [(32, .iload_n 3, 1), (33, .iload_n 1, 1), (34, .if_icmp .ge (21), 3), (37, .aload_n 0, 1), (38, .getfield 13, 3), (41, .iload_n 3, 1), (42, .aload_n 0, 1), (43, .getfield 7, 3), (46, .iload_n 3, 1), (47, .iaload, 1), (48, .iastore, 1), (49, .iinc 3 (1), 3), (52, .goto (-20), 3), (55, .aload_n 0, 1), (56, .iload_n 1, 1), (57, .bipush (32), 2), (59, .iload_n 2, 1), (60, .imul, 1), (61, .invokevirtual 209, 3)]
theorem kco_137_t1 : kco_137_1.all (fun q => decide (decode prog_13_method_36_code q.1 = .ok q.2)) = true := by decide +kernel
def kco_137_2 : List (Nat × Instr × Nat) := [(64, .return_, 1)]
theorem kco_137_t2 : kco_137_2.all (fun q => decide (decode prog_13_method_36_code q.1 = .ok q.2)) = true := by decide +kernel
def kco_137 : List (List (Nat × Instr × Nat)) := [kco_137_0, kco_137_1, kco_137_2]
theorem kco_137_ok : ∀ pc i n, ck_cdAt kco_137 pc = some (i, n) → decode prog_13_method_36_code pc = .ok (i, n) := ck_cd_ok (List.forall_mem_cons.mpr ⟨kco_137_t0, (List.forall_mem_cons.mpr ⟨kco_137_t1, (List.forall_mem_cons.mpr ⟨kco_137_t2, (fun _ h => by cases h)⟩)⟩)⟩)
def kco_138_0 : List (Nat × Instr × Nat) := [(0, .iload_n 1, 1), (1, .iconst (4), 1), (2, .invokestatic 60, 3), (5, .iload_n 2, 1), (6, .iconst (4), 1), (7, .invokestatic 60, 3), (10, .iload_n 3, 1), (11, .iconst (4), 1), (12, .invokestatic 60, 3), (15, .aload_n 0, 1), (16, .getfield 42, 3), (19, .getfield 82, 3), (22, .aload_n 0, 1), (23, .getfield 11, 3), (26, .iload_n 1, 1), (27, .aaload, 1), (28, .invokevirtual 86, 3), (31, .aload_n 0, 1)]
theorem kco_138_t0 : kco_138_0.all (fun q => decide (decode prog_1_method_5_code q.1 = .ok q.2)) = true := by decide +kernel
def kco_138_1 : List (Nat × Instr × Nat) := [(32, .getfield 42, 3), (35, .getfield 82, 3), (38, .aload_n 0, 1), (39, .getfield 11, 3), (42, .iload_n 2, 1), (43, .aaload, 1), (44, .bipush (32), 2), (46, .invokevirtual 92, 3), (49, .aload_n 0, 1), (50, .getfield 42, 3), (53, .getfield 82, 3), (56, .aload_n 0, 1), (57, .getfield 11, 3), (60, .iload_n 3, 1), (61, .aaload, 1), (62, .invokevirtual 96, 3)]
theorem kco_138_t1 : kco_138_1.all (fun q => decide (decode prog_1_method_5_code q.1 = .ok q.2)) = true := by decide +kernel
def kco_138_2 : List (Nat × Instr × Nat) := [(65, .return_, 1)]
theorem kco_138_t2 : kco_138_2.all (fun q => decide (decode prog_1_method_5_code q.1 = .ok q.2)) = true := by decide +kernel
def kco_138 : List (List (Nat × Instr × Nat)) := [kco_138_0, kco_138_1, kco_138_2]
theorem kco_138_ok : ∀ pc i n, ck_cdAt kco_138 pc = some (i, n) → decode prog_1_method_5_code pc = .ok (i, n) := ck_cd_ok (List.forall_mem_cons.mpr ⟨kco_138_t0, (List.forall_mem_cons.mpr ⟨kco_138_t1, (List.forall_mem_cons.mpr ⟨kco_138_t2, (fun _ h => by cases h)⟩)⟩)⟩)
def kco_139_0 : List (Nat × Instr × Nat) := [(0, .aload_n 0, 1), (1, .iload_n 1, 1), (2, .iload_n 2, 1), (3, .iload_n 3, 1), (4, .invokevirtual 23, 3), (7, .goto (7), 3), (10, .astore 4, 2), (12, .iconst (1), 1), (13, .ireturn, 1), (14, .iconst (0), 1), (15, .ireturn, 1)]
theorem kco_139_t0 : kco_139_0.all (fun q => decide (decode method_6_code q.1 = .ok q.2)) = true := by decide +kernel
def kco_139 : List (List (Nat × Instr × Nat)) := [kco_139_0]
theorem kco_139_ok : ∀ pc i n, ck_cdAt kco_139 pc = some (i, n) → decode method_6_code pc = .ok (i, n) := ck_cd_ok (List.forall_mem_cons.mpr ⟨kco_139_t0, (fun _ h => by cases h)⟩)
def kco_140_0 : List (Nat × Instr × Nat) := [(0, .aload_n 0, 1), (1, .iload_n 1, 1), (2, .iconst (4), 1), (3, .invokestatic 276, 3), (6, .ifCond .eq (23), 3), (9, .iload_n 2, 1), (10, .iconst (4), 1), (11, .invokestatic 276, 3), (14, .ifCond .eq (15), 3), (17, .iload_n 3, 1), (18, .iconst (4), 1), (19, .invokestatic 276, 3), (22, .ifCond .eq (7), 3), (25, .iconst (0), 1), (26, .goto (4), 3), (29, .iconst (1), 1), (30, .invokevirtual 280, 3)]
theorem kco_140_t0 : kco_140_0.all (fun q => decide (decode prog_13_method_35_code q.1 = .ok q.2)) = true := by decide +kernel
def kco_140_1 : List (Nat × Instr × Nat) := [(33, .ifCond .ne (37), 3), (36, .aload_n 0, 1), (37, .invokevirtual 215, 3), (40, .aload_n 0, 1), (41, .bipush (32), 2), (43, .iload_n 2, 1), (44, .imul, 1), (45, .invokevirtual 218, 3), (48, .aload_n 0, 1), (49, .bipush (32), 2), (51, .iload_n 1, 1), (52, .imul, 1), (53, .sipush (224), 3), (56, .invokevirtual 212, 3), (59, .aload_n 0, 1), (60, .sipush (224), 3), (63, .bipush (32), 2)]
theorem kco_140_t1 : kco_140_1.all (fun q => decide (decode prog_13_method_35_code q.1 = .ok q.2)) = true := by decide +kernel
def kco_140_2 : List (Nat × Instr × Nat) := [(65, .iload_n 3, 1), (66, .imul, 1), (67, .invokevirtual 288, 3), (70, .return_, 1)]
theorem kco_140_t2 : kco_140_2.all (fun q => decide (decode prog_13_method_35_code q.1 = .ok q.2)) = true := by decide +kernel
def kco_140 : List (List (Nat × Instr × Nat)) := [kco_140_0, kco_140_1, kco_140_2]
theorem kco_140_ok : ∀ pc i n, ck_cdAt kco_140 pc = some (i, n) → decode prog_13_method_35_code pc = .ok (i, n) := ck_cd_ok (List.forall_mem_cons.mpr ⟨kco_140_t0, (List.forall_mem_cons.mpr ⟨kco_140_t1, (List.forall_mem_cons.mpr ⟨kco_140_t2, (fun _ h => by cases h)⟩)⟩)⟩)
def kco_141_0 : List (Nat × Instr × Nat) := [(0, .iload_n 1, 1), (1, .iconst (4), 1), (2, .invokestatic 60, 3), (5, .iload_n 2, 1), (6, .iconst (4), 1), (7, .invokestatic 60, 3), (10, .iload_n 3, 1), (11, .iconst (4), 1), (12, .invokestatic 60, 3), (15, .aload_n 0, 1), (16, .getfield 42, 3), (19, .getfield 72, 3), (22, .aload_n 0, 1), (23, .getfield 11, 3), (26, .iload_n 1, 1), (27, .aaload, 1), (28, .aload_n 0, 1), (29, .getfield 11, 3)]
theorem kco_141_t0 : kco_141_0.all (fun q => decide (decode prog_1_method_4_code q.1 = .ok q.2)) = true := by decide +kernel
def kco_141_1 : List (Nat × Instr × Nat) := [(32, .iload_n 2, 1), (33, .aaload, 1), (34, .aload_n 0, 1), (35, .getfield 11, 3), (38, .iload_n 3, 1), (39, .aaload, 1), (40, .invokevirtual 76, 3), (43, .return_, 1)]
theorem kco_141_t1 : kco_141_1.all (fun q => decide (decode prog_1_method_4_code q.1 = .ok q.2)) = true := by decide +kernel
def kco_141 : List (List (Nat × Instr × Nat)) := [kco_141_0, kco_141_1]
theorem kco_141_ok : ∀ pc i n, ck_cdAt kco_141 pc = some (i, n) → decode prog_1_method_4_code pc = .ok (i, n) := ck_cd_ok (List.forall_mem_cons.mpr ⟨kco_141_t0, (List.forall_mem_cons.mpr ⟨kco_141_t1, (fun _ h => by cases h)⟩)⟩)
def kco_142_0 : List (Nat × Instr × Nat) := [(0, .aload_n 0, 1), (1, .iload_n 1, 1), (2, .iload_n 2, 1), (3, .iload_n 3, 1), (4, .invokevirtual 19, 3), (7, .goto (7), 3), (10, .astore 4, 2), (12, .iconst (1), 1), (13, .ireturn, 1), (14, .iconst (0), 1), (15, .ireturn, 1)]
theorem kco_142_t0 : kco_142_0.all (fun q => decide (decode method_5_code q.1 = .ok q.2)) = true := by decide +kernel
def kco_142 : List (List (Nat × Instr × Nat)) := [kco_142_0]
theorem kco_142_ok : ∀ pc i n, ck_cdAt kco_142 pc = some (i, n) → decode method_5_code pc = .ok (i, n) := ck_cd_ok (List.forall_mem_cons.mpr ⟨kco_142_t0, (fun _ h => by cases h)⟩)
def kco_143_0 : List (Nat × Instr × Nat) := [(0, .aload_n 0, 1), (1, .iload_n 1, 1), (2, .iconst (4), 1), (3, .invokestatic 276, 3), (6, .ifCond .eq (23), 3), (9, .iload_n 2, 1), (10, .iconst (4), 1), (11, .invokestatic 276, 3), (14, .ifCond .eq (15), 3), (17, .iload_n 3, 1), (18, .iconst (4), 1), (19, .invokestatic 276, 3), (22, .ifCond .eq (7), 3), (25, .iconst (0), 1), (26, .goto (4), 3), (29, .iconst (1), 1), (30, .invokevirtual 280, 3)]
theorem kco_143_t0 : kco_143_0.all (fun q => decide (decode prog_13_method_34_code q.1 = .ok q.2)) = true := by decide +kernel
def kco_143_1 : List (Nat × Instr × Nat) := [(33, .ifCond .ne (29), 3), (36, .aload_n 0, 1), (37, .bipush (32), 2), (39, .iload_n 1, 1), (40, .imul, 1), (41, .bipush (32), 2), (43, .iload_n 2, 1), (44, .imul, 1), (45, .sipush (320), 3), (48, .invokevirtual 270, 3), (51, .aload_n 0, 1), (52, .sipush (320), 3), (55, .bipush (32), 2), (57, .iload_n 3, 1), (58, .imul, 1), (59, .invokevirtual 288, 3), (62, .return_, 1)]
theorem kco_143_t1 : kco_143_1.all (fun q => decide (decode prog_13_method_34_code q.1 = .ok q.2)) = true := by decide +kernel
def kco_143 : List (List (Nat × Instr × Nat)) := [kco_143_0, kco_143_1]
theorem kco_143_ok : ∀ pc i n, ck_cdAt kco_143 pc = some (i, n) → decode prog_13_method_34_code pc = .ok (i, n) := ck_cd_ok (List.forall_mem_cons.mpr ⟨kco_143_t0, (List.forall_mem_cons.mpr ⟨kco_143_t1, (fun _ h => by cases h)⟩)⟩)
def kco_144_0 : List (Nat × Instr × Nat) := [(0, .iload_n 1, 1), (1, .iconst (4), 1), (2, .invokestatic 60, 3), (5, .iload_n 2, 1), (6, .iconst (4), 1), (7, .invokestatic 60, 3), (10, .aload_n 0, 1), (11, .getfield 11, 3), (14, .iload_n 1, 1), (15, .aaload, 1), (16, .bipush (8), 2), (18, .iload_n 2, 1), (19, .imul, 1), (20, .invokestatic 68, 3), (23, .lreturn, 1)]
theorem kco_144_t0 : kco_144_0.all (fun q => decide (decode prog_1_method_3_code q.1 = .ok q.2)) = true := by decide +kernel
def kco_144 : List (List (Nat × Instr × Nat)) := [kco_144_0]
theorem kco_144_ok : ∀ pc i n, ck_cdAt kco_144 pc = some (i, n) → decode prog_1_method_3_code pc = .ok (i, n) := ck_cd_ok (List.forall_mem_cons.mpr ⟨kco_144_t0, (fun _ h => by cases h)⟩)
def kco_145_0 : List (Nat × Instr × Nat) := [(0, .aload_n 3, 1), (1, .iconst (0), 1), (2, .aload_n 0, 1), (3, .iload_n 1, 1), (4, .iload_n 2, 1), (5, .invokevirtual 15, 3), (8, .lastore, 1), (9, .goto (7), 3), (12, .astore 4, 2), (14, .iconst (1), 1), (15, .ireturn, 1), (16, .iconst (0), 1), (17, .ireturn, 1)]
theorem kco_145_t0 : kco_145_0.all (fun q => decide (decode method_4_code q.1 = .ok q.2)) = true := by decide +kernel
def kco_145 : List (List (Nat × Instr × Nat)) := [kco_145_0]
theorem kco_145_ok : ∀ pc i n, ck_cdAt kco_145 pc = some (i, n) → decode method_4_code pc = .ok (i, n) := ck_cd_ok (List.forall_mem_cons.mpr ⟨kco_145_t0, (fun _ h => by cases h)⟩)
def kco_146_0 : List (Nat × Instr × Nat) := [(0, .aload_n 0, 1), (1, .iload_n 1, 1), (2, .iconst (4), 1), (3, .invokestatic 276, 3), (6, .ifCond .eq (15), 3), (9, .iload_n 2, 1), (10, .iconst (4), 1), (11, .invokestatic 276, 3), (14, .ifCond .eq (7), 3), (17, .iconst (0), 1), (18, .goto (4), 3), (21, .iconst (1), 1), (22, .invokevirtual 280, 3), (25, .ifCond .eq (7), 3), (28, .lconst (0), 1), (29, .goto (16), 3)]
theorem kco_146_t0 : kco_146_0.all (fun q => decide (decode prog_13_method_33_code q.1 = .ok q.2)) = true := by decide +kernel
def kco_146_1 : List (Nat × Instr × Nat) := [(32, .aload_n 0, 1), (33, .bipush (32), 2), (35, .iload_n 1, 1), (36, .imul, 1), (37, .bipush (8), 2), (39, .iload_n 2, 1), (40, .imul, 1), (41, .iadd, 1), (42, .invokevirtual 284, 3), (45, .lreturn, 1)]
theorem kco_146_t1 : kco_146_1.all (fun q => decide (decode prog_13_method_33_code q.1 = .ok q.2)) = true := by decide +kernel
def kco_146 : List (List (Nat × Instr × Nat)) := [kco_146_0, kco_146_1]
theorem kco_146_ok : ∀ pc i n, ck_cdAt kco_146 pc = some (i, n) → decode prog_13_method_33_code pc = .ok (i, n) := ck_cd_ok (List.forall_mem_cons.mpr ⟨kco_146_t0, (List.forall_mem_cons.mpr ⟨kco_146_t1, (fun _ h => by cases h)⟩)⟩)
def kco_147_0 : List (Nat × Instr × Nat) := [(0, .lconst (0), 1), (1, .lstore_n 2, 1), (2, .bipush (7), 2), (4, .istore 4, 2), (6, .iload 4, 2), (8, .ifCond .lt (22), 3), (11, .lload_n 2, 1), (12, .bipush (8), 2), (14, .lshl, 1), (15, .aload_n 0, 1), (16, .iload_n 1, 1), (17, .iload 4, 2), (19, .iadd, 1), (20, .iaload, 1), (21, .i2l, 1), (22, .lor, 1), (23, .lstore_n 2, 1), (24, .iinc 4 (-1), 3), (27, .goto (-21), 3), (30, .lload_n 2, 1), (31, .lreturn, 1)]
theorem kco_147_t0 : kco_147_0.all (fun q => decide (decode prog_1_method_34_code q.1 = .ok q.2)) = true := by decide +kernel
def kco_147 : List (List (Nat × Instr × Nat)) := [kco_147_0]
theorem kco_147_ok : ∀ pc i n, ck_cdAt kco_147 pc = some (i, n) → decode prog_1_method_34_code pc = .ok (i, n) := ck_cd_ok (List.forall_mem_cons.mpr ⟨kco_147_t0, (fun _ h => by cases h)⟩)
def kco_148_0 : List (Nat × Instr × Nat) := [(0, .lconst (0), 1), (1, .lstore_n 2, 1), (2, .bipush (7), 2), (4, .istore 4, 2), (6, .iload 4, 2), (8, .ifCond .lt (25), 3), (11, .lload_n 2, 1), (12, .bipush (8), 2), (14, .lshl, 1), (15, .aload_n 0, 1), (16, .getfield 7, 3), (19, .iload_n 1, 1), (20, .iload 4, 2), (22, .iadd, 1), (23, .iaload, 1), (24, .i2l, 1), (25, .lor, 1), (26, .lstore_n 2, 1), (27, .iinc 4 (-1), 3), (30, .goto (-24), 3)]
theorem kco_148_t0 : kco_148_0.all (fun q => decide (decode prog_13_method_32_code q.1 = .ok q.2)) = true := by decide +kernel
def kco_148_1 : List (Nat × Instr × Nat) := [(33, .lload_n 2, 1), (34, .lreturn, 1)]
theorem kco_148_t1 : kco_148_1.all (fun q => decide (decode prog_13_method_32_code q.1 = .ok q.2)) = true := by decide +kernel
def kco_148 : List (List (Nat × Instr × Nat)) := [kco_148_0, kco_148_1]
theorem kco_148_ok : ∀ pc i n, ck_cdAt kco_148 pc = some (i, n) → decode prog_13_method_32_code pc = .ok (i, n) := ck_cd_ok (List.forall_mem_cons.mpr ⟨kco_148_t0, (List.forall_mem_cons.mpr ⟨kco_148_t1, (fun _ h => by cases h)⟩)⟩)
end
section
/-! ===== code, read ===== -/
def kco_149_0 : List (Nat × Instr × Nat) := [(0, .iload_n 1, 1), (1, .iconst (4), 1), (2, .invokestatic 60, 3), (5, .iload_n 2, 1), (6, .iconst (4), 1), (7, .invokestatic 60, 3), (10, .aload_n 0, 1), (11, .getfield 11, 3), (14, .iload_n 1, 1), (15, .aaload, 1), (16, .bipush (8), 2), (18, .iload_n 2, 1), (19, .imul, 1), (20, .lload_n 3, 1), (21, .invokestatic 64, 3), (24, .return_, 1)]
theorem kco_149_t0 : kco_149_0.all (fun q => decide (decode prog_1_method_2_code q.1 = .ok q.2)) = true := by decide +kernel
def kco_149 : List (List (Nat × Instr × Nat)) := [kco_149_0]
theorem kco_149_ok : ∀ pc i n, ck_cdAt kco_149 pc = some (i, n) → decode prog_1_method_2_code pc = .ok (i, n) := ck_cd_ok (List.forall_mem_cons.mpr ⟨kco_149_t0, (fun _ h => by cases h)⟩)
def kco_150_0 : List (Nat × Instr × Nat) := [(0, .aload_n 0, 1), (1, .iload_n 1, 1), (2, .iload_n 2, 1), (3, .lload_n 3, 1), (4, .invokevirtual 7, 3), (7, .goto (7), 3), (10, .astore 5, 2), (12, .iconst (1), 1), (13, .ireturn, 1), (14, .iconst (0), 1), (15, .ireturn, 1)]
theorem kco_150_t0 : kco_150_0.all (fun q => decide (decode method_3_code q.1 = .ok q.2)) = true := by decide +kernel
def kco_150 : List (List (Nat × Instr × Nat)) := [kco_150_0]
theorem kco_150_ok : ∀ pc i n, ck_cdAt kco_150 pc = some (i, n) → decode method_3_code pc = .ok (i, n) := ck_cd_ok (List.forall_mem_cons.mpr ⟨kco_150_t0, (fun _ h => by cases h)⟩)
def kco_151_0 : List (Nat × Instr × Nat) := [(0, .aload_n 0, 1), (1, .iload_n 1, 1), (2, .iconst (4), 1), (3, .invokestatic 276, 3), (6, .ifCond .eq (15), 3), (9, .iload_n 2, 1), (10, .iconst (4), 1), (11, .invokestatic 276, 3), (14, .ifCond .eq (7), 3), (17, .iconst (0), 1), (18, .goto (4), 3), (21, .iconst (1), 1), (22, .invokevirtual 280, 3), (25, .ifCond .ne (48), 3), (28, .iconst (0), 1), (29, .istore 5, 2), (31, .iload 5, 2)]
theorem kco_151_t0 : kco_151_0.all (fun q => decide (decode prog_13_method_31_code q.1 = .ok q.2)) = true := by decide +kernel
def kco_151_1 : List (Nat × Instr × Nat) := [(33, .bipush (8), 2), (35, .if_icmp .ge (38), 3), (38, .aload_n 0, 1), (39, .getfield 7, 3), (42, .bipush (32), 2), (44, .iload_n 1, 1), (45, .imul, 1), (46, .bipush (8), 2), (48, .iload_n 2, 1), (49, .imul, 1), (50, .iadd, 1), (51, .iload 5, 2), (53, .iadd, 1), (54, .lload_n 3, 1), (55, .bipush (8), 2), (57, .iload 5, 2), (59, .imul, 1), (60, .lshr, 1), (61, .l2i, 1), (62, .sipush (255), 3)]
theorem kco_151_t1 : kco_151_1.all (fun q => decide (decode prog_13_method_31_code q.1 = .ok q.2)) = true := by decide +kernel
def kco_151_2 : List (Nat × Instr × Nat) := [(65, .iand, 1), (66, .iastore, 1), (67, .iinc 5 (1), 3), (70, .goto (-39), 3), (73, .return_, 1)]
theorem kco_151_t2 : kco_151_2.all (fun q => decide (decode prog_13_method_31_code q.1 = .ok q.2)) = true := by decide +kernel
def kco_151 : List (List (Nat × Instr × Nat)) := [kco_151_0, kco_151_1, kco_151_2]
theorem kco_151_ok : ∀ pc i n, ck_cdAt kco_151 pc = some (i, n) → decode prog_13_method_31_code pc = .ok (i, n) := ck_cd_ok (List.forall_mem_cons.mpr ⟨kco_151_t0, (List.forall_mem_cons.mpr ⟨kco_151_t1, (List.forall_mem_cons.mpr ⟨kco_151_t2, (fun _ h => by cases h)⟩)⟩)⟩)
def kco_152_0 : List (Nat × Instr × Nat) := [(0, .iconst (0), 1), (1, .istore 4, 2), (3, .iload 4, 2), (5, .bipush (8), 2), (7, .if_icmp .ge (27), 3), (10, .aload_n 0, 1), (11, .iload_n 1, 1), (12, .iload 4, 2), (14, .iadd, 1), (15, .lload_n 2, 1), (16, .bipush (8), 2), (18, .iload 4, 2), (20, .imul, 1), (21, .lushr, 1), (22, .l2i, 1), (23, .sipush (255), 3), (26, .iand, 1), (27, .iastore, 1), (28, .iinc 4 (1), 3), (31, .goto (-28), 3)]
theorem kco_152_t0 : kco_152_0.all (fun q => decide (decode prog_1_method_35_code q.1 = .ok q.2)) = true := by decide +kernel
def kco_152_1 : List (Nat × Instr × Nat) := [(34, .return_, 1)]
theorem kco_152_t1 : kco_152_1.all (fun q => decide (decode prog_1_method_35_code q.1 = .ok q.2)) = true := by decide +kernel
def kco_152 : List (List (Nat × Instr × Nat)) := [kco_152_0, kco_152_1]
theorem kco_152_ok : ∀ pc i n, ck_cdAt kco_152 pc = some (i, n) → decode prog_1_method_35_code pc = .ok (i, n) := ck_cd_ok (List.forall_mem_cons.mpr ⟨kco_152_t0, (List.forall_mem_cons.mpr ⟨kco_152_t1, (fun _ h => by cases h)⟩)⟩)
end
section
/-! ===== code, read ===== -/
def kco_law_0 : List (Nat × Instr × Nat) := [(0, .new 8, 3), (3, .dup, 1), (4, .aload_n 0, 1), (5, .iconst (0), 1), (6, .invokestatic 84, 3), (9, .invokespecial 90, 3), (12, .astore_n 1, 1), (13, .new 93, 3), (16, .dup, 1), (17, .aload_n 0, 1), (18, .iconst (0), 1), (19, .invokestatic 84, 3), (22, .invokespecial 95, 3), (25, .astore_n 2, 1), (26, .iconst (1), 1), (27, .newarray .long, 2), (29, .astore_n 3, 1), (30, .iconst (1), 1), (31, .istore 4, 2)]
theorem kco_law_t0 : kco_law_0.all (fun q => decide (decode code q.1 = .ok q.2)) = true := by decide +kernel
def kco_law_1 : List (Nat × Instr × Nat) := [(33, .iload 4, 2), (35, .aload_n 0, 1), (36, .arraylength, 1), (37, .iconst (5), 1), (38, .isub, 1), (39, .if_icmp .gt (1449), 3), (42, .aload_n 0, 1), (43, .iload 4, 2), (45, .iaload, 1), (46, .bipush (31), 2), (48, .iand, 1), (49, .tableswitch (1433) (0) (20) #[99, 191, 258, 318, 378, 426, 482, 538, 606, 706, 786, 854, 922, 977, 990, 1074, 1087, 1143, 1211, 1279, 1354], 99)]
theorem kco_law_t1 : kco_law_1.all (fun q => decide (decode code q.1 = .ok q.2)) = true := by decide +kernel
def kco_law_2 : List (Nat × Instr × Nat) := []
theorem kco_law_t2 : kco_law_2.all (fun q => decide (decode code q.1 = .ok q.2)) = true := by decide +kernel
def kco_law_3 : List (Nat × Instr × Nat) := []
theorem kco_law_t3 : kco_law_3.all (fun q => decide (decode code q.1 = .ok q.2)) = true := by decide +kernel
def kco_law_4 : List (Nat × Instr × Nat) := [(148, .aload_n 1, 1), (149, .aload_n 0, 1), (150, .iload 4, 2), (152, .iconst (1), 1), (153, .iadd, 1), (154, .iaload, 1), (155, .aload_n 0, 1), (156, .iload 4, 2), (158, .iconst (2), 1), (159, .iadd, 1)]
theorem kco_law_t4 : kco_law_4.all (fun q => decide (decode code q.1 = .ok q.2)) = true := by decide +kernel
def kco_law_5 : List (Nat × Instr × Nat) := [(160, .iaload, 1), (161, .aload_n 0, 1), (162, .iload 4, 2), (164, .iconst (3), 1), (165, .iadd, 1), (166, .iaload, 1), (167, .i2l, 1), (168, .bipush (32), 2), (170, .lshl, 1), (171, .aload_n 0, 1), (172, .iload 4, 2), (174, .iconst (4), 1), (175, .iadd, 1), (176, .iaload, 1), (177, .i2l, 1), (178, .ldc2_w 96, 3), (181, .land, 1), (182, .lor, 1), (183, .invokestatic 98, 3), (186, .istore 5, 2), (188, .aload_n 2, 1), (189, .aload_n 0, 1), (190, .iload 4, 2)]
theorem kco_law_t5 : kco_law_5.all (fun q => decide (decode code q.1 = .ok q.2)) = true := by decide +kernel
def kco_law_6 : List (Nat × Instr × Nat) := [(192, .iconst (1), 1), (193, .iadd, 1), (194, .iaload, 1), (195, .aload_n 0, 1), (196, .iload 4, 2), (198, .iconst (2), 1), (199, .iadd, 1), (200, .iaload, 1), (201, .aload_n 0, 1), (202, .iload 4, 2), (204, .iconst (3), 1), (205, .iadd, 1), (206, .iaload, 1), (207, .i2l, 1), (208, .bipush (32), 2), (210, .lshl, 1), (211, .aload_n 0, 1), (212, .iload 4, 2), (214, .iconst (4), 1), (215, .iadd, 1), (216, .iaload, 1), (217, .i2l, 1), (218, .ldc2_w 96, 3), (221, .land, 1), (222, .lor, 1), (223, .invokevirtual 101, 3)]
theorem kco_law_t6 : kco_law_6.all (fun q => decide (decode code q.1 = .ok q.2)) = true := by decide +kernel
def kco_law_7 : List (Nat × Instr × Nat) := [(226, .aload_n 2, 1), (227, .invokevirtual 102, 3), (230, .iload 5, 2), (232, .if_icmp .eq (5), 3), (235, .iconst (0), 1), (236, .ireturn, 1), (237, .goto (1245), 3), (240, .aload_n 1, 1), (241, .aload_n 0, 1), (242, .iload 4, 2), (244, .iconst (1), 1), (245, .iadd, 1), (246, .iaload, 1), (247, .aload_n 0, 1), (248, .iload 4, 2), (250, .iconst (2), 1), (251, .iadd, 1), (252, .iaload, 1), (253, .aload_n 3, 1), (254, .invokestatic 106, 3)]
theorem kco_law_t7 : kco_law_7.all (fun q => decide (decode code q.1 = .ok q.2)) = true := by decide +kernel
def kco_law_8 : List (Nat × Instr × Nat) := [(257, .istore 5, 2), (259, .aload_n 2, 1), (260, .aload_n 0, 1), (261, .iload 4, 2), (263, .iconst (1), 1), (264, .iadd, 1), (265, .iaload, 1), (266, .aload_n 0, 1), (267, .iload 4, 2), (269, .iconst (2), 1), (270, .iadd, 1), (271, .iaload, 1), (272, .invokevirtual 109, 3), (275, .lstore 6, 2), (277, .aload_n 2, 1), (278, .invokevirtual 102, 3), (281, .iload 5, 2), (283, .if_icmp .eq (5), 3), (286, .iconst (0), 1), (287, .ireturn, 1)]
theorem kco_law_t8 : kco_law_8.all (fun q => decide (decode code q.1 = .ok q.2)) = true := by decide +kernel
def kco_law_9 : List (Nat × Instr × Nat) := [(288, .iload 5, 2), (290, .ifCond .ne (14), 3), (293, .aload_n 3, 1), (294, .iconst (0), 1), (295, .laload, 1), (296, .lload 6, 2), (298, .lcmp, 1), (299, .ifCond .eq (5), 3), (302, .iconst (0), 1), (303, .ireturn, 1), (304, .goto (1178), 3), (307, .aload_n 1, 1), (308, .aload_n 0, 1), (309, .iload 4, 2), (311, .iconst (1), 1), (312, .iadd, 1), (313, .iaload, 1), (314, .aload_n 0, 1), (315, .iload 4, 2), (317, .iconst (2), 1), (318, .iadd, 1), (319, .iaload, 1)]
theorem kco_law_t9 : kco_law_9.all (fun q => decide (decode code q.1 = .ok q.2)) = true := by decide +kernel
def kco_law_10 : List (Nat × Instr × Nat) := [(320, .aload_n 0, 1), (321, .iload 4, 2), (323, .iconst (3), 1), (324, .iadd, 1), (325, .iaload, 1), (326, .invokestatic 110, 3), (329, .istore 5, 2), (331, .aload_n 2, 1), (332, .aload_n 0, 1), (333, .iload 4, 2), (335, .iconst (1), 1), (336, .iadd, 1), (337, .iaload, 1), (338, .aload_n 0, 1), (339, .iload 4, 2), (341, .iconst (2), 1), (342, .iadd, 1), (343, .iaload, 1), (344, .aload_n 0, 1), (345, .iload 4, 2), (347, .iconst (3), 1), (348, .iadd, 1), (349, .iaload, 1), (350, .invokevirtual 113, 3)]
theorem kco_law_t10 : kco_law_10.all (fun q => decide (decode code q.1 = .ok q.2)) = true := by decide +kernel
def kco_law_11 : List (Nat × Instr × Nat) := [(353, .aload_n 2, 1), (354, .invokevirtual 102, 3), (357, .iload 5, 2), (359, .if_icmp .eq (5), 3), (362, .iconst (0), 1), (363, .ireturn, 1), (364, .goto (1118), 3), (367, .aload_n 1, 1), (368, .aload_n 0, 1), (369, .iload 4, 2), (371, .iconst (1), 1), (372, .iadd, 1), (373, .iaload, 1), (374, .aload_n 0, 1), (375, .iload 4, 2), (377, .iconst (2), 1), (378, .iadd, 1), (379, .iaload, 1), (380, .aload_n 0, 1), (381, .iload 4, 2), (383, .iconst (3), 1)]
theorem kco_law_t11 : kco_law_11.all (fun q => decide (decode code q.1 = .ok q.2)) = true := by decide +kernel
def kco_law_12 : List (Nat × Instr × Nat) := [(384, .iadd, 1), (385, .iaload, 1), (386, .invokestatic 114, 3), (389, .istore 5, 2), (391, .aload_n 2, 1), (392, .aload_n 0, 1), (393, .iload 4, 2), (395, .iconst (1), 1), (396, .iadd, 1), (397, .iaload, 1), (398, .aload_n 0, 1), (399, .iload 4, 2), (401, .iconst (2), 1), (402, .iadd, 1), (403, .iaload, 1), (404, .aload_n 0, 1), (405, .iload 4, 2), (407, .iconst (3), 1), (408, .iadd, 1), (409, .iaload, 1), (410, .invokevirtual 116, 3), (413, .aload_n 2, 1), (414, .invokevirtual 102, 3)]
theorem kco_law_t12 : kco_law_12.all (fun q => decide (decode code q.1 = .ok q.2)) = true := by decide +kernel
def kco_law_13 : List (Nat × Instr × Nat) := [(417, .iload 5, 2), (419, .if_icmp .eq (5), 3), (422, .iconst (0), 1), (423, .ireturn, 1), (424, .goto (1058), 3), (427, .aload_n 1, 1), (428, .aload_n 0, 1), (429, .iload 4, 2), (431, .iconst (1), 1), (432, .iadd, 1), (433, .iaload, 1), (434, .aload_n 0, 1), (435, .iload 4, 2), (437, .iconst (2), 1), (438, .iadd, 1), (439, .iaload, 1), (440, .invokestatic 117, 3), (443, .istore 5, 2), (445, .aload_n 2, 1), (446, .aload_n 0, 1), (447, .iload 4, 2)]
theorem kco_law_t13 : kco_law_13.all (fun q => decide (decode code q.1 = .ok q.2)) = true := by decide +kernel
def kco_law_14 : List (Nat × Instr × Nat) := [(449, .iconst (1), 1), (450, .iadd, 1), (451, .iaload, 1), (452, .aload_n 0, 1), (453, .iload 4, 2), (455, .iconst (2), 1), (456, .iadd, 1), (457, .iaload, 1), (458, .invokevirtual 120, 3), (461, .aload_n 2, 1), (462, .invokevirtual 102, 3), (465, .iload 5, 2), (467, .if_icmp .eq (5), 3), (470, .iconst (0), 1), (471, .ireturn, 1), (472, .goto (1010), 3), (475, .aload_n 1, 1), (476, .aload_n 0, 1), (477, .iload 4, 2), (479, .iconst (1), 1)]
theorem kco_law_t14 : kco_law_14.all (fun q => decide (decode code q.1 = .ok q.2)) = true := by decide +kernel
def kco_law_15 : List (Nat × Instr × Nat) := [(480, .iadd, 1), (481, .iaload, 1), (482, .aload_n 3, 1), (483, .invokestatic 121, 3), (486, .istore 5, 2), (488, .aload_n 2, 1), (489, .aload_n 0, 1), (490, .iload 4, 2), (492, .iconst (1), 1), (493, .iadd, 1), (494, .iaload, 1), (495, .invokevirtual 124, 3), (498, .istore 6, 2), (500, .aload_n 2, 1), (501, .invokevirtual 102, 3), (504, .iload 5, 2), (506, .if_icmp .eq (5), 3), (509, .iconst (0), 1), (510, .ireturn, 1), (511, .iload 5, 2)]
theorem kco_law_t15 : kco_law_15.all (fun q => decide (decode code q.1 = .ok q.2)) = true := by decide +kernel
def kco_law_16 : List (Nat × Instr × Nat) := [(513, .ifCond .ne (15), 3), (516, .aload_n 3, 1), (517, .iconst (0), 1), (518, .laload, 1), (519, .iload 6, 2), (521, .i2l, 1), (522, .lcmp, 1), (523, .ifCond .eq (5), 3), (526, .iconst (0), 1), (527, .ireturn, 1), (528, .goto (954), 3), (531, .aload_n 1, 1), (532, .aload_n 0, 1), (533, .iload 4, 2), (535, .iconst (1), 1), (536, .iadd, 1), (537, .iaload, 1), (538, .aload_n 3, 1), (539, .invokestatic 125, 3), (542, .istore 5, 2)]
theorem kco_law_t16 : kco_law_16.all (fun q => decide (decode code q.1 = .ok q.2)) = true := by decide +kernel
def kco_law_17 : List (Nat × Instr × Nat) := [(544, .aload_n 2, 1), (545, .aload_n 0, 1), (546, .iload 4, 2), (548, .iconst (1), 1), (549, .iadd, 1), (550, .iaload, 1), (551, .invokevirtual 127, 3), (554, .istore 6, 2), (556, .aload_n 2, 1), (557, .invokevirtual 102, 3), (560, .iload 5, 2), (562, .if_icmp .eq (5), 3), (565, .iconst (0), 1), (566, .ireturn, 1), (567, .iload 5, 2), (569, .ifCond .ne (15), 3), (572, .aload_n 3, 1), (573, .iconst (0), 1), (574, .laload, 1), (575, .iload 6, 2)]
theorem kco_law_t17 : kco_law_17.all (fun q => decide (decode code q.1 = .ok q.2)) = true := by decide +kernel
def kco_law_18 : List (Nat × Instr × Nat) := [(577, .i2l, 1), (578, .lcmp, 1), (579, .ifCond .eq (5), 3), (582, .iconst (0), 1), (583, .ireturn, 1), (584, .goto (898), 3), (587, .aload_n 1, 1), (588, .aload_n 0, 1), (589, .iload 4, 2), (591, .iconst (1), 1), (592, .iadd, 1), (593, .iaload, 1), (594, .aload_n 0, 1), (595, .iload 4, 2), (597, .iconst (2), 1), (598, .iadd, 1), (599, .iaload, 1), (600, .aload_n 3, 1), (601, .invokestatic 128, 3), (604, .istore 5, 2), (606, .aload_n 2, 1), (607, .aload_n 0, 1)]
theorem kco_law_t18 : kco_law_18.all (fun q => decide (decode code q.1 = .ok q.2)) = true := by decide +kernel
def kco_law_19 : List (Nat × Instr × Nat) := [(608, .iload 4, 2), (610, .iconst (1), 1), (611, .iadd, 1), (612, .iaload, 1), (613, .aload_n 0, 1), (614, .iload 4, 2), (616, .iconst (2), 1), (617, .iadd, 1), (618, .iaload, 1), (619, .invokevirtual 130, 3), (622, .istore 6, 2), (624, .aload_n 2, 1), (625, .invokevirtual 102, 3), (628, .iload 5, 2), (630, .if_icmp .eq (5), 3), (633, .iconst (0), 1), (634, .ireturn, 1), (635, .iload 5, 2), (637, .ifCond .ne (15), 3)]
theorem kco_law_t19 : kco_law_19.all (fun q => decide (decode code q.1 = .ok q.2)) = true := by decide +kernel
def kco_law_20 : List (Nat × Instr × Nat) := [(640, .aload_n 3, 1), (641, .iconst (0), 1), (642, .laload, 1), (643, .iload 6, 2), (645, .i2l, 1), (646, .lcmp, 1), (647, .ifCond .eq (5), 3), (650, .iconst (0), 1), (651, .ireturn, 1), (652, .goto (830), 3), (655, .aload_n 1, 1), (656, .aload_n 0, 1), (657, .iload 4, 2), (659, .iconst (1), 1), (660, .iadd, 1), (661, .iaload, 1), (662, .aload_n 0, 1), (663, .iload 4, 2), (665, .iconst (2), 1), (666, .iadd, 1), (667, .iaload, 1), (668, .i2l, 1), (669, .bipush (32), 2), (671, .lshl, 1)]
theorem kco_law_t20 : kco_law_20.all (fun q => decide (decode code q.1 = .ok q.2)) = true := by decide +kernel
def kco_law_21 : List (Nat × Instr × Nat) := [(672, .aload_n 0, 1), (673, .iload 4, 2), (675, .iconst (3), 1), (676, .iadd, 1), (677, .iaload, 1), (678, .i2l, 1), (679, .ldc2_w 96, 3), (682, .land, 1), (683, .lor, 1), (684, .aload_n 3, 1), (685, .invokestatic 131, 3), (688, .istore 5, 2), (690, .aload_n 2, 1), (691, .aload_n 0, 1), (692, .iload 4, 2), (694, .iconst (1), 1), (695, .iadd, 1), (696, .iaload, 1), (697, .aload_n 0, 1), (698, .iload 4, 2), (700, .iconst (2), 1), (701, .iadd, 1), (702, .iaload, 1), (703, .i2l, 1)]
theorem kco_law_t21 : kco_law_21.all (fun q => decide (decode code q.1 = .ok q.2)) = true := by decide +kernel
def kco_law_22 : List (Nat × Instr × Nat) := [(704, .bipush (32), 2), (706, .lshl, 1), (707, .aload_n 0, 1), (708, .iload 4, 2), (710, .iconst (3), 1), (711, .iadd, 1), (712, .iaload, 1), (713, .i2l, 1), (714, .ldc2_w 96, 3), (717, .land, 1), (718, .lor, 1), (719, .invokevirtual 134, 3), (722, .istore 6, 2), (724, .aload_n 2, 1), (725, .invokevirtual 102, 3), (728, .iload 5, 2), (730, .if_icmp .eq (5), 3), (733, .iconst (0), 1), (734, .ireturn, 1), (735, .iload 5, 2)]
theorem kco_law_t22 : kco_law_22.all (fun q => decide (decode code q.1 = .ok q.2)) = true := by decide +kernel
def kco_law_23 : List (Nat × Instr × Nat) := [(737, .ifCond .ne (15), 3), (740, .aload_n 3, 1), (741, .iconst (0), 1), (742, .laload, 1), (743, .iload 6, 2), (745, .i2l, 1), (746, .lcmp, 1), (747, .ifCond .eq (5), 3), (750, .iconst (0), 1), (751, .ireturn, 1), (752, .goto (730), 3), (755, .aload_n 1, 1), (756, .aload_n 0, 1), (757, .iload 4, 2), (759, .iconst (1), 1), (760, .iadd, 1), (761, .iaload, 1), (762, .aload_n 0, 1), (763, .iload 4, 2), (765, .iconst (2), 1), (766, .iadd, 1), (767, .iaload, 1)]
theorem kco_law_t23 : kco_law_23.all (fun q => decide (decode code q.1 = .ok q.2)) = true := by decide +kernel
def kco_law_24 : List (Nat × Instr × Nat) := [(768, .aload_n 0, 1), (769, .iload 4, 2), (771, .iconst (3), 1), (772, .iadd, 1), (773, .iaload, 1), (774, .aload_n 3, 1), (775, .invokestatic 135, 3), (778, .istore 5, 2), (780, .aload_n 2, 1), (781, .aload_n 0, 1), (782, .iload 4, 2), (784, .iconst (1), 1), (785, .iadd, 1), (786, .iaload, 1), (787, .aload_n 0, 1), (788, .iload 4, 2), (790, .iconst (2), 1), (791, .iadd, 1), (792, .iaload, 1), (793, .aload_n 0, 1), (794, .iload 4, 2), (796, .iconst (3), 1), (797, .iadd, 1), (798, .iaload, 1), (799, .invokevirtual 138, 3)]
theorem kco_law_t24 : kco_law_24.all (fun q => decide (decode code q.1 = .ok q.2)) = true := by decide +kernel
def kco_law_25 : List (Nat × Instr × Nat) := [(802, .istore 6, 2), (804, .aload_n 2, 1), (805, .invokevirtual 102, 3), (808, .iload 5, 2), (810, .if_icmp .eq (5), 3), (813, .iconst (0), 1), (814, .ireturn, 1), (815, .iload 5, 2), (817, .ifCond .ne (15), 3), (820, .aload_n 3, 1), (821, .iconst (0), 1), (822, .laload, 1), (823, .iload 6, 2), (825, .i2l, 1), (826, .lcmp, 1), (827, .ifCond .eq (5), 3), (830, .iconst (0), 1), (831, .ireturn, 1)]
theorem kco_law_t25 : kco_law_25.all (fun q => decide (decode code q.1 = .ok q.2)) = true := by decide +kernel
def kco_law_26 : List (Nat × Instr × Nat) := [(832, .goto (650), 3), (835, .aload_n 1, 1), (836, .aload_n 0, 1), (837, .iload 4, 2), (839, .iconst (1), 1), (840, .iadd, 1), (841, .iaload, 1), (842, .aload_n 0, 1), (843, .iload 4, 2), (845, .iconst (2), 1), (846, .iadd, 1), (847, .iaload, 1), (848, .aload_n 3, 1), (849, .invokestatic 139, 3), (852, .istore 5, 2), (854, .aload_n 2, 1), (855, .aload_n 0, 1), (856, .iload 4, 2), (858, .iconst (1), 1), (859, .iadd, 1), (860, .iaload, 1), (861, .aload_n 0, 1), (862, .iload 4, 2)]
theorem kco_law_t26 : kco_law_26.all (fun q => decide (decode code q.1 = .ok q.2)) = true := by decide +kernel
def kco_law_27 : List (Nat × Instr × Nat) := [(864, .iconst (2), 1), (865, .iadd, 1), (866, .iaload, 1), (867, .invokevirtual 141, 3), (870, .istore 6, 2), (872, .aload_n 2, 1), (873, .invokevirtual 102, 3), (876, .iload 5, 2), (878, .if_icmp .eq (5), 3), (881, .iconst (0), 1), (882, .ireturn, 1), (883, .iload 5, 2), (885, .ifCond .ne (15), 3), (888, .aload_n 3, 1), (889, .iconst (0), 1), (890, .laload, 1), (891, .iload 6, 2), (893, .i2l, 1), (894, .lcmp, 1), (895, .ifCond .eq (5), 3)]
theorem kco_law_t27 : kco_law_27.all (fun q => decide (decode code q.1 = .ok q.2)) = true := by decide +kernel
def kco_law_28 : List (Nat × Instr × Nat) := [(898, .iconst (0), 1), (899, .ireturn, 1), (900, .goto (582), 3), (903, .aload_n 1, 1), (904, .aload_n 0, 1), (905, .iload 4, 2), (907, .iconst (1), 1), (908, .iadd, 1), (909, .iaload, 1), (910, .aload_n 0, 1), (911, .iload 4, 2), (913, .iconst (2), 1), (914, .iadd, 1), (915, .iaload, 1), (916, .aload_n 3, 1), (917, .invokestatic 142, 3), (920, .istore 5, 2), (922, .aload_n 2, 1), (923, .aload_n 0, 1), (924, .iload 4, 2), (926, .iconst (1), 1), (927, .iadd, 1)]
theorem kco_law_t28 : kco_law_28.all (fun q => decide (decode code q.1 = .ok q.2)) = true := by decide +kernel
def kco_law_29 : List (Nat × Instr × Nat) := [(928, .iaload, 1), (929, .aload_n 0, 1), (930, .iload 4, 2), (932, .iconst (2), 1), (933, .iadd, 1), (934, .iaload, 1), (935, .invokevirtual 144, 3), (938, .istore 6, 2), (940, .aload_n 2, 1), (941, .invokevirtual 102, 3), (944, .iload 5, 2), (946, .if_icmp .eq (5), 3), (949, .iconst (0), 1), (950, .ireturn, 1), (951, .iload 5, 2), (953, .ifCond .ne (15), 3), (956, .aload_n 3, 1), (957, .iconst (0), 1), (958, .laload, 1), (959, .iload 6, 2)]
theorem kco_law_t29 : kco_law_29.all (fun q => decide (decode code q.1 = .ok q.2)) = true := by decide +kernel
def kco_law_30 : List (Nat × Instr × Nat) := [(961, .i2l, 1), (962, .lcmp, 1), (963, .ifCond .eq (5), 3), (966, .iconst (0), 1), (967, .ireturn, 1), (968, .goto (514), 3), (971, .aload_n 1, 1), (972, .aload_n 0, 1), (973, .iload 4, 2), (975, .iconst (1), 1), (976, .iadd, 1), (977, .iaload, 1), (978, .aload_n 3, 1), (979, .invokestatic 145, 3), (982, .istore 5, 2), (984, .aload_n 2, 1), (985, .aload_n 0, 1), (986, .iload 4, 2), (988, .iconst (1), 1), (989, .iadd, 1), (990, .iaload, 1), (991, .invokevirtual 147, 3)]
theorem kco_law_t30 : kco_law_30.all (fun q => decide (decode code q.1 = .ok q.2)) = true := by decide +kernel
def kco_law_31 : List (Nat × Instr × Nat) := [(994, .lstore 6, 2), (996, .aload_n 2, 1), (997, .invokevirtual 102, 3), (1000, .iload 5, 2), (1002, .if_icmp .eq (5), 3), (1005, .iconst (0), 1), (1006, .ireturn, 1), (1007, .iload 5, 2), (1009, .ifCond .ne (14), 3), (1012, .aload_n 3, 1), (1013, .iconst (0), 1), (1014, .laload, 1), (1015, .lload 6, 2), (1017, .lcmp, 1), (1018, .ifCond .eq (5), 3), (1021, .iconst (0), 1), (1022, .ireturn, 1), (1023, .goto (459), 3)]
theorem kco_law_t31 : kco_law_31.all (fun q => decide (decode code q.1 = .ok q.2)) = true := by decide +kernel
def kco_law_32 : List (Nat × Instr × Nat) := [(1026, .aload_n 1, 1), (1027, .invokevirtual 148, 3), (1030, .aload_n 2, 1), (1031, .invokevirtual 151, 3), (1034, .if_icmp .eq (448), 3), (1037, .iconst (0), 1), (1038, .ireturn, 1), (1039, .aload_n 1, 1), (1040, .aload_n 0, 1), (1041, .iload 4, 2), (1043, .iconst (1), 1), (1044, .iadd, 1), (1045, .iaload, 1), (1046, .aload_n 0, 1), (1047, .iload 4, 2), (1049, .iconst (2), 1), (1050, .iadd, 1), (1051, .iaload, 1), (1052, .ifCond .eq (7), 3), (1055, .iconst (1), 1)]
theorem kco_law_t32 : kco_law_32.all (fun q => decide (decode code q.1 = .ok q.2)) = true := by decide +kernel
def kco_law_33 : List (Nat × Instr × Nat) := [(1056, .goto (4), 3), (1059, .iconst (0), 1), (1060, .aload_n 3, 1), (1061, .invokestatic 152, 3), (1064, .istore 5, 2), (1066, .aload_n 2, 1), (1067, .aload_n 0, 1), (1068, .iload 4, 2), (1070, .iconst (1), 1), (1071, .iadd, 1), (1072, .iaload, 1), (1073, .aload_n 0, 1), (1074, .iload 4, 2), (1076, .iconst (2), 1), (1077, .iadd, 1), (1078, .iaload, 1), (1079, .ifCond .eq (7), 3), (1082, .iconst (1), 1), (1083, .goto (4), 3), (1086, .iconst (0), 1), (1087, .invokevirtual 155, 3)]
theorem kco_law_t33 : kco_law_33.all (fun q => decide (decode code q.1 = .ok q.2)) = true := by decide +kernel
def kco_law_34 : List (Nat × Instr × Nat) := [(1090, .istore 6, 2), (1092, .aload_n 2, 1), (1093, .invokevirtual 102, 3), (1096, .iload 5, 2), (1098, .if_icmp .eq (5), 3), (1101, .iconst (0), 1), (1102, .ireturn, 1), (1103, .iload 5, 2), (1105, .ifCond .ne (15), 3), (1108, .aload_n 3, 1), (1109, .iconst (0), 1), (1110, .laload, 1), (1111, .iload 6, 2), (1113, .i2l, 1), (1114, .lcmp, 1), (1115, .ifCond .eq (5), 3), (1118, .iconst (0), 1), (1119, .ireturn, 1)]
theorem kco_law_t34 : kco_law_34.all (fun q => decide (decode code q.1 = .ok q.2)) = true := by decide +kernel
def kco_law_35 : List (Nat × Instr × Nat) := [(1120, .goto (362), 3), (1123, .aload_n 1, 1), (1124, .invokevirtual 156, 3), (1127, .aload_n 2, 1), (1128, .invokevirtual 159, 3), (1131, .if_icmp .eq (351), 3), (1134, .iconst (0), 1), (1135, .ireturn, 1), (1136, .aload_n 1, 1), (1137, .aload_n 0, 1), (1138, .iload 4, 2), (1140, .iconst (1), 1), (1141, .iadd, 1), (1142, .iaload, 1), (1143, .aload_n 3, 1), (1144, .invokestatic 160, 3), (1147, .istore 5, 2), (1149, .aload_n 2, 1), (1150, .aload_n 0, 1), (1151, .iload 4, 2)]
theorem kco_law_t35 : kco_law_35.all (fun q => decide (decode code q.1 = .ok q.2)) = true := by decide +kernel
def kco_law_36 : List (Nat × Instr × Nat) := [(1153, .iconst (1), 1), (1154, .iadd, 1), (1155, .iaload, 1), (1156, .invokevirtual 162, 3), (1159, .istore 6, 2), (1161, .aload_n 2, 1), (1162, .invokevirtual 102, 3), (1165, .iload 5, 2), (1167, .if_icmp .eq (5), 3), (1170, .iconst (0), 1), (1171, .ireturn, 1), (1172, .iload 5, 2), (1174, .ifCond .ne (15), 3), (1177, .aload_n 3, 1), (1178, .iconst (0), 1), (1179, .laload, 1), (1180, .iload 6, 2), (1182, .i2l, 1), (1183, .lcmp, 1)]
theorem kco_law_t36 : kco_law_36.all (fun q => decide (decode code q.1 = .ok q.2)) = true := by decide +kernel
def kco_law_37 : List (Nat × Instr × Nat) := [(1184, .ifCond .eq (5), 3), (1187, .iconst (0), 1), (1188, .ireturn, 1), (1189, .goto (293), 3), (1192, .aload_n 1, 1), (1193, .aload_n 0, 1), (1194, .iload 4, 2), (1196, .iconst (1), 1), (1197, .iadd, 1), (1198, .iaload, 1), (1199, .aload_n 0, 1), (1200, .iload 4, 2), (1202, .iconst (2), 1), (1203, .iadd, 1), (1204, .iaload, 1), (1205, .aload_n 3, 1), (1206, .invokestatic 163, 3), (1209, .istore 5, 2), (1211, .aload_n 2, 1), (1212, .aload_n 0, 1), (1213, .iload 4, 2), (1215, .iconst (1), 1)]
theorem kco_law_t37 : kco_law_37.all (fun q => decide (decode code q.1 = .ok q.2)) = true := by decide +kernel
def kco_law_38 : List (Nat × Instr × Nat) := [(1216, .iadd, 1), (1217, .iaload, 1), (1218, .aload_n 0, 1), (1219, .iload 4, 2), (1221, .iconst (2), 1), (1222, .iadd, 1), (1223, .iaload, 1), (1224, .invokevirtual 165, 3), (1227, .istore 6, 2), (1229, .aload_n 2, 1), (1230, .invokevirtual 102, 3), (1233, .iload 5, 2), (1235, .if_icmp .eq (5), 3), (1238, .iconst (0), 1), (1239, .ireturn, 1), (1240, .iload 5, 2), (1242, .ifCond .ne (15), 3), (1245, .aload_n 3, 1), (1246, .iconst (0), 1), (1247, .laload, 1)]
theorem kco_law_t38 : kco_law_38.all (fun q => decide (decode code q.1 = .ok q.2)) = true := by decide +kernel
def kco_law_39 : List (Nat × Instr × Nat) := [(1248, .iload 6, 2), (1250, .i2l, 1), (1251, .lcmp, 1), (1252, .ifCond .eq (5), 3), (1255, .iconst (0), 1), (1256, .ireturn, 1), (1257, .goto (225), 3), (1260, .aload_n 1, 1), (1261, .aload_n 0, 1), (1262, .iload 4, 2), (1264, .iconst (1), 1), (1265, .iadd, 1), (1266, .iaload, 1), (1267, .aload_n 0, 1), (1268, .iload 4, 2), (1270, .iconst (2), 1), (1271, .iadd, 1), (1272, .iaload, 1), (1273, .aload_n 3, 1), (1274, .invokestatic 166, 3), (1277, .istore 5, 2), (1279, .aload_n 2, 1)]
theorem kco_law_t39 : kco_law_39.all (fun q => decide (decode code q.1 = .ok q.2)) = true := by decide +kernel
def kco_law_40 : List (Nat × Instr × Nat) := [(1280, .aload_n 0, 1), (1281, .iload 4, 2), (1283, .iconst (1), 1), (1284, .iadd, 1), (1285, .iaload, 1), (1286, .aload_n 0, 1), (1287, .iload 4, 2), (1289, .iconst (2), 1), (1290, .iadd, 1), (1291, .iaload, 1), (1292, .invokevirtual 168, 3), (1295, .istore 6, 2), (1297, .aload_n 2, 1), (1298, .invokevirtual 102, 3), (1301, .iload 5, 2), (1303, .if_icmp .eq (5), 3), (1306, .iconst (0), 1), (1307, .ireturn, 1), (1308, .iload 5, 2), (1310, .ifCond .ne (15), 3)]
theorem kco_law_t40 : kco_law_40.all (fun q => decide (decode code q.1 = .ok q.2)) = true := by decide +kernel
def kco_law_41 : List (Nat × Instr × Nat) := [(1313, .aload_n 3, 1), (1314, .iconst (0), 1), (1315, .laload, 1), (1316, .iload 6, 2), (1318, .i2l, 1), (1319, .lcmp, 1), (1320, .ifCond .eq (5), 3), (1323, .iconst (0), 1), (1324, .ireturn, 1), (1325, .goto (157), 3), (1328, .aload_n 1, 1), (1329, .aload_n 0, 1), (1330, .iload 4, 2), (1332, .iconst (1), 1), (1333, .iadd, 1), (1334, .iaload, 1), (1335, .aload_n 0, 1), (1336, .iload 4, 2), (1338, .iconst (2), 1), (1339, .iadd, 1), (1340, .iaload, 1), (1341, .aload_n 3, 1), (1342, .invokestatic 169, 3)]
theorem kco_law_t41 : kco_law_41.all (fun q => decide (decode code q.1 = .ok q.2)) = true := by decide +kernel
def kco_law_42 : List (Nat × Instr × Nat) := [(1345, .istore 5, 2), (1347, .aload_n 2, 1), (1348, .aload_n 0, 1), (1349, .iload 4, 2), (1351, .iconst (1), 1), (1352, .iadd, 1), (1353, .iaload, 1), (1354, .aload_n 0, 1), (1355, .iload 4, 2), (1357, .iconst (2), 1), (1358, .iadd, 1), (1359, .iaload, 1), (1360, .invokevirtual 171, 3), (1363, .istore 6, 2), (1365, .aload_n 2, 1), (1366, .invokevirtual 102, 3), (1369, .iload 5, 2), (1371, .if_icmp .eq (5), 3), (1374, .iconst (0), 1), (1375, .ireturn, 1)]
theorem kco_law_t42 : kco_law_42.all (fun q => decide (decode code q.1 = .ok q.2)) = true := by decide +kernel
def kco_law_43 : List (Nat × Instr × Nat) := [(1376, .iload 5, 2), (1378, .ifCond .ne (22), 3), (1381, .aload_n 3, 1), (1382, .iconst (0), 1), (1383, .laload, 1), (1384, .iload 6, 2), (1386, .ifCond .eq (7), 3), (1389, .lconst (1), 1), (1390, .goto (4), 3), (1393, .lconst (0), 1), (1394, .lcmp, 1), (1395, .ifCond .eq (5), 3), (1398, .iconst (0), 1), (1399, .ireturn, 1), (1400, .goto (82), 3), (1403, .aload_n 1, 1), (1404, .aload_n 0, 1), (1405, .iload 4, 2), (1407, .iconst (1), 1)]
theorem kco_law_t43 : kco_law_43.all (fun q => decide (decode code q.1 = .ok q.2)) = true := by decide +kernel
def kco_law_44 : List (Nat × Instr × Nat) := [(1408, .iadd, 1), (1409, .iaload, 1), (1410, .aload_n 0, 1), (1411, .iload 4, 2), (1413, .iconst (2), 1), (1414, .iadd, 1), (1415, .iaload, 1), (1416, .aload_n 0, 1), (1417, .iload 4, 2), (1419, .iconst (3), 1), (1420, .iadd, 1), (1421, .iaload, 1), (1422, .aload_n 3, 1), (1423, .invokestatic 172, 3), (1426, .istore 5, 2), (1428, .aload_n 2, 1), (1429, .aload_n 0, 1), (1430, .iload 4, 2), (1432, .iconst (1), 1), (1433, .iadd, 1), (1434, .iaload, 1), (1435, .aload_n 0, 1), (1436, .iload 4, 2), (1438, .iconst (2), 1), (1439, .iadd, 1)]
theorem kco_law_t44 : kco_law_44.all (fun q => decide (decode code q.1 = .ok q.2)) = true := by decide +kernel
def kco_law_45 : List (Nat × Instr × Nat) := [(1440, .iaload, 1), (1441, .aload_n 0, 1), (1442, .iload 4, 2), (1444, .iconst (3), 1), (1445, .iadd, 1), (1446, .iaload, 1), (1447, .invokevirtual 174, 3), (1450, .lstore 6, 2), (1452, .aload_n 2, 1), (1453, .invokevirtual 102, 3), (1456, .iload 5, 2), (1458, .if_icmp .eq (5), 3), (1461, .iconst (0), 1), (1462, .ireturn, 1), (1463, .iload 5, 2), (1465, .ifCond .ne (14), 3), (1468, .aload_n 3, 1), (1469, .iconst (0), 1), (1470, .laload, 1), (1471, .lload 6, 2)]
theorem kco_law_t45 : kco_law_45.all (fun q => decide (decode code q.1 = .ok q.2)) = true := by decide +kernel
def kco_law_46 : List (Nat × Instr × Nat) := [(1473, .lcmp, 1), (1474, .ifCond .eq (5), 3), (1477, .iconst (0), 1), (1478, .ireturn, 1), (1479, .goto (3), 3), (1482, .iinc 4 (5), 3), (1485, .goto (-1452), 3), (1488, .iconst (1), 1), (1489, .ireturn, 1)]
theorem kco_law_t46 : kco_law_46.all (fun q => decide (decode code q.1 = .ok q.2)) = true := by decide +kernel
def kco_law : List (List (Nat × Instr × Nat)) := [kco_law_0, kco_law_1, kco_law_2, kco_law_3, kco_law_4, kco_law_5, kco_law_6, kco_law_7, kco_law_8, kco_law_9, kco_law_10, kco_law_11, kco_law_12, kco_law_13, kco_law_14, kco_law_15, kco_law_16, kco_law_17, kco_law_18, kco_law_19, kco_law_20, kco_law_21, kco_law_22, kco_law_23, kco_law_24, kco_law_25, kco_law_26, kco_law_27, kco_law_28, kco_law_29, kco_law_30, kco_law_31, kco_law_32, kco_law_33, kco_law_34, kco_law_35, kco_law_36, kco_law_37, kco_law_38, kco_law_39, kco_law_40, kco_law_41, kco_law_42, kco_law_43, kco_law_44, kco_law_45, kco_law_46]
theorem kco_law_ok : ∀ pc i n, ck_cdAt kco_law pc = some (i, n) → decode code pc = .ok (i, n) := ck_cd_ok (List.forall_mem_cons.mpr ⟨kco_law_t0, (List.forall_mem_cons.mpr ⟨kco_law_t1, (List.forall_mem_cons.mpr ⟨kco_law_t2, (List.forall_mem_cons.mpr ⟨kco_law_t3, (List.forall_mem_cons.mpr ⟨kco_law_t4, (List.forall_mem_cons.mpr ⟨kco_law_t5, (List.forall_mem_cons.mpr ⟨kco_law_t6, (List.forall_mem_cons.mpr ⟨kco_law_t7, (List.forall_mem_cons.mpr ⟨kco_law_t8, (List.forall_mem_cons.mpr ⟨kco_law_t9, (List.forall_mem_cons.mpr ⟨kco_law_t10, (List.forall_mem_cons.mpr ⟨kco_law_t11, (List.forall_mem_cons.mpr ⟨kco_law_t12, (List.forall_mem_cons.mpr ⟨kco_law_t13, (List.forall_mem_cons.mpr ⟨kco_law_t14, (List.forall_mem_cons.mpr ⟨kco_law_t15, (List.forall_mem_cons.mpr ⟨kco_law_t16, (List.forall_mem_cons.mpr ⟨kco_law_t17, (List.forall_mem_cons.mpr ⟨kco_law_t18, (List.forall_mem_cons.mpr ⟨kco_law_t19, (List.forall_mem_cons.mpr ⟨kco_law_t20, (List.forall_mem_cons.mpr ⟨kco_law_t21, (List.forall_mem_cons.mpr ⟨kco_law_t22, (List.forall_mem_cons.mpr ⟨kco_law_t23, (List.forall_mem_cons.mpr ⟨kco_law_t24, (List.forall_mem_cons.mpr ⟨kco_law_t25, (List.forall_mem_cons.mpr ⟨kco_law_t26, (List.forall_mem_cons.mpr ⟨kco_law_t27, (List.forall_mem_cons.mpr ⟨kco_law_t28, (List.forall_mem_cons.mpr ⟨kco_law_t29, (List.forall_mem_cons.mpr ⟨kco_law_t30, (List.forall_mem_cons.mpr ⟨kco_law_t31, (List.forall_mem_cons.mpr ⟨kco_law_t32, (List.forall_mem_cons.mpr ⟨kco_law_t33, (List.forall_mem_cons.mpr ⟨kco_law_t34, (List.forall_mem_cons.mpr ⟨kco_law_t35, (List.forall_mem_cons.mpr ⟨kco_law_t36, (List.forall_mem_cons.mpr ⟨kco_law_t37, (List.forall_mem_cons.mpr ⟨kco_law_t38, (List.forall_mem_cons.mpr ⟨kco_law_t39, (List.forall_mem_cons.mpr ⟨kco_law_t40, (List.forall_mem_cons.mpr ⟨kco_law_t41, (List.forall_mem_cons.mpr ⟨kco_law_t42, (List.forall_mem_cons.mpr ⟨kco_law_t43, (List.forall_mem_cons.mpr ⟨kco_law_t44, (List.forall_mem_cons.mpr ⟨kco_law_t45, (List.forall_mem_cons.mpr ⟨kco_law_t46, (fun _ h => by cases h)⟩)⟩)⟩)⟩)⟩)⟩)⟩)⟩)⟩)⟩)⟩)⟩)⟩)⟩)⟩)⟩)⟩)⟩)⟩)⟩)⟩)⟩)⟩)⟩)⟩)⟩)⟩)⟩)⟩)⟩)⟩)⟩)⟩)⟩)⟩)⟩)⟩)⟩)⟩)⟩)⟩)⟩)⟩)⟩)⟩)⟩)⟩)
end
section
/-! ===== types, printed ===== -/
def kv_F : ck_V := .inl (-2147483648, 2147483647, none)
def kv_L : ck_V := .inr (.inl (-9223372036854775808, 9223372036854775807))
def kv_i (a b : Int) : ck_V := .inl (a, b, none)
def kv_g (a b : Int) (g : Nat) (c : Int) : ck_V := .inl (a, b, some (g, c))
def kv_j (a b : Int) : ck_V := .inr (.inl (a, b))
def kv_r (k n : Nat) : ck_V := .inr (.inr (k, n))
def kv_tab : List ck_D := [.inr (99, []),
  .inl (0, 32, [(32, kv_F)]),
  .inl (0, 256, [(256, kv_F)]),
  .inl (0, 64, [(64, kv_F)]),
  .inl (0, 8, [(8, kv_F)]),
  .inl (0, 6, [(6, kv_F)]),
  .inl (0, 84, [(84, kv_F)]),
  .inl (0, 32, [(32, (kv_i 0 0))]),
  .inl (7, 4, [(4, (kv_r 2 1))]),
  .inl (7, 4, [(4, (kv_r 2 7))]),
  .inl (7, 6, [(6, (kv_r 2 1))]),
  .inl (1, 10, [(10, kv_L)]),
  .inl (1, 256, [(256, kv_L)]),
  .inl (1, 31, [(31, kv_L)]),
  .inl (1, 9, [(9, kv_L)]),
  .inr (1, [(kv_r 2 1), (kv_r 2 1), (kv_i 0 1)]),
  .inr (3, [(kv_r 2 1), (kv_r 2 2), (kv_i 0 256), (kv_r 2 3), (kv_r 2 4), (kv_r 2 1), (kv_r 2 1), (kv_r 2 1)]),
  .inr (4, [(kv_r 2 1), (kv_r 2 11), (kv_r 2 11), (kv_r 2 11), (kv_r 2 11), (kv_r 2 11), (kv_r 2 11), (kv_r 2 11), (kv_r 2 11), (kv_r 2 11), (kv_r 2 11), (kv_r 2 11), (kv_r 2 11)]),
  .inr (5, [(kv_r 2 1), (kv_r 2 1), (kv_r 2 1), (kv_r 2 1)]),
  .inr (2, [(kv_r 2 16), (kv_r 2 17), (kv_r 2 18), (kv_r 2 1), (kv_r 2 1), (kv_r 2 1), (kv_r 2 1)]),
  .inr (7, [(kv_r 2 1), kv_F, (kv_i 0 1)]),
  .inr (8, [(kv_r 2 10), (kv_r 2 10), (kv_r 2 5), (kv_i 0 6)]),
  .inr (10, [(kv_r 2 6), kv_F]),
  .inl (0, 34, [(34, kv_F)]),
  .inr (6, [kv_F, kv_F, (kv_r 2 3), (kv_r 2 1), (kv_r 2 15), (kv_r 2 1), (kv_r 2 20), (kv_r 2 20), kv_F, (kv_r 2 21), (kv_r 2 23), (kv_i 0 1), (kv_i 0 1), kv_L]),
  .inl (3, 8, [(8, (kv_r 2 15))]),
  .inr (9, [(kv_r 2 15), (kv_r 2 15), (kv_r 2 25), (kv_r 2 4), (kv_i 0 0)]),
  .inl (4, 4, [(4, (kv_r 2 26))]),
  .inl (5, 8, [(8, (kv_r 2 24))]),
  .inl (6, 48, [(48, (kv_r 2 22))]),
  .inl (0, 6000, [(128, (kv_i 0 0)), (6000, kv_F)]),
  .inl (0, 6000, [(6000, kv_F)]),
  .inl (0, 512, [(512, kv_F)]),
  .inl (0, 300, [(300, kv_F)]),
  .inl (0, 72, [(72, kv_F)]),
  .inl (0, 9, [(9, kv_F)]),
  .inl (0, 54, [(54, kv_F)]),
  .inl (0, 48, [(48, kv_F)]),
  .inl (0, 4032, [(4032, kv_F)]),
  .inl (2, 8, [(8, (kv_i 0 1))]),
  .inl (2, 9, [(9, (kv_i 0 1))]),
  .inl (2, 32, [(32, (kv_i 0 1))]),
  .inl (2, 32, [(32, (kv_i 0 0))])]
end
section
/-! ===== contracts ===== -/
def kt_1 : ck_Ct := ([(kv_r 1 0)], [((0, 1), [(kv_r 0 0), (kv_r 0 0), (kv_i 0 0)])], [((0, 1), [(kv_r 2 1), (kv_r 2 1), (kv_g 0 0 102 0)])], .inl none, (1, 12, 2, 64))
theorem kt_1_ok {l : Launch} : ck_Ok l kv_tab 64 cm_1.1 kt_1 := ck_done (E := ce_1) (ms := cm_ms) (cts := []) (nt := [(7, 1, 0), (15, 1, 0)]) (cod := kco_1) (ops := []) (ann := []) (f := 14) (by decide +kernel) ce_ok1 rfl cm_ok (fun _ h => by cases h) ce_glob kco_1_ok
def kc_0 : ck_C := ((0, 3), [(kv_r 0 0), (kv_r 0 0), (kv_i 0 0), (kv_r 0 0), (kv_r 0 0), (kv_r 0 0), (kv_r 0 0), (kv_r 0 0)])
def kc_1 : ck_C := ((0, 3), [(kv_r 2 1), (kv_r 2 2), (kv_g 0 0 102 0), (kv_r 2 3), (kv_r 2 4), (kv_r 2 1), (kv_r 2 1), (kv_r 2 1)])
def kt_2 : ck_Ct := ([(kv_r 1 0)], [kc_0], [kc_1], .inl none, (1, 12, 7, 456))
theorem kt_2_ok {l : Launch} : ck_Ok l kv_tab 64 cm_2.1 kt_2 := ck_done (E := ce_2) (ms := cm_ms) (cts := []) (nt := [(7, 1, 0), (16, 2, 0), (24, 3, 0), (32, 4, 0), (40, 1, 0), (48, 1, 0), (56, 1, 0)]) (cod := kco_2) (ops := []) (ann := []) (f := 34) (by decide +kernel) ce_ok2 rfl cm_ok (fun _ h => by cases h) ce_glob kco_2_ok
def kc_2 : ck_C := ((0, 4), [(kv_r 0 0), (kv_r 0 0), (kv_r 0 0), (kv_r 0 0), (kv_r 0 0), (kv_r 0 0), (kv_r 0 0), (kv_r 0 0), (kv_r 0 0), (kv_r 0 0), (kv_r 0 0), (kv_r 0 0), (kv_r 0 0)])
def kc_3 : ck_C := ((0, 4), [(kv_r 2 1), (kv_r 2 11), (kv_r 2 11), (kv_r 2 11), (kv_r 2 11), (kv_r 2 11), (kv_r 2 11), (kv_r 2 11), (kv_r 2 11), (kv_r 2 11), (kv_r 2 11), (kv_r 2 11), (kv_r 2 11)])
def kt_3 : ck_Ct := ([(kv_r 1 0)], [kc_2], [kc_3], .inl none, (1, 12, 13, 152))
theorem kt_3_ok {l : Launch} : ck_Ok l kv_tab 64 cm_3.1 kt_3 := ck_done (E := ce_3) (ms := cm_ms) (cts := []) (nt := [(7, 1, 0), (15, 11, 0), (23, 11, 0), (31, 11, 0), (39, 11, 0), (47, 11, 0), (55, 11, 0), (63, 11, 0), (71, 11, 0), (79, 11, 0), (87, 11, 0), (95, 11, 0), (103, 11, 0)]) (cod := kco_3) (ops := []) (ann := []) (f := 63) (by decide +kernel) ce_ok3 rfl cm_ok (fun _ h => by cases h) ce_glob kco_3_ok
def kc_4 : ck_C := ((0, 5), [(kv_r 0 0), (kv_r 0 0), (kv_r 0 0), (kv_r 0 0)])
def kc_5 : ck_C := ((0, 5), [(kv_r 2 1), (kv_r 2 1), (kv_r 2 1), (kv_r 2 1)])
def kt_4 : ck_Ct := ([(kv_r 1 0)], [kc_4], [kc_5], .inl none, (1, 12, 4, 128))
theorem kt_4_ok {l : Launch} : ck_Ok l kv_tab 64 cm_4.1 kt_4 := ck_done (E := ce_4) (ms := cm_ms) (cts := []) (nt := [(7, 1, 0), (15, 1, 0), (23, 1, 0), (31, 1, 0)]) (cod := kco_4) (ops := []) (ann := []) (f := 22) (by decide +kernel) ce_ok4 rfl cm_ok (fun _ h => by cases h) ce_glob kco_4_ok
def kc_6 : ck_C := ((0, 2), [(kv_r 0 0), (kv_r 0 0), (kv_r 0 0), (kv_r 0 0), (kv_r 0 0), (kv_r 0 0), (kv_r 0 0)])
def kc_7 : ck_C := ((0, 2), [(kv_r 2 16), (kv_r 2 17), (kv_r 2 18), (kv_r 2 1), (kv_r 2 1), (kv_r 2 1), (kv_r 2 1)])
def kt_5 : ck_Ct := ([(kv_r 1 0)], [kc_6], [kc_7], .inl none, (2, 26, 31, 889))
theorem kt_5_ok {l : Launch} : ck_Ok l kv_tab 64 cm_5.1 kt_5 := ck_done (E := ce_5) (ms := cm_ms) (cts := [(2, kt_2), (3, kt_3), (4, kt_4)]) (nt := [(40, 1, 0), (48, 1, 0), (56, 1, 0), (64, 1, 0)]) (cod := kco_5) (ops := [(12, [(6, 0, 16, 0, [])]), (23, [(6, 0, 17, 0, [])]), (34, [(6, 0, 18, 0, [])]), (69, [(7, 1, 0, 0, [])])]) (ann := []) (f := 37) (by decide +kernel) ce_ok5 rfl cm_ok (List.forall_mem_cons.mpr ⟨⟨_, cm_g2, kt_2_ok⟩, (List.forall_mem_cons.mpr ⟨⟨_, cm_g3, kt_3_ok⟩, (List.forall_mem_cons.mpr ⟨⟨_, cm_g4, kt_4_ok⟩, (fun _ h => by cases h)⟩)⟩)⟩) ce_glob kco_5_ok
def kt_6 : ck_Ct := ([(kv_r 1 0)], [((0, 7), [(kv_r 0 0), (kv_i 0 0), (kv_i 0 0)])], [((0, 7), [(kv_r 2 1), (kv_g 0 0 101 0), (kv_g 0 0 102 0)])], .inl none, (1, 12, 1, 32))
theorem kt_6_ok {l : Launch} : ck_Ok l kv_tab 64 cm_6.1 kt_6 := ck_done (E := ce_6) (ms := cm_ms) (cts := []) (nt := [(7, 1, 0)]) (cod := kco_6) (ops := []) (ann := []) (f := 10) (by decide +kernel) ce_ok6 rfl cm_ok (fun _ h => by cases h) ce_glob kco_6_ok
def kc_8 : ck_C := ((0, 8), [(kv_r 0 0), (kv_r 0 0), (kv_r 0 0), (kv_i 0 0)])
def kc_9 : ck_C := ((0, 8), [(kv_r 2 10), (kv_r 2 10), (kv_r 2 5), (kv_g 0 0 103 0)])
def kt_7 : ck_Ct := ([(kv_r 1 0)], [kc_8], [kc_9], .inl none, (1, 12, 15, 402))
theorem kt_7_ok {l : Launch} : ck_Ok l kv_tab 64 cm_7.1 kt_7 := ck_done (E := ce_7) (ms := cm_ms) (cts := []) (nt := [(9, 10, 1), (21, 10, 1), (31, 5, 0)]) (cod := kco_7) (ops := []) (ann := []) (f := 20) (by decide +kernel) ce_ok7 rfl cm_ok (fun _ h => by cases h) ce_glob kco_7_ok
def kc_10 : ck_C := ((0, 6), [(kv_i 0 0), (kv_i 0 0), (kv_r 0 0), (kv_r 0 0), (kv_r 0 0), (kv_r 0 0), (kv_r 0 0), (kv_r 0 0), (kv_i 0 0), (kv_r 0 0), (kv_r 0 0), (kv_i 0 0), (kv_i 0 0), (kv_j 0 0)])
def kc_11 : ck_C := ((0, 6), [(kv_g 0 0 100 0), (kv_g 0 0 101 0), (kv_r 2 3), (kv_r 2 1), (kv_r 2 15), (kv_r 2 1), (kv_r 2 20), (kv_r 2 20), (kv_g 0 0 108 0), (kv_r 2 21), (kv_r 2 23), (kv_g 0 0 111 0), (kv_g 0 0 112 0), (kv_j 0 0)])
def kt_8 : ck_Ct := ([(kv_r 1 0)], [kc_10], [kc_11], .inl none, (2, 26, 27, 705))
theorem kt_8_ok {l : Launch} : ck_Ok l kv_tab 64 cm_8.1 kt_8 := ck_done (E := ce_8) (ms := cm_ms) (cts := [(1, kt_1), (6, kt_6), (7, kt_7)]) (nt := [(7, 3, 0), (15, 1, 0), (34, 1, 0), (75, 23, 0)]) (cod := kco_8) (ops := [(28, [(6, 0, 15, 0, [])]), (47, [(6, 0, 20, 0, [])]), (58, [(6, 0, 20, 0, [])]), (69, [(6, 0, 21, 0, [])]), (80, [(7, 1, 0, 0, [])])]) (ann := []) (f := 42) (by decide +kernel) ce_ok8 rfl cm_ok (List.forall_mem_cons.mpr ⟨⟨_, cm_g1, kt_1_ok⟩, (List.forall_mem_cons.mpr ⟨⟨_, cm_g6, kt_6_ok⟩, (List.forall_mem_cons.mpr ⟨⟨_, cm_g7, kt_7_ok⟩, (fun _ h => by cases h)⟩)⟩)⟩) ce_glob kco_8_ok
def kc_12 : ck_C := ((0, 9), [(kv_r 0 0), (kv_r 0 0), (kv_r 0 0), (kv_r 0 0), (kv_i 0 0)])
def kc_13 : ck_C := ((0, 9), [(kv_r 2 15), (kv_r 2 15), (kv_r 2 25), (kv_r 2 4), (kv_g 0 0 104 0)])
def kt_9 : ck_Ct := ([(kv_r 1 0)], [kc_12], [kc_13], .inl none, (2, 27, 32, 686))
theorem kt_9_ok {l : Launch} : ck_Ok l kv_tab 64 cm_9.1 kt_9 := ck_done (E := ce_9) (ms := cm_ms) (cts := [(1, kt_1)]) (nt := [(38, 4, 0)]) (cod := kco_9) (ops := [(12, [(6, 0, 15, 0, [])]), (23, [(6, 0, 15, 0, [])]), (63, [(6, 0, 15, 0, [])]), (70, [(0, 3, 25, 0, []), (7, 1, 0, 0, [])])]) (ann := []) (f := 125) (by decide +kernel) ce_ok9 rfl cm_ok (List.forall_mem_cons.mpr ⟨⟨_, cm_g1, kt_1_ok⟩, (fun _ h => by cases h)⟩) ce_glob kco_9_ok
def kt_10 : ck_Ct := ([(kv_r 1 0)], [((0, 10), [(kv_r 0 0), (kv_i 0 0)])], [((0, 10), [(kv_r 2 6), (kv_g 0 0 101 0)])], .inl none, (1, 12, 1, 84))
theorem kt_10_ok {l : Launch} : ck_Ok l kv_tab 64 cm_10.1 kt_10 := ck_done (E := ce_10) (ms := cm_ms) (cts := []) (nt := [(7, 6, 0)]) (cod := kco_10) (ops := []) (ann := []) (f := 10) (by decide +kernel) ce_ok10 rfl cm_ok (fun _ h => by cases h) ce_glob kco_10_ok
def kt_11 : ck_Ct := ([(kv_r 2 16)], [], [], .inl none, (0, 0, 0, 0))
theorem kt_11_ok {l : Launch} : ck_Ok l kv_tab 64 cm_11.1 kt_11 := ck_done (E := ce_2) (ms := cm_ms) (cts := []) (nt := []) (cod := kco_11) (ops := []) (ann := []) (f := 7) (by decide +kernel) ce_ok2 rfl cm_ok (fun _ h => by cases h) ce_glob kco_11_ok
end
