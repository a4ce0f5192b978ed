section
-- ===== PART A: goes FIRST, ahead of the names: the tables' words, and 'selects' of the private methods out of them =====
/-- a private method of a class that the tables say can be made, by its rows of tables_1 -/
def lw_okq (q : MethodName × Nat) : Prop := (q.1.cls ≠ "java/lang/invoke/MethodHandle" ∧ q.1.cls ≠ "java/lang/invoke/VarHandle") ∧ Cond.instantiable q.1.cls q.2 ∈ tables_1 ∧ Cond.privateMethod q.1 ∈ tables_1 ∧ Cond.instanceMethod q.1 ∈ tables_1
theorem lw_p0 : lw_okq (⟨"RatchetDesk", "makeFirstSecrets", "()V"⟩, 11) := ⟨⟨by decide +kernel, by decide +kernel⟩, List.mem_of_getElem? (i := 21) (by decide +kernel), List.mem_of_getElem? (i := 342) (by decide +kernel), List.mem_of_getElem? (i := 343) (by decide +kernel)⟩
theorem lw_p1 : lw_okq (⟨"RatchetDesk", "makeSecret", "(LRatchetDesk$Secret;)V"⟩, 11) := ⟨⟨by decide +kernel, by decide +kernel⟩, List.mem_of_getElem? (i := 21) (by decide +kernel), List.mem_of_getElem? (i := 346) (by decide +kernel), List.mem_of_getElem? (i := 347) (by decide +kernel)⟩
theorem lw_p2 : lw_okq (⟨"RatchetDesk$Hash", "fillWords", "(I)V"⟩, 8) := ⟨⟨by decide +kernel, by decide +kernel⟩, List.mem_of_getElem? (i := 62) (by decide +kernel), List.mem_of_getElem? (i := 375) (by decide +kernel), List.mem_of_getElem? (i := 376) (by decide +kernel)⟩
theorem lw_p3 : lw_okq (⟨"RatchetDesk$Hash", "mixWords", "()V"⟩, 8) := ⟨⟨by decide +kernel, by decide +kernel⟩, List.mem_of_getElem? (i := 62) (by decide +kernel), List.mem_of_getElem? (i := 379) (by decide +kernel), List.mem_of_getElem? (i := 380) (by decide +kernel)⟩
theorem lw_p4 : lw_okq (⟨"java/lang/Throwable", "fillInStackTrace", "(I)Ljava/lang/Throwable;"⟩, 6) := ⟨⟨by decide +kernel, by decide +kernel⟩, List.mem_of_getElem? (i := 479) (by decide +kernel), List.mem_of_getElem? (i := 477) (by decide +kernel), List.mem_of_getElem? (i := 478) (by decide +kernel)⟩
theorem lw_p5 : lw_okq (⟨"RatchetDesk$Curve", "step", "([J[J[J[J)V"⟩, 13) := ⟨⟨by decide +kernel, by decide +kernel⟩, List.mem_of_getElem? (i := 95) (by decide +kernel), List.mem_of_getElem? (i := 543) (by decide +kernel), List.mem_of_getElem? (i := 544) (by decide +kernel)⟩
theorem lw_p6 : lw_okq (⟨"RatchetDesk$Hash", "startPad", "(I)V"⟩, 8) := ⟨⟨by decide +kernel, by decide +kernel⟩, List.mem_of_getElem? (i := 62) (by decide +kernel), List.mem_of_getElem? (i := 588) (by decide +kernel), List.mem_of_getElem? (i := 589) (by decide +kernel)⟩
theorem lw_p7 : lw_okq (⟨"RatchetDesk", "tieTrial", "(II)V"⟩, 11) := ⟨⟨by decide +kernel, by decide +kernel⟩, List.mem_of_getElem? (i := 21) (by decide +kernel), List.mem_of_getElem? (i := 691) (by decide +kernel), List.mem_of_getElem? (i := 692) (by decide +kernel)⟩
theorem lw_p8 : lw_okq (⟨"RatchetDesk", "reckonRootOfBeginner", "(LRatchetDesk$Person;LRatchetDesk$Person;I)V"⟩, 11) := ⟨⟨by decide +kernel, by decide +kernel⟩, List.mem_of_getElem? (i := 21) (by decide +kernel), List.mem_of_getElem? (i := 700) (by decide +kernel), List.mem_of_getElem? (i := 701) (by decide +kernel)⟩
theorem lw_p9 : lw_okq (⟨"RatchetDesk", "placeTrial", "(I)V"⟩, 11) := ⟨⟨by decide +kernel, by decide +kernel⟩, List.mem_of_getElem? (i := 21) (by decide +kernel), List.mem_of_getElem? (i := 732) (by decide +kernel), List.mem_of_getElem? (i := 733) (by decide +kernel)⟩
theorem lw_p10 : lw_okq (⟨"RatchetDesk", "canAnswer", "(ILRatchetDesk$Letter;)Z"⟩, 11) := ⟨⟨by decide +kernel, by decide +kernel⟩, List.mem_of_getElem? (i := 21) (by decide +kernel), List.mem_of_getElem? (i := 804) (by decide +kernel), List.mem_of_getElem? (i := 805) (by decide +kernel)⟩
theorem lw_p11 : lw_okq (⟨"RatchetDesk", "reckonRootOfAnswerer", "(LRatchetDesk$Person;LRatchetDesk$Person;LRatchetDesk$Letter;)V"⟩, 11) := ⟨⟨by decide +kernel, by decide +kernel⟩, List.mem_of_getElem? (i := 21) (by decide +kernel), List.mem_of_getElem? (i := 820) (by decide +kernel), List.mem_of_getElem? (i := 821) (by decide +kernel)⟩
theorem lw_p12 : lw_okq (⟨"RatchetDesk$End", "passedOver", "(LRatchetDesk$Letter;)I"⟩, 14) := ⟨⟨by decide +kernel, by decide +kernel⟩, List.mem_of_getElem? (i := 191) (by decide +kernel), List.mem_of_getElem? (i := 855) (by decide +kernel), List.mem_of_getElem? (i := 856) (by decide +kernel)⟩
theorem lw_p13 : lw_okq (⟨"RatchetDesk$End", "keepUpTo", "(ILRatchetDesk$Tools;)V"⟩, 14) := ⟨⟨by decide +kernel, by decide +kernel⟩, List.mem_of_getElem? (i := 191) (by decide +kernel), List.mem_of_getElem? (i := 863) (by decide +kernel), List.mem_of_getElem? (i := 864) (by decide +kernel)⟩
theorem lw_p14 : lw_okq (⟨"RatchetDeskModel", "four", "(IIIII)V"⟩, 37) := ⟨⟨by decide +kernel, by decide +kernel⟩, List.mem_of_getElem? (i := 958) (by decide +kernel), List.mem_of_getElem? (i := 968) (by decide +kernel), List.mem_of_getElem? (i := 969) (by decide +kernel)⟩
theorem lw_p15 : lw_okq (⟨"RatchetDeskModel", "refused", "(I)Z"⟩, 37) := ⟨⟨by decide +kernel, by decide +kernel⟩, List.mem_of_getElem? (i := 958) (by decide +kernel), List.mem_of_getElem? (i := 1164) (by decide +kernel), List.mem_of_getElem? (i := 1165) (by decide +kernel)⟩
def lw_privs_1 : List (MethodName × Nat) := [(⟨"RatchetDesk", "makeFirstSecrets", "()V"⟩, 11), (⟨"RatchetDesk", "makeSecret", "(LRatchetDesk$Secret;)V"⟩, 11), (⟨"RatchetDesk$Hash", "fillWords", "(I)V"⟩, 8), (⟨"RatchetDesk$Hash", "mixWords", "()V"⟩, 8), (⟨"java/lang/Throwable", "fillInStackTrace", "(I)Ljava/lang/Throwable;"⟩, 6), (⟨"RatchetDesk$Curve", "step", "([J[J[J[J)V"⟩, 13), (⟨"RatchetDesk$Hash", "startPad", "(I)V"⟩, 8), (⟨"RatchetDesk", "tieTrial", "(II)V"⟩, 11), (⟨"RatchetDesk", "reckonRootOfBeginner", "(LRatchetDesk$Person;LRatchetDesk$Person;I)V"⟩, 11), (⟨"RatchetDesk", "placeTrial", "(I)V"⟩, 11), (⟨"RatchetDesk", "canAnswer", "(ILRatchetDesk$Letter;)Z"⟩, 11), (⟨"RatchetDesk", "reckonRootOfAnswerer", "(LRatchetDesk$Person;LRatchetDesk$Person;LRatchetDesk$Letter;)V"⟩, 11), (⟨"RatchetDesk$End", "passedOver", "(LRatchetDesk$Letter;)I"⟩, 14), (⟨"RatchetDesk$End", "keepUpTo", "(ILRatchetDesk$Tools;)V"⟩, 14), (⟨"RatchetDeskModel", "four", "(IIIII)V"⟩, 37), (⟨"RatchetDeskModel", "refused", "(I)Z"⟩, 37)]
theorem lw_r1 : ∀ q ∈ lw_privs_1, lw_okq q := List.forall_mem_cons.mpr ⟨lw_p0, List.forall_mem_cons.mpr ⟨lw_p1, List.forall_mem_cons.mpr ⟨lw_p2, List.forall_mem_cons.mpr ⟨lw_p3, List.forall_mem_cons.mpr ⟨lw_p4, List.forall_mem_cons.mpr ⟨lw_p5, List.forall_mem_cons.mpr ⟨lw_p6, List.forall_mem_cons.mpr ⟨lw_p7, List.forall_mem_cons.mpr ⟨lw_p8, List.forall_mem_cons.mpr ⟨lw_p9, List.forall_mem_cons.mpr ⟨lw_p10, List.forall_mem_cons.mpr ⟨lw_p11, List.forall_mem_cons.mpr ⟨lw_p12, List.forall_mem_cons.mpr ⟨lw_p13, List.forall_mem_cons.mpr ⟨lw_p14, List.forall_mem_cons.mpr ⟨lw_p15, fun _ h => absurd h List.not_mem_nil⟩⟩⟩⟩⟩⟩⟩⟩⟩⟩⟩⟩⟩⟩⟩⟩
theorem lw_p16 : lw_okq (⟨"RatchetDeskModel", "eightAt", "(I)J"⟩, 37) := ⟨⟨by decide +kernel, by decide +kernel⟩, List.mem_of_getElem? (i := 958) (by decide +kernel), List.mem_of_getElem? (i := 1172) (by decide +kernel), List.mem_of_getElem? (i := 1173) (by decide +kernel)⟩
theorem lw_p17 : lw_okq (⟨"RatchetDeskModel", "reckon", "(III)V"⟩, 37) := ⟨⟨by decide +kernel, by decide +kernel⟩, List.mem_of_getElem? (i := 958) (by decide +kernel), List.mem_of_getElem? (i := 1180) (by decide +kernel), List.mem_of_getElem? (i := 1181) (by decide +kernel)⟩
theorem lw_p18 : lw_okq (⟨"RatchetDeskModel", "unpack", "(II)V"⟩, 37) := ⟨⟨by decide +kernel, by decide +kernel⟩, List.mem_of_getElem? (i := 958) (by decide +kernel), List.mem_of_getElem? (i := 1184) (by decide +kernel), List.mem_of_getElem? (i := 1185) (by decide +kernel)⟩
theorem lw_p19 : lw_okq (⟨"RatchetDeskModel", "set", "(IJ)V"⟩, 37) := ⟨⟨by decide +kernel, by decide +kernel⟩, List.mem_of_getElem? (i := 958) (by decide +kernel), List.mem_of_getElem? (i := 1189) (by decide +kernel), List.mem_of_getElem? (i := 1190) (by decide +kernel)⟩
theorem lw_p20 : lw_okq (⟨"RatchetDeskModel", "change", "(II)V"⟩, 37) := ⟨⟨by decide +kernel, by decide +kernel⟩, List.mem_of_getElem? (i := 958) (by decide +kernel), List.mem_of_getElem? (i := 1196) (by decide +kernel), List.mem_of_getElem? (i := 1197) (by decide +kernel)⟩
theorem lw_p21 : lw_okq (⟨"RatchetDeskModel", "plus", "(IIIJ)V"⟩, 37) := ⟨⟨by decide +kernel, by decide +kernel⟩, List.mem_of_getElem? (i := 958) (by decide +kernel), List.mem_of_getElem? (i := 1200) (by decide +kernel), List.mem_of_getElem? (i := 1201) (by decide +kernel)⟩
theorem lw_p22 : lw_okq (⟨"RatchetDeskModel", "carry", "(I)V"⟩, 37) := ⟨⟨by decide +kernel, by decide +kernel⟩, List.mem_of_getElem? (i := 958) (by decide +kernel), List.mem_of_getElem? (i := 1204) (by decide +kernel), List.mem_of_getElem? (i := 1205) (by decide +kernel)⟩
theorem lw_p23 : lw_okq (⟨"RatchetDeskModel", "times", "(III)V"⟩, 37) := ⟨⟨by decide +kernel, by decide +kernel⟩, List.mem_of_getElem? (i := 958) (by decide +kernel), List.mem_of_getElem? (i := 1210) (by decide +kernel), List.mem_of_getElem? (i := 1211) (by decide +kernel)⟩
theorem lw_p24 : lw_okq (⟨"RatchetDeskModel", "invert", "()V"⟩, 37) := ⟨⟨by decide +kernel, by decide +kernel⟩, List.mem_of_getElem? (i := 958) (by decide +kernel), List.mem_of_getElem? (i := 1215) (by decide +kernel), List.mem_of_getElem? (i := 1216) (by decide +kernel)⟩
theorem lw_p25 : lw_okq (⟨"RatchetDeskModel", "pack", "(II)V"⟩, 37) := ⟨⟨by decide +kernel, by decide +kernel⟩, List.mem_of_getElem? (i := 958) (by decide +kernel), List.mem_of_getElem? (i := 1219) (by decide +kernel), List.mem_of_getElem? (i := 1220) (by decide +kernel)⟩
theorem lw_p26 : lw_okq (⟨"RatchetDeskModel", "copyKey", "(II)V"⟩, 37) := ⟨⟨by decide +kernel, by decide +kernel⟩, List.mem_of_getElem? (i := 958) (by decide +kernel), List.mem_of_getElem? (i := 1227) (by decide +kernel), List.mem_of_getElem? (i := 1228) (by decide +kernel)⟩
theorem lw_p27 : lw_okq (⟨"RatchetDeskModel", "clearMessage", "()V"⟩, 37) := ⟨⟨by decide +kernel, by decide +kernel⟩, List.mem_of_getElem? (i := 958) (by decide +kernel), List.mem_of_getElem? (i := 1235) (by decide +kernel), List.mem_of_getElem? (i := 1236) (by decide +kernel)⟩
theorem lw_p28 : lw_okq (⟨"RatchetDeskModel", "sayKey", "(I)V"⟩, 37) := ⟨⟨by decide +kernel, by decide +kernel⟩, List.mem_of_getElem? (i := 958) (by decide +kernel), List.mem_of_getElem? (i := 1239) (by decide +kernel), List.mem_of_getElem? (i := 1240) (by decide +kernel)⟩
theorem lw_p29 : lw_okq (⟨"RatchetDeskModel", "say", "(I)V"⟩, 37) := ⟨⟨by decide +kernel, by decide +kernel⟩, List.mem_of_getElem? (i := 958) (by decide +kernel), List.mem_of_getElem? (i := 1243) (by decide +kernel), List.mem_of_getElem? (i := 1244) (by decide +kernel)⟩
theorem lw_p30 : lw_okq (⟨"RatchetDeskModel", "markMessage", "(II)V"⟩, 37) := ⟨⟨by decide +kernel, by decide +kernel⟩, List.mem_of_getElem? (i := 958) (by decide +kernel), List.mem_of_getElem? (i := 1247) (by decide +kernel), List.mem_of_getElem? (i := 1248) (by decide +kernel)⟩
theorem lw_p31 : lw_okq (⟨"RatchetDeskModel", "pad", "(II)V"⟩, 37) := ⟨⟨by decide +kernel, by decide +kernel⟩, List.mem_of_getElem? (i := 958) (by decide +kernel), List.mem_of_getElem? (i := 1251) (by decide +kernel), List.mem_of_getElem? (i := 1252) (by decide +kernel)⟩
def lw_privs_2 : List (MethodName × Nat) := [(⟨"RatchetDeskModel", "eightAt", "(I)J"⟩, 37), (⟨"RatchetDeskModel", "reckon", "(III)V"⟩, 37), (⟨"RatchetDeskModel", "unpack", "(II)V"⟩, 37), (⟨"RatchetDeskModel", "set", "(IJ)V"⟩, 37), (⟨"RatchetDeskModel", "change", "(II)V"⟩, 37), (⟨"RatchetDeskModel", "plus", "(IIIJ)V"⟩, 37), (⟨"RatchetDeskModel", "carry", "(I)V"⟩, 37), (⟨"RatchetDeskModel", "times", "(III)V"⟩, 37), (⟨"RatchetDeskModel", "invert", "()V"⟩, 37), (⟨"RatchetDeskModel", "pack", "(II)V"⟩, 37), (⟨"RatchetDeskModel", "copyKey", "(II)V"⟩, 37), (⟨"RatchetDeskModel", "clearMessage", "()V"⟩, 37), (⟨"RatchetDeskModel", "sayKey", "(I)V"⟩, 37), (⟨"RatchetDeskModel", "say", "(I)V"⟩, 37), (⟨"RatchetDeskModel", "markMessage", "(II)V"⟩, 37), (⟨"RatchetDeskModel", "pad", "(II)V"⟩, 37)]
theorem lw_r2 : ∀ q ∈ lw_privs_2, lw_okq q := List.forall_mem_cons.mpr ⟨lw_p16, List.forall_mem_cons.mpr ⟨lw_p17, List.forall_mem_cons.mpr ⟨lw_p18, List.forall_mem_cons.mpr ⟨lw_p19, List.forall_mem_cons.mpr ⟨lw_p20, List.forall_mem_cons.mpr ⟨lw_p21, List.forall_mem_cons.mpr ⟨lw_p22, List.forall_mem_cons.mpr ⟨lw_p23, List.forall_mem_cons.mpr ⟨lw_p24, List.forall_mem_cons.mpr ⟨lw_p25, List.forall_mem_cons.mpr ⟨lw_p26, List.forall_mem_cons.mpr ⟨lw_p27, List.forall_mem_cons.mpr ⟨lw_p28, List.forall_mem_cons.mpr ⟨lw_p29, List.forall_mem_cons.mpr ⟨lw_p30, List.forall_mem_cons.mpr ⟨lw_p31, fun _ h => absurd h List.not_mem_nil⟩⟩⟩⟩⟩⟩⟩⟩⟩⟩⟩⟩⟩⟩⟩⟩
theorem lw_p32 : lw_okq (⟨"RatchetDeskModel", "hashRow", "(II)V"⟩, 37) := ⟨⟨by decide +kernel, by decide +kernel⟩, List.mem_of_getElem? (i := 958) (by decide +kernel), List.mem_of_getElem? (i := 1255) (by decide +kernel), List.mem_of_getElem? (i := 1256) (by decide +kernel)⟩
theorem lw_p33 : lw_okq (⟨"RatchetDeskModel", "block", "(I)V"⟩, 37) := ⟨⟨by decide +kernel, by decide +kernel⟩, List.mem_of_getElem? (i := 958) (by decide +kernel), List.mem_of_getElem? (i := 1259) (by decide +kernel), List.mem_of_getElem? (i := 1260) (by decide +kernel)⟩
theorem lw_p34 : lw_okq (⟨"RatchetDeskModel", "clearEnd", "(IIIZ)V"⟩, 37) := ⟨⟨by decide +kernel, by decide +kernel⟩, List.mem_of_getElem? (i := 958) (by decide +kernel), List.mem_of_getElem? (i := 1282) (by decide +kernel), List.mem_of_getElem? (i := 1283) (by decide +kernel)⟩
theorem lw_p35 : lw_okq (⟨"RatchetDeskModel", "known", "(I)I"⟩, 37) := ⟨⟨by decide +kernel, by decide +kernel⟩, List.mem_of_getElem? (i := 958) (by decide +kernel), List.mem_of_getElem? (i := 1289) (by decide +kernel), List.mem_of_getElem? (i := 1290) (by decide +kernel)⟩
theorem lw_p36 : lw_okq (⟨"RatchetDeskModel", "makePublic", "(II)V"⟩, 37) := ⟨⟨by decide +kernel, by decide +kernel⟩, List.mem_of_getElem? (i := 958) (by decide +kernel), List.mem_of_getElem? (i := 1293) (by decide +kernel), List.mem_of_getElem? (i := 1294) (by decide +kernel)⟩
theorem lw_p37 : lw_okq (⟨"RatchetDeskModel", "makeSecret", "(II)V"⟩, 37) := ⟨⟨by decide +kernel, by decide +kernel⟩, List.mem_of_getElem? (i := 958) (by decide +kernel), List.mem_of_getElem? (i := 1297) (by decide +kernel), List.mem_of_getElem? (i := 1298) (by decide +kernel)⟩
theorem lw_p38 : lw_okq (⟨"RatchetDeskModel", "reckonWith", "(III)V"⟩, 37) := ⟨⟨by decide +kernel, by decide +kernel⟩, List.mem_of_getElem? (i := 958) (by decide +kernel), List.mem_of_getElem? (i := 1301) (by decide +kernel), List.mem_of_getElem? (i := 1302) (by decide +kernel)⟩
theorem lw_p39 : lw_okq (⟨"RatchetDeskModel", "firstRoot", "(II)V"⟩, 37) := ⟨⟨by decide +kernel, by decide +kernel⟩, List.mem_of_getElem? (i := 958) (by decide +kernel), List.mem_of_getElem? (i := 1305) (by decide +kernel), List.mem_of_getElem? (i := 1306) (by decide +kernel)⟩
theorem lw_p40 : lw_okq (⟨"RatchetDeskModel", "spread", "(II)V"⟩, 37) := ⟨⟨by decide +kernel, by decide +kernel⟩, List.mem_of_getElem? (i := 958) (by decide +kernel), List.mem_of_getElem? (i := 1309) (by decide +kernel), List.mem_of_getElem? (i := 1310) (by decide +kernel)⟩
theorem lw_p41 : lw_okq (⟨"RatchetDeskModel", "turn", "(I)V"⟩, 37) := ⟨⟨by decide +kernel, by decide +kernel⟩, List.mem_of_getElem? (i := 958) (by decide +kernel), List.mem_of_getElem? (i := 1313) (by decide +kernel), List.mem_of_getElem? (i := 1314) (by decide +kernel)⟩
theorem lw_p42 : lw_okq (⟨"RatchetDeskModel", "turnRoot", "(III)V"⟩, 37) := ⟨⟨by decide +kernel, by decide +kernel⟩, List.mem_of_getElem? (i := 958) (by decide +kernel), List.mem_of_getElem? (i := 1317) (by decide +kernel), List.mem_of_getElem? (i := 1318) (by decide +kernel)⟩
theorem lw_p43 : lw_okq (⟨"RatchetDeskModel", "advance", "(II)V"⟩, 37) := ⟨⟨by decide +kernel, by decide +kernel⟩, List.mem_of_getElem? (i := 958) (by decide +kernel), List.mem_of_getElem? (i := 1325) (by decide +kernel), List.mem_of_getElem? (i := 1326) (by decide +kernel)⟩
theorem lw_p44 : lw_okq (⟨"RatchetDeskModel", "seals", "(II)V"⟩, 37) := ⟨⟨by decide +kernel, by decide +kernel⟩, List.mem_of_getElem? (i := 958) (by decide +kernel), List.mem_of_getElem? (i := 1329) (by decide +kernel), List.mem_of_getElem? (i := 1330) (by decide +kernel)⟩
theorem lw_p45 : lw_okq (⟨"RatchetDeskModel", "sayHeader", "(I)V"⟩, 37) := ⟨⟨by decide +kernel, by decide +kernel⟩, List.mem_of_getElem? (i := 958) (by decide +kernel), List.mem_of_getElem? (i := 1333) (by decide +kernel), List.mem_of_getElem? (i := 1334) (by decide +kernel)⟩
theorem lw_p46 : lw_okq (⟨"RatchetDeskModel", "markLetter", "(III)V"⟩, 37) := ⟨⟨by decide +kernel, by decide +kernel⟩, List.mem_of_getElem? (i := 958) (by decide +kernel), List.mem_of_getElem? (i := 1337) (by decide +kernel), List.mem_of_getElem? (i := 1338) (by decide +kernel)⟩
theorem lw_p47 : lw_okq (⟨"RatchetDeskModel", "knownKept", "(I)I"⟩, 37) := ⟨⟨by decide +kernel, by decide +kernel⟩, List.mem_of_getElem? (i := 958) (by decide +kernel), List.mem_of_getElem? (i := 1341) (by decide +kernel), List.mem_of_getElem? (i := 1342) (by decide +kernel)⟩
def lw_privs_3 : List (MethodName × Nat) := [(⟨"RatchetDeskModel", "hashRow", "(II)V"⟩, 37), (⟨"RatchetDeskModel", "block", "(I)V"⟩, 37), (⟨"RatchetDeskModel", "clearEnd", "(IIIZ)V"⟩, 37), (⟨"RatchetDeskModel", "known", "(I)I"⟩, 37), (⟨"RatchetDeskModel", "makePublic", "(II)V"⟩, 37), (⟨"RatchetDeskModel", "makeSecret", "(II)V"⟩, 37), (⟨"RatchetDeskModel", "reckonWith", "(III)V"⟩, 37), (⟨"RatchetDeskModel", "firstRoot", "(II)V"⟩, 37), (⟨"RatchetDeskModel", "spread", "(II)V"⟩, 37), (⟨"RatchetDeskModel", "turn", "(I)V"⟩, 37), (⟨"RatchetDeskModel", "turnRoot", "(III)V"⟩, 37), (⟨"RatchetDeskModel", "advance", "(II)V"⟩, 37), (⟨"RatchetDeskModel", "seals", "(II)V"⟩, 37), (⟨"RatchetDeskModel", "sayHeader", "(I)V"⟩, 37), (⟨"RatchetDeskModel", "markLetter", "(III)V"⟩, 37), (⟨"RatchetDeskModel", "knownKept", "(I)I"⟩, 37)]
theorem lw_r3 : ∀ q ∈ lw_privs_3, lw_okq q := List.forall_mem_cons.mpr ⟨lw_p32, List.forall_mem_cons.mpr ⟨lw_p33, List.forall_mem_cons.mpr ⟨lw_p34, List.forall_mem_cons.mpr ⟨lw_p35, List.forall_mem_cons.mpr ⟨lw_p36, List.forall_mem_cons.mpr ⟨lw_p37, List.forall_mem_cons.mpr ⟨lw_p38, List.forall_mem_cons.mpr ⟨lw_p39, List.forall_mem_cons.mpr ⟨lw_p40, List.forall_mem_cons.mpr ⟨lw_p41, List.forall_mem_cons.mpr ⟨lw_p42, List.forall_mem_cons.mpr ⟨lw_p43, List.forall_mem_cons.mpr ⟨lw_p44, List.forall_mem_cons.mpr ⟨lw_p45, List.forall_mem_cons.mpr ⟨lw_p46, List.forall_mem_cons.mpr ⟨lw_p47, fun _ h => absurd h List.not_mem_nil⟩⟩⟩⟩⟩⟩⟩⟩⟩⟩⟩⟩⟩⟩⟩⟩
theorem lw_p48 : lw_okq (⟨"RatchetDeskModel", "copyEnd", "(II)V"⟩, 37) := ⟨⟨by decide +kernel, by decide +kernel⟩, List.mem_of_getElem? (i := 958) (by decide +kernel), List.mem_of_getElem? (i := 1353) (by decide +kernel), List.mem_of_getElem? (i := 1354) (by decide +kernel)⟩
theorem lw_p49 : lw_okq (⟨"RatchetDeskModel", "tryLetter", "(I)I"⟩, 37) := ⟨⟨by decide +kernel, by decide +kernel⟩, List.mem_of_getElem? (i := 958) (by decide +kernel), List.mem_of_getElem? (i := 1357) (by decide +kernel), List.mem_of_getElem? (i := 1358) (by decide +kernel)⟩
theorem lw_p50 : lw_okq (⟨"RatchetDeskModel", "keptFor", "(II)I"⟩, 37) := ⟨⟨by decide +kernel, by decide +kernel⟩, List.mem_of_getElem? (i := 958) (by decide +kernel), List.mem_of_getElem? (i := 1361) (by decide +kernel), List.mem_of_getElem? (i := 1362) (by decide +kernel)⟩
theorem lw_p51 : lw_okq (⟨"RatchetDeskModel", "headerKey", "(I)I"⟩, 37) := ⟨⟨by decide +kernel, by decide +kernel⟩, List.mem_of_getElem? (i := 958) (by decide +kernel), List.mem_of_getElem? (i := 1365) (by decide +kernel), List.mem_of_getElem? (i := 1366) (by decide +kernel)⟩
theorem lw_p52 : lw_okq (⟨"RatchetDeskModel", "isSameKey", "(II)Z"⟩, 37) := ⟨⟨by decide +kernel, by decide +kernel⟩, List.mem_of_getElem? (i := 958) (by decide +kernel), List.mem_of_getElem? (i := 1369) (by decide +kernel), List.mem_of_getElem? (i := 1370) (by decide +kernel)⟩
theorem lw_p53 : lw_okq (⟨"RatchetDeskModel", "dropKept", "(II)V"⟩, 37) := ⟨⟨by decide +kernel, by decide +kernel⟩, List.mem_of_getElem? (i := 958) (by decide +kernel), List.mem_of_getElem? (i := 1373) (by decide +kernel), List.mem_of_getElem? (i := 1374) (by decide +kernel)⟩
theorem lw_p54 : lw_okq (⟨"RatchetDeskModel", "findKey", "(IZ)I"⟩, 37) := ⟨⟨by decide +kernel, by decide +kernel⟩, List.mem_of_getElem? (i := 958) (by decide +kernel), List.mem_of_getElem? (i := 1377) (by decide +kernel), List.mem_of_getElem? (i := 1378) (by decide +kernel)⟩
theorem lw_p55 : lw_okq (⟨"RatchetDeskModel", "keepUpTo", "(II)Z"⟩, 37) := ⟨⟨by decide +kernel, by decide +kernel⟩, List.mem_of_getElem? (i := 958) (by decide +kernel), List.mem_of_getElem? (i := 1381) (by decide +kernel), List.mem_of_getElem? (i := 1382) (by decide +kernel)⟩
theorem lw_p56 : lw_okq (⟨"RatchetDeskModel", "isFirst", "(II)Z"⟩, 37) := ⟨⟨by decide +kernel, by decide +kernel⟩, List.mem_of_getElem? (i := 958) (by decide +kernel), List.mem_of_getElem? (i := 1389) (by decide +kernel), List.mem_of_getElem? (i := 1390) (by decide +kernel)⟩
def lw_privs_4 : List (MethodName × Nat) := [(⟨"RatchetDeskModel", "copyEnd", "(II)V"⟩, 37), (⟨"RatchetDeskModel", "tryLetter", "(I)I"⟩, 37), (⟨"RatchetDeskModel", "keptFor", "(II)I"⟩, 37), (⟨"RatchetDeskModel", "headerKey", "(I)I"⟩, 37), (⟨"RatchetDeskModel", "isSameKey", "(II)Z"⟩, 37), (⟨"RatchetDeskModel", "dropKept", "(II)V"⟩, 37), (⟨"RatchetDeskModel", "findKey", "(IZ)I"⟩, 37), (⟨"RatchetDeskModel", "keepUpTo", "(II)Z"⟩, 37), (⟨"RatchetDeskModel", "isFirst", "(II)Z"⟩, 37)]
theorem lw_r4 : ∀ q ∈ lw_privs_4, lw_okq q := List.forall_mem_cons.mpr ⟨lw_p48, List.forall_mem_cons.mpr ⟨lw_p49, List.forall_mem_cons.mpr ⟨lw_p50, List.forall_mem_cons.mpr ⟨lw_p51, List.forall_mem_cons.mpr ⟨lw_p52, List.forall_mem_cons.mpr ⟨lw_p53, List.forall_mem_cons.mpr ⟨lw_p54, List.forall_mem_cons.mpr ⟨lw_p55, List.forall_mem_cons.mpr ⟨lw_p56, fun _ h => absurd h List.not_mem_nil⟩⟩⟩⟩⟩⟩⟩⟩⟩
def lw_privs : List (MethodName × Nat) := lw_privs_1 ++ (lw_privs_2 ++ (lw_privs_3 ++ (lw_privs_4)))
def lw_tbl : List Cond := k2_sels lw_privs ++ tables_1
theorem lw_privs_ok : ∀ q ∈ lw_privs, lw_okq q := by
  show ∀ q ∈ lw_privs_1 ++ (lw_privs_2 ++ (lw_privs_3 ++ (lw_privs_4))), lw_okq q
  exact List.forall_mem_append.mpr ⟨lw_r1, List.forall_mem_append.mpr ⟨lw_r2, List.forall_mem_append.mpr ⟨lw_r3, lw_r4⟩⟩⟩
end
section
/-! ===== the abstract values: an int between two bounds, perhaps a ghost and a constant; a long between two bounds; a reference: null, a named cell, a typed cell, a static array, anything ===== -/
abbrev ck_V : Type := (Int × Int × Option (Nat × Int)) ⊕ ((Int × Int) ⊕ (Nat × Nat))
def ck_iok (lo hi : Int) : Bool := decide (-2147483648 ≤ lo) && decide (hi ≤ 2147483647)
def ck_full : ck_V := .inl (-2147483648, 2147483647, none)
def ck_rng (lo hi : Int) : ck_V := if ck_iok lo hi then .inl (lo, hi, none) else ck_full
def ck_lfull : ck_V := .inr (.inl (-9223372036854775808, 9223372036854775807))
def ck_min (a b : Int) : Int := if a ≤ b then a else b
def ck_max (a b : Int) : Int := if a ≤ b then b else a
theorem ck_min_l (a b : Int) : ck_min a b ≤ a := by unfold ck_min; split <;> omega
theorem ck_min_r (a b : Int) : ck_min a b ≤ b := by unfold ck_min; split <;> omega
theorem ck_max_l (a b : Int) : a ≤ ck_max a b := by unfold ck_max; split <;> omega
theorem ck_max_r (a b : Int) : b ≤ ck_max a b := by unfold ck_max; split <;> omega
theorem ck_le_min {x a b : Int} (h1 : x ≤ a) (h2 : x ≤ b) : x ≤ ck_min a b := by unfold ck_min; split <;> omega
theorem ck_max_le {x a b : Int} (h1 : a ≤ x) (h2 : b ≤ x) : ck_max a b ≤ x := by unfold ck_max; split <;> omega
/-- an int in a range, with what its ghost says -/
def ck_in (ρ : Nat → Int) (q : Int × Int × Option (Nat × Int)) (x : Int32) : Prop := q.1 ≤ x.toInt ∧ x.toInt ≤ q.2.1 ∧ ∀ g c, q.2.2 = some (g, c) → x.toInt = ρ g + c
def ck_i32 (x : Int32) : -2147483648 ≤ x.toInt ∧ x.toInt ≤ 2147483647 := by
  have h1 := Int32.minValue_le_toInt x
  have h2 := Int32.toInt_le x
  exact ⟨by simpa using h1, by have := Int32.toInt_lt x; omega⟩
def ck_isI (ρ : Nat → Int) (v : ck_V) (x : Int32) : Prop := ∃ q, v = .inl q ∧ ck_in ρ q x
theorem ck_isI_full (ρ : Nat → Int) (x : Int32) : ck_isI ρ ck_full x := ⟨_, rfl, (ck_i32 x).1, (ck_i32 x).2, fun g c h => by cases h⟩
theorem ck_isI_rng {ρ : Nat → Int} {lo hi : Int} {x : Int32} (h : ck_iok lo hi = true → lo ≤ x.toInt ∧ x.toInt ≤ hi) : ck_isI ρ (ck_rng lo hi) x := by
  unfold ck_rng
  split
  · rename_i h1
    exact ⟨_, rfl, (h h1).1, (h h1).2, fun g c h => by cases h⟩
  · exact ck_isI_full ρ x
theorem ck_iok_of {lo hi : Int} (h : ck_iok lo hi = true) : -2147483648 ≤ lo ∧ hi ≤ 2147483647 := by
  unfold ck_iok at h
  simpa using h
theorem ck_bmod {n : Int} (h1 : -2147483648 ≤ n) (h2 : n ≤ 2147483647) : n.bmod 4294967296 = n := by
  rw [Int.bmod_def]
  split <;> omega
theorem ck_bm {n : Int} (h1 : -2147483648 ≤ n) (h2 : n ≤ 2147483647) : n.bmod (2 ^ 32) = n := ck_bmod h1 h2
theorem ck_tadd (x y : Int32) (h1 : -2147483648 ≤ x.toInt + y.toInt) (h2 : x.toInt + y.toInt ≤ 2147483647) : (x + y).toInt = x.toInt + y.toInt := by
  rw [Int32.toInt_add]; exact ck_bm h1 h2
theorem ck_tsub (x y : Int32) (h1 : -2147483648 ≤ x.toInt - y.toInt) (h2 : x.toInt - y.toInt ≤ 2147483647) : (x - y).toInt = x.toInt - y.toInt := by
  rw [Int32.toInt_sub]; exact ck_bm h1 h2
theorem ck_tmul (x y : Int32) (h1 : -2147483648 ≤ x.toInt * y.toInt) (h2 : x.toInt * y.toInt ≤ 2147483647) : (x * y).toInt = x.toInt * y.toInt := by
  rw [Int32.toInt_mul]; exact ck_bm h1 h2
/-! adding, taking away: the ghost goes on where the other is a constant -/
abbrev ck_Q : Type := Int × Int × Option (Nat × Int)
def ck_tagA (x y : ck_Q) : Option (Nat × Int) := match x.2.2 with
  | some (g, k) => if y.1 = y.2.1 then some (g, k + y.1) else none
  | none => match y.2.2 with
    | some (g, k) => if x.1 = x.2.1 then some (g, k + x.1) else none
    | none => none
def ck_add (x y : ck_Q) : ck_V := if ck_iok (x.1 + y.1) (x.2.1 + y.2.1) then .inl (x.1 + y.1, x.2.1 + y.2.1, ck_tagA x y) else ck_full
theorem ck_add_ok {ρ : Nat → Int} {p q : ck_Q} {x y : Int32} (hx : ck_in ρ p x) (hy : ck_in ρ q y) : ck_isI ρ (ck_add p q) (x + y) := by
  obtain ⟨a1, a2, a3⟩ := hx
  obtain ⟨b1, b2, b3⟩ := hy
  unfold ck_add
  split
  · rename_i h
    obtain ⟨h1, h2⟩ := ck_iok_of h
    have e := ck_tadd x y (by omega) (by omega)
    refine ⟨_, rfl, by dsimp only; rw [e]; omega, by dsimp only; rw [e]; omega, fun g c hg => ?_⟩
    rw [e]
    have hg : ck_tagA p q = some (g, c) := hg
    unfold ck_tagA at hg
    split at hg
    · rename_i g' k' hp
      split at hg
      · rename_i hc
        cases hg
        have := a3 _ _ hp
        omega
      · cases hg
    · split at hg
      · rename_i g' k' hp
        split at hg
        · rename_i hc
          cases hg
          have := b3 _ _ hp
          omega
        · cases hg
      · cases hg
  · exact ck_isI_full ρ _
def ck_tagS (x y : ck_Q) : Option (Nat × Int) := match x.2.2 with
  | some (g, k) => if y.1 = y.2.1 then some (g, k - y.1) else none
  | none => none
def ck_sub (x y : ck_Q) : ck_V := if ck_iok (x.1 - y.2.1) (x.2.1 - y.1) then .inl (x.1 - y.2.1, x.2.1 - y.1, ck_tagS x y) else ck_full
theorem ck_sub_ok {ρ : Nat → Int} {p q : ck_Q} {x y : Int32} (hx : ck_in ρ p x) (hy : ck_in ρ q y) : ck_isI ρ (ck_sub p q) (x - y) := by
  obtain ⟨a1, a2, a3⟩ := hx
  obtain ⟨b1, b2, b3⟩ := hy
  unfold ck_sub
  split
  · rename_i h
    obtain ⟨h1, h2⟩ := ck_iok_of h
    have e := ck_tsub x y (by omega) (by omega)
    refine ⟨_, rfl, by dsimp only; rw [e]; omega, by dsimp only; rw [e]; omega, fun g c hg => ?_⟩
    rw [e]
    have hg : ck_tagS p q = some (g, c) := hg
    unfold ck_tagS at hg
    split at hg
    · rename_i g' k' hp
      split at hg
      · rename_i hc
        cases hg
        have := a3 _ _ hp
        omega
      · cases hg
    · cases hg
  · exact ck_isI_full ρ _
/-! multiplying: the four corners -/
def ck_mul (x y : ck_Q) : ck_V :=
  let a := x.1 * y.1
  let b := x.1 * y.2.1
  let c := x.2.1 * y.1
  let d := x.2.1 * y.2.1
  ck_rng (ck_min (ck_min a b) (ck_min c d)) (ck_max (ck_max a b) (ck_max c d))
theorem ck_lin {a b u : Int} (v : Int) (h1 : a ≤ u) (h2 : u ≤ b) : ck_min (a * v) (b * v) ≤ u * v ∧ u * v ≤ ck_max (a * v) (b * v) := by
  rcases Int.le_total 0 v with h | h
  · have e1 : a * v ≤ u * v := Int.mul_le_mul_of_nonneg_right h1 h
    have e2 : u * v ≤ b * v := Int.mul_le_mul_of_nonneg_right h2 h
    exact ⟨Int.le_trans (ck_min_l _ _) e1, Int.le_trans e2 (ck_max_r _ _)⟩
  · have e1 : u * v ≤ a * v := Int.mul_le_mul_of_nonpos_right h1 h
    have e2 : b * v ≤ u * v := Int.mul_le_mul_of_nonpos_right h2 h
    exact ⟨Int.le_trans (ck_min_r _ _) e2, Int.le_trans e1 (ck_max_l _ _)⟩
theorem ck_mul_b {a b c d u v : Int} (h1 : a ≤ u) (h2 : u ≤ b) (h3 : c ≤ v) (h4 : v ≤ d) :
    ck_min (ck_min (a * c) (a * d)) (ck_min (b * c) (b * d)) ≤ u * v ∧ u * v ≤ ck_max (ck_max (a * c) (a * d)) (ck_max (b * c) (b * d)) := by
  obtain ⟨l1, l2⟩ := ck_lin v h1 h2
  obtain ⟨m1, m2⟩ := ck_lin a h3 h4
  obtain ⟨n1, n2⟩ := ck_lin b h3 h4
  rw [Int.mul_comm c a, Int.mul_comm d a, Int.mul_comm v a] at m1 m2
  rw [Int.mul_comm c b, Int.mul_comm d b, Int.mul_comm v b] at n1 n2
  constructor
  · refine Int.le_trans ?_ l1
    refine ck_le_min ?_ ?_
    · exact Int.le_trans (ck_min_l _ _) m1
    · exact Int.le_trans (ck_min_r _ _) n1
  · refine Int.le_trans l2 ?_
    refine ck_max_le ?_ ?_
    · exact Int.le_trans m2 (ck_max_l _ _)
    · exact Int.le_trans n2 (ck_max_r _ _)
theorem ck_mul_ok {ρ : Nat → Int} {p q : ck_Q} {x y : Int32} (hx : ck_in ρ p x) (hy : ck_in ρ q y) : ck_isI ρ (ck_mul p q) (x * y) := by
  obtain ⟨a1, a2, -⟩ := hx
  obtain ⟨b1, b2, -⟩ := hy
  refine ck_isI_rng fun h => ?_
  obtain ⟨h1, h2⟩ := ck_iok_of h
  obtain ⟨m1, m2⟩ := ck_mul_b a1 a2 b1 b2
  have e := ck_tmul x y (by omega) (by omega)
  rw [e]
  exact ⟨m1, m2⟩
/-! by a number above 0, of a number not below 0 -/
def ck_div (x y : ck_Q) : Option ck_V := if 0 < y.1 then (if y.1 = y.2.1 ∧ 0 ≤ x.1 then some (ck_rng (x.1 / y.1) (x.2.1 / y.1)) else some ck_full) else none
def ck_rem (x y : ck_Q) : Option ck_V := if 0 < y.1 then (if y.1 = y.2.1 ∧ 0 ≤ x.1 then (if x.1 = x.2.1 then some (ck_rng (x.1 % y.1) (x.1 % y.1)) else if x.2.1 < y.1 then some (ck_rng x.1 x.2.1) else some (ck_rng 0 (y.1 - 1))) else some ck_full) else none
theorem ck_tdiv {x y : Int32} (h1 : 0 ≤ x.toInt) (h2 : 0 < y.toInt) : (x / y).toInt = x.toInt / y.toInt := by
  rw [Int32.toInt_div]
  have hx := ck_i32 x
  have e : x.toInt.tdiv y.toInt = x.toInt / y.toInt := by
    rw [Int.tdiv_eq_ediv_of_nonneg h1]
  rw [e]
  have h3 : 0 ≤ x.toInt / y.toInt := Int.ediv_nonneg h1 (by omega)
  have h4 : x.toInt / y.toInt ≤ x.toInt := Int.ediv_le_self _ h1
  exact ck_bm (by omega) (by omega)
theorem ck_ne0 {ρ : Nat → Int} {q : ck_Q} {y : Int32} (hy : ck_in ρ q y) (h : 0 < q.1) : ¬ y = 0 := by
  intro e
  obtain ⟨b1, -⟩ := hy
  subst e
  have : (0 : Int32).toInt = 0 := rfl
  omega
theorem ck_div_ok {ρ : Nat → Int} {p q : ck_Q} {x y : Int32} {r : ck_V} (hx : ck_in ρ p x) (hy : ck_in ρ q y) (h : ck_div p q = some r) : ¬ y = 0 ∧ ck_isI ρ r (x / y) := by
  unfold ck_div at h
  split at h
  · rename_i h0
    refine ⟨ck_ne0 hy h0, ?_⟩
    obtain ⟨a1, a2, -⟩ := hx
    obtain ⟨b1, b2, -⟩ := hy
    split at h
    · rename_i h1
      cases h
      refine ck_isI_rng fun _ => ?_
      have hy1 : y.toInt = q.1 := by omega
      rw [ck_tdiv (by omega) (by omega), hy1]
      exact ⟨Int.ediv_le_ediv h0 a1, Int.ediv_le_ediv h0 a2⟩
    · cases h
      exact ck_isI_full ρ _
  · cases h
theorem ck_trem {x y : Int32} (h1 : 0 ≤ x.toInt) (h2 : 0 < y.toInt) : (x - x / y * y).toInt = x.toInt % y.toInt := by
  have hx := ck_i32 x
  have e1 := ck_tdiv h1 h2
  have h3 : 0 ≤ x.toInt / y.toInt := Int.ediv_nonneg h1 (by omega)
  have h5 : x.toInt / y.toInt * y.toInt ≤ x.toInt := Int.ediv_mul_le _ (by omega)
  have h6 : 0 ≤ x.toInt / y.toInt * y.toInt := Int.mul_nonneg h3 (by omega)
  have e2 : (x / y * y).toInt = x.toInt / y.toInt * y.toInt := by
    rw [ck_tmul _ _ (by rw [e1]; omega) (by rw [e1]; omega), e1]
  rw [ck_tsub _ _ (by rw [e2]; omega) (by rw [e2]; omega), e2, Int.emod_def, Int.mul_comm]
theorem ck_rem_ok {ρ : Nat → Int} {p q : ck_Q} {x y : Int32} {r : ck_V} (hx : ck_in ρ p x) (hy : ck_in ρ q y) (h : ck_rem p q = some r) : ¬ y = 0 ∧ ck_isI ρ r (x - x / y * y) := by
  unfold ck_rem at h
  split at h
  · rename_i h0
    refine ⟨ck_ne0 hy h0, ?_⟩
    obtain ⟨a1, a2, -⟩ := hx
    obtain ⟨b1, b2, -⟩ := hy
    split at h
    · rename_i h1
      have hy1 : y.toInt = q.1 := by omega
      have e := ck_trem (x := x) (y := y) (by omega) (by omega)
      rw [hy1] at e
      have g1 := Int.emod_nonneg x.toInt (show q.1 ≠ 0 by omega)
      have g2 := Int.emod_lt_of_pos x.toInt h0
      split at h
      · rename_i hh
        cases h
        refine ck_isI_rng fun _ => ?_
        have : x.toInt = p.1 := by omega
        rw [e, this]
        exact ⟨Int.le_refl _, Int.le_refl _⟩
      · split at h
        · cases h
          refine ck_isI_rng fun _ => ?_
          have : x.toInt % q.1 = x.toInt := Int.emod_eq_of_lt (by omega) (by omega)
          rw [e, this]
          exact ⟨a1, a2⟩
        · cases h
          refine ck_isI_rng fun _ => ?_
          rw [e]
          omega
    · cases h
      exact ck_isI_full ρ _
  · cases h
end
section
/-! ===== bits: and, or, xor, shifts ===== -/
theorem ck_nat {x : Int32} (h : 0 ≤ x.toInt) : ((x.toBitVec.toNat : Nat) : Int) = x.toInt := by
  have e : x.toInt = x.toBitVec.toInt := rfl
  have c := BitVec.toInt_eq_toNat_cond x.toBitVec
  have hl := x.toBitVec.isLt
  rw [e] at h ⊢
  split at c <;> omega
theorem ck_ofnat {x : Int32} {n : Nat} (h : x.toBitVec.toNat = n) (hn : n < 2147483648) : x.toInt = (n : Int) := by
  have e : x.toInt = x.toBitVec.toInt := rfl
  rw [e, BitVec.toInt_eq_toNat_cond, if_pos (by omega), h]
def ck_and (x y : ck_Q) : ck_V :=
  if x.1 = x.2.1 ∧ y.1 = y.2.1 ∧ 0 ≤ x.1 ∧ 0 ≤ y.1 then ck_rng (x.1.toNat &&& y.1.toNat : Nat) (x.1.toNat &&& y.1.toNat : Nat)
  else if 0 ≤ x.1 ∧ 0 ≤ y.1 then ck_rng 0 (ck_min x.2.1 y.2.1)
  else if 0 ≤ y.1 then ck_rng 0 y.2.1 else if 0 ≤ x.1 then ck_rng 0 x.2.1 else ck_full
theorem ck_and_nat (x y : Int32) : (x &&& y).toBitVec.toNat = x.toBitVec.toNat &&& y.toBitVec.toNat := by
  rw [Int32.toBitVec_and, BitVec.toNat_and]
theorem ck_and_ok {ρ : Nat → Int} {p q : ck_Q} {x y : Int32} (hx : ck_in ρ p x) (hy : ck_in ρ q y) : ck_isI ρ (ck_and p q) (x &&& y) := by
  obtain ⟨a1, a2, -⟩ := hx
  obtain ⟨b1, b2, -⟩ := hy
  have e := ck_and_nat x y
  have hl1 : x.toBitVec.toNat &&& y.toBitVec.toNat ≤ x.toBitVec.toNat := Nat.and_le_left
  have hl2 : x.toBitVec.toNat &&& y.toBitVec.toNat ≤ y.toBitVec.toNat := Nat.and_le_right
  have hx3 := ck_i32 x
  have hy3 := ck_i32 y
  unfold ck_and
  split
  · rename_i h
    refine ck_isI_rng fun _ => ?_
    have ex := ck_nat (x := x) (by omega)
    have ey := ck_nat (x := y) (by omega)
    have h1 : p.1.toNat = x.toBitVec.toNat := by omega
    have h2 : q.1.toNat = y.toBitVec.toNat := by omega
    rw [h1, h2, ck_ofnat e (by omega)]
    exact ⟨Int.le_refl _, Int.le_refl _⟩
  · split
    · rename_i h
      refine ck_isI_rng fun _ => ?_
      have ex := ck_nat (x := x) (by omega)
      have ey := ck_nat (x := y) (by omega)
      rw [ck_ofnat e (by omega)]
      exact ⟨by omega, ck_le_min (by omega) (by omega)⟩
    · split
      · refine ck_isI_rng fun _ => ?_
        have ey := ck_nat (x := y) (by omega)
        rw [ck_ofnat e (by omega)]
        omega
      · split
        · refine ck_isI_rng fun _ => ?_
          have ex := ck_nat (x := x) (by omega)
          rw [ck_ofnat e (by omega)]
          omega
        · exact ck_isI_full ρ _
/-! or, xor of two that are not below 0: below the next power of two of both -/
def ck_p2 (n : Int) : Option Nat := if n < 256 then some 8 else if n < 65536 then some 16 else if n < 16777216 then some 24 else if n < 2147483648 then some 31 else none
def ck_orx (x y : ck_Q) : ck_V := if 0 ≤ x.1 ∧ 0 ≤ y.1 then (match ck_p2 (ck_max x.2.1 y.2.1) with
  | some k => ck_rng 0 ((2 ^ k - 1 : Nat) : Int)
  | none => ck_full) else ck_full
theorem ck_p2_ok {n : Int} {k : Nat} (h : ck_p2 n = some k) : n < ((2 ^ k : Nat) : Int) ∧ k ≤ 31 := by
  unfold ck_p2 at h
  split at h
  · cases h; exact ⟨by simpa using by assumption, by omega⟩
  · split at h
    · cases h; exact ⟨by simpa using by assumption, by omega⟩
    · split at h
      · cases h; exact ⟨by simpa using by assumption, by omega⟩
      · split at h
        · cases h; exact ⟨by simpa using by assumption, by omega⟩
        · cases h
theorem ck_orx_ok {ρ : Nat → Int} {p q : ck_Q} {x y z : Int32} (hx : ck_in ρ p x) (hy : ck_in ρ q y) (hz : ∀ k : Nat, x.toBitVec.toNat < 2 ^ k → y.toBitVec.toNat < 2 ^ k → z.toBitVec.toNat < 2 ^ k) : ck_isI ρ (ck_orx p q) z := by
  obtain ⟨a1, a2, -⟩ := hx
  obtain ⟨b1, b2, -⟩ := hy
  unfold ck_orx
  split
  · rename_i h
    split
    · rename_i k hk
      obtain ⟨h1, h2⟩ := ck_p2_ok hk
      refine ck_isI_rng fun _ => ?_
      have ex := ck_nat (x := x) (by omega)
      have ey := ck_nat (x := y) (by omega)
      have m1 := ck_max_l p.2.1 q.2.1
      have m2 := ck_max_r p.2.1 q.2.1
      have hzk := hz k (by omega) (by omega)
      have hp : 2 ^ k ≤ 2 ^ 31 := Nat.pow_le_pow_right (by omega) h2
      rw [ck_ofnat (x := z) rfl (by omega)]
      omega
    · exact ck_isI_full ρ _
  · exact ck_isI_full ρ _
theorem ck_or_ok {ρ : Nat → Int} {p q : ck_Q} {x y : Int32} (hx : ck_in ρ p x) (hy : ck_in ρ q y) : ck_isI ρ (ck_orx p q) (x ||| y) :=
  ck_orx_ok hx hy fun k h1 h2 => by rw [Int32.toBitVec_or, BitVec.toNat_or]; exact Nat.or_lt_two_pow h1 h2
theorem ck_xor_ok {ρ : Nat → Int} {p q : ck_Q} {x y : Int32} (hx : ck_in ρ p x) (hy : ck_in ρ q y) : ck_isI ρ (ck_orx p q) (x ^^^ y) :=
  ck_orx_ok hx hy fun k h1 h2 => by rw [Int32.toBitVec_xor, BitVec.toNat_xor]; exact Nat.xor_lt_two_pow h1 h2
/-! shifts -/
theorem ck_sl : ∀ n, n < 32 → ((nI n &&& 31).toBitVec.smod 32).toNat = n := by decide +kernel
theorem ck_su : ∀ n, n < 32 → (((nI n).toUInt32 &&& Int32.toUInt32 31).toBitVec % 32).toNat = n := by decide +kernel
theorem ck_nI_of {x : Int32} {n : Nat} (h : x.toInt = (n : Int)) : x = nI n := by
  have hx := ck_i32 x
  apply Int32.toInt_inj.mp
  rw [h, nI_toInt (by omega)]
def ck_sh (y : ck_Q) : Option Nat := if y.1 = y.2.1 ∧ 0 ≤ y.1 ∧ y.1 < 32 then some y.1.toNat else none
theorem ck_sh_ok {ρ : Nat → Int} {q : ck_Q} {y : Int32} {n : Nat} (hy : ck_in ρ q y) (h : ck_sh q = some n) : n < 32 ∧ y = nI n := by
  obtain ⟨b1, b2, -⟩ := hy
  unfold ck_sh at h
  split at h
  · cases h
    exact ⟨by omega, ck_nI_of (by omega)⟩
  · cases h
def ck_shl (x y : ck_Q) : ck_V := match ck_sh y with
  | some n => if 0 ≤ x.1 then ck_rng (x.1 * ((2 ^ n : Nat) : Int)) (x.2.1 * ((2 ^ n : Nat) : Int)) else ck_full
  | none => ck_full
theorem ck_shl_ok {ρ : Nat → Int} {p q : ck_Q} {x y : Int32} (hx : ck_in ρ p x) (hy : ck_in ρ q y) : ck_isI ρ (ck_shl p q) (x <<< (y &&& 31)) := by
  unfold ck_shl
  split
  · rename_i n hn
    obtain ⟨h1, rfl⟩ := ck_sh_ok hy hn
    obtain ⟨a1, a2, -⟩ := hx
    split
    · refine ck_isI_rng fun h => ?_
      obtain ⟨h3, h4⟩ := ck_iok_of h
      have ex := ck_nat (x := x) (by omega)
      have e := pk_shl x (nI n &&& 31) n (ck_sl n h1)
      have m1 : p.1 * ((2 ^ n : Nat) : Int) ≤ x.toInt * ((2 ^ n : Nat) : Int) := Int.mul_le_mul_of_nonneg_right a1 (Int.natCast_nonneg _)
      have m2 : x.toInt * ((2 ^ n : Nat) : Int) ≤ p.2.1 * ((2 ^ n : Nat) : Int) := Int.mul_le_mul_of_nonneg_right a2 (Int.natCast_nonneg _)
      rw [← ex] at m1 m2
      have m3 : ((x.toBitVec.toNat * 2 ^ n : Nat) : Int) = (x.toBitVec.toNat : Int) * ((2 ^ n : Nat) : Int) := Int.natCast_mul _ _
      rw [← m3] at m1 m2
      rw [Nat.mod_eq_of_lt (by omega)] at e
      rw [ck_ofnat e (by omega)]
      exact ⟨m1, m2⟩
    · exact ck_isI_full ρ _
  · exact ck_isI_full ρ _
def ck_shr (x y : ck_Q) : ck_V := match ck_sh y with
  | some n => ck_rng (x.1 / ((2 ^ n : Nat) : Int)) (x.2.1 / ((2 ^ n : Nat) : Int))
  | none => if 0 ≤ x.1 then ck_rng 0 x.2.1 else ck_full
theorem ck_shr_ok {ρ : Nat → Int} {p q : ck_Q} {x y : Int32} (hx : ck_in ρ p x) (hy : ck_in ρ q y) : ck_isI ρ (ck_shr p q) (x >>> (y &&& 31)) := by
  unfold ck_shr
  obtain ⟨a1, a2, -⟩ := id hx
  split
  · rename_i n hn
    obtain ⟨h1, rfl⟩ := ck_sh_ok hy hn
    refine ck_isI_rng fun h => ?_
    rw [pk_shr x (nI n &&& 31) n (ck_sl n h1), Int.shiftRight_eq_div_pow]
    have hp : (0 : Int) < ((2 ^ n : Nat) : Int) := by have := Nat.two_pow_pos n; omega
    exact ⟨Int.ediv_le_ediv hp a1, Int.ediv_le_ediv hp a2⟩
  · split
    · refine ck_isI_rng fun h => ?_
      rw [pk_shr x (y &&& 31) _ rfl, Int.shiftRight_eq_div_pow]
      have h0 : 0 ≤ x.toInt := by omega
      have := Int.ediv_nonneg h0 (show (0 : Int) ≤ ((2 ^ ((y &&& 31).toBitVec.smod 32).toNat : Nat) : Int) from Int.natCast_nonneg _)
      have := Int.ediv_le_self ((2 ^ ((y &&& 31).toBitVec.smod 32).toNat : Nat) : Int) h0
      omega
    · exact ck_isI_full ρ _
def ck_ushr (x y : ck_Q) : ck_V := match ck_sh y with
  | some n => if 0 ≤ x.1 then ck_rng (x.1 / ((2 ^ n : Nat) : Int)) (x.2.1 / ((2 ^ n : Nat) : Int)) else if 0 < n then ck_rng 0 ((2 ^ (32 - n) : Nat) : Int) else ck_full
  | none => ck_full
theorem ck_ushr_ok {ρ : Nat → Int} {p q : ck_Q} {x y : Int32} (hx : ck_in ρ p x) (hy : ck_in ρ q y) : ck_isI ρ (ck_ushr p q) ((x.toUInt32 >>> (y.toUInt32 &&& Int32.toUInt32 31)).toInt32) := by
  unfold ck_ushr
  obtain ⟨a1, a2, -⟩ := id hx
  split
  · rename_i n hn
    obtain ⟨h1, rfl⟩ := ck_sh_ok hy hn
    have e := pk_ushr x (nI n) n (ck_su n h1)
    have hl := x.toBitVec.isLt
    have hp : (0 : Int) < ((2 ^ n : Nat) : Int) := by have := Nat.two_pow_pos n; omega
    split
    · refine ck_isI_rng fun h => ?_
      have ex := ck_nat (x := x) (by omega)
      have hx3 := ck_i32 x
      have hd : x.toBitVec.toNat / 2 ^ n ≤ x.toBitVec.toNat := Nat.div_le_self _ _
      rw [ck_ofnat e (by omega), Int.natCast_ediv, ex]
      exact ⟨Int.ediv_le_ediv hp a1, Int.ediv_le_ediv hp a2⟩
    · split
      · rename_i hn0
        refine ck_isI_rng fun h => ?_
        have hq : x.toBitVec.toNat / 2 ^ n < 2 ^ (32 - n) := by
          rw [Nat.div_lt_iff_lt_mul (Nat.two_pow_pos n), ← Nat.pow_add, show 32 - n + n = 32 by omega]
          exact hl
        have h31 : 2 ^ (32 - n) ≤ 2 ^ 31 := Nat.pow_le_pow_right (by omega) (by omega)
        rw [ck_ofnat e (by omega)]
        omega
      · exact ck_isI_full ρ _
  · exact ck_isI_full ρ _
/-! comparing: what the branch tells of both -/
def ck_ref (k : ClassFile.Cond) (x y : Int × Int) : Option ((Int × Int) × (Int × Int)) :=
  let r := match k with
    | .eq => ((ck_max x.1 y.1, ck_min x.2 y.2), (ck_max x.1 y.1, ck_min x.2 y.2))
    | .ne => if y.1 = y.2 ∧ x.1 = y.1 then ((x.1 + 1, x.2), y) else if y.1 = y.2 ∧ x.2 = y.1 then ((x.1, x.2 - 1), y) else (x, y)
    | .lt => ((x.1, ck_min x.2 (y.2 - 1)), (ck_max y.1 (x.1 + 1), y.2))
    | .ge => ((ck_max x.1 y.1, x.2), (y.1, ck_min y.2 x.2))
    | .gt => ((ck_max x.1 (y.1 + 1), x.2), (y.1, ck_min y.2 (x.2 - 1)))
    | .le => ((x.1, ck_min x.2 y.2), (ck_max y.1 x.1, y.2))
  if r.1.1 ≤ r.1.2 ∧ r.2.1 ≤ r.2.2 then some r else none
def ck_hold (k : ClassFile.Cond) (u v : Int) : Prop := match k with
  | .eq => u = v | .ne => u ≠ v | .lt => u < v | .ge => v ≤ u | .gt => v < u | .le => u ≤ v
theorem ck_ref_ok {k : ClassFile.Cond} {x y : Int × Int} {u v : Int} (h : ck_hold k u v) (a1 : x.1 ≤ u) (a2 : u ≤ x.2) (b1 : y.1 ≤ v) (b2 : v ≤ y.2) :
    ∃ r, ck_ref k x y = some r ∧ r.1.1 ≤ u ∧ u ≤ r.1.2 ∧ r.2.1 ≤ v ∧ v ≤ r.2.2 := by
  have key : ∀ r : (Int × Int) × (Int × Int), (r.1.1 ≤ u ∧ u ≤ r.1.2 ∧ r.2.1 ≤ v ∧ v ≤ r.2.2) → ∃ r', (if r.1.1 ≤ r.1.2 ∧ r.2.1 ≤ r.2.2 then some r else none) = some r' ∧ r'.1.1 ≤ u ∧ u ≤ r'.1.2 ∧ r'.2.1 ≤ v ∧ v ≤ r'.2.2 := by
    intro r hr
    refine ⟨r, if_pos ⟨by omega, by omega⟩, hr⟩
  unfold ck_ref
  refine key _ ?_
  cases k <;> simp only [ck_hold] at h <;> dsimp only
  · exact ⟨ck_max_le (by omega) (by omega), ck_le_min (by omega) (by omega), ck_max_le (by omega) (by omega), ck_le_min (by omega) (by omega)⟩
  · split
    · exact ⟨by dsimp only; omega, a2, b1, b2⟩
    · split
      · exact ⟨a1, by dsimp only; omega, b1, b2⟩
      · exact ⟨a1, a2, b1, b2⟩
  · exact ⟨a1, ck_le_min (by omega) (by omega), ck_max_le (by omega) (by omega), b2⟩
  · exact ⟨ck_max_le (by omega) (by omega), a2, b1, ck_le_min (by omega) (by omega)⟩
  · exact ⟨ck_max_le (by omega) (by omega), a2, b1, ck_le_min (by omega) (by omega)⟩
  · exact ⟨a1, ck_le_min (by omega) (by omega), ck_max_le (by omega) (by omega), b2⟩
def ck_neg (k : ClassFile.Cond) : ClassFile.Cond := match k with
  | .eq => .ne | .ne => .eq | .lt => .ge | .ge => .lt | .gt => .le | .le => .gt
theorem ck_neg_ok {k : ClassFile.Cond} {u v : Int} (h : ¬ ck_hold k u v) : ck_hold (ck_neg k) u v := by
  cases k <;> simp only [ck_hold, ck_neg] at h ⊢ <;> omega
end
section
/-! ===== names, printed: classes, fields, their types; the words of the tables that say so ===== -/
theorem ck_mem_r {big ws : List Cond} (ps : List Nat) (hp : ws = ps.filterMap (fun i => big[i]?)) : ∀ w ∈ ws, w ∈ big := by
  intro w hw
  rw [hp] at hw
  obtain ⟨i, -, hi⟩ := List.mem_filterMap.mp hw
  exact List.mem_of_getElem? hi
/-- the words that go over to whoever is called -/
def ck_mv : Cond → Bool
  | .methodLinkNest .. => true
  | .arrayClass _ => true
  | .arrayOver (.object _) => true
  | .arrayOver (.array _) => true
  | w => w.onTables && (w.keeps || w.keepsFace)
def ck_tb : List Cond := lw_tbl.filter ck_mv
theorem ck_tab {w : Cond} (h : w ∈ tables_1) (hm : ck_mv w = true) : w ∈ ck_tb := List.mem_filter.mpr ⟨List.mem_append_right _ h, hm⟩
theorem ck_tabi {w : Cond} (i : Nat) (h : tables_1[i]? = some w) (hm : ck_mv w = true) : w ∈ ck_tb := ck_tab (List.mem_of_getElem? h) hm
theorem ck_seli {w : Cond} (i : Nat) (h : (k2_sels lw_privs)[i]? = some w) (hm : ck_mv w = true) : w ∈ ck_tb := List.mem_filter.mpr ⟨List.mem_append_left _ (List.mem_of_getElem? h), hm⟩
theorem ck_tabl {ws : List Cond} (ps : List Nat) (hp : ws = ps.filterMap (fun i => tables_1[i]?)) (hm : ws.all ck_mv = true) : ∀ w ∈ ws, w ∈ ck_tb := fun w h => ck_tab (ck_mem_r ps hp w h) (List.all_eq_true.mp hm w h)
def cn_C0 : String := "RatchetDesk"
def cn_T0 : u_T := fun k => match k with
  | 0 => ("RatchetDesk", "seed", "I", true)
  | 1 => ("RatchetDesk", "desk", "[[I", true)
  | 2 => ("RatchetDesk", "people", "[LRatchetDesk$Person;", true)
  | 3 => ("RatchetDesk", "talks", "[LRatchetDesk$End;", true)
  | 4 => ("RatchetDesk", "post", "[LRatchetDesk$Letter;", true)
  | 5 => ("RatchetDesk", "passing", "LRatchetDesk$Secret;", true)
  | 6 => ("RatchetDesk", "tools", "LRatchetDesk$Tools;", true)
  | 7 => ("RatchetDesk", "trial", "LRatchetDesk$End;", false)
  | 8 => ("RatchetDesk", "endCount", "I", false)
  | 9 => ("RatchetDesk", "letterCount", "I", false)
  | _ => ("RatchetDesk", "secretCount", "I", false)
def cn_y0 : Nat → FieldType := fun k => match k with
  | 0 => .int
  | 1 => (.array (.array .int))
  | 2 => (.array (.object "RatchetDesk$Person"))
  | 3 => (.array (.object "RatchetDesk$End"))
  | 4 => (.array (.object "RatchetDesk$Letter"))
  | 5 => (.object "RatchetDesk$Secret")
  | 6 => (.object "RatchetDesk$Tools")
  | 7 => (.object "RatchetDesk$End")
  | 8 => .int
  | 9 => .int
  | _ => .int
theorem cn_w0 : ∀ w ∈ u_ws cn_C0 cn_T0 11, w ∈ ck_tb := ck_tabl [395, 397, 399, 401, 403, 405, 407, 409, 411, 413, 415] (by decide +kernel) (by decide +kernel)
theorem cn_p0 : ∀ k, k < 11 → parseFieldDescriptor (cn_T0 k).2.2.1 = some (cn_y0 k) := by decide +kernel
theorem cn_n0 : ∀ a, a < 11 → ∀ b, b < 11 → a ≠ b → (cn_T0 a).2.1 ≠ (cn_T0 b).2.1 := by decide +kernel
theorem cn_o0 : ∀ k, k < 11 → (cn_T0 k).1 = cn_C0 := by decide +kernel
theorem cn_i0 : Cond.instantiable cn_C0 11 ∈ ck_tb ∧ Cond.initialized cn_C0 ∈ ck_tb := ⟨ck_tabi 21 (by decide +kernel) rfl, ck_tabi 1 (by decide +kernel) rfl⟩
def cn_C1 : String := "RatchetDesk$Secret"
def cn_T1 : u_T := fun k => match k with
  | 0 => ("RatchetDesk$Secret", "key", "[I", true)
  | 1 => ("RatchetDesk$Secret", "point", "[I", true)
  | _ => ("RatchetDesk$Secret", "reckoned", "Z", false)
def cn_y1 : Nat → FieldType := fun k => match k with
  | 0 => (.array .int)
  | 1 => (.array .int)
  | _ => .boolean
theorem cn_w1 : ∀ w ∈ u_ws cn_C1 cn_T1 3, w ∈ ck_tb := ck_tabl [47, 49, 51] (by decide +kernel) (by decide +kernel)
theorem cn_p1 : ∀ k, k < 3 → parseFieldDescriptor (cn_T1 k).2.2.1 = some (cn_y1 k) := by decide +kernel
theorem cn_n1 : ∀ a, a < 3 → ∀ b, b < 3 → a ≠ b → (cn_T1 a).2.1 ≠ (cn_T1 b).2.1 := by decide +kernel
theorem cn_o1 : ∀ k, k < 3 → (cn_T1 k).1 = cn_C1 := by decide +kernel
theorem cn_i1 : Cond.instantiable cn_C1 3 ∈ ck_tb ∧ Cond.initialized cn_C1 ∈ ck_tb := ⟨ck_tabi 37 (by decide +kernel) rfl, ck_tabi 2 (by decide +kernel) rfl⟩
def cn_C2 : String := "RatchetDesk$Tools"
def cn_T2 : u_T := fun k => match k with
  | 0 => ("RatchetDesk$Tools", "hash", "LRatchetDesk$Hash;", true)
  | 1 => ("RatchetDesk$Tools", "curve", "LRatchetDesk$Curve;", true)
  | 2 => ("RatchetDesk$Tools", "seal", "LRatchetDesk$Seal;", true)
  | 3 => ("RatchetDesk$Tools", "letterKey", "[I", true)
  | 4 => ("RatchetDesk$Tools", "shown", "[I", true)
  | 5 => ("RatchetDesk$Tools", "agreed", "[I", true)
  | _ => ("RatchetDesk$Tools", "unused", "[I", true)
def cn_y2 : Nat → FieldType := fun k => match k with
  | 0 => (.object "RatchetDesk$Hash")
  | 1 => (.object "RatchetDesk$Curve")
  | 2 => (.object "RatchetDesk$Seal")
  | 3 => (.array .int)
  | 4 => (.array .int)
  | 5 => (.array .int)
  | _ => (.array .int)
theorem cn_w2 : ∀ w ∈ u_ws cn_C2 cn_T2 7, w ∈ ck_tb := ck_tabl [176, 178, 180, 182, 184, 186, 188] (by decide +kernel) (by decide +kernel)
theorem cn_p2 : ∀ k, k < 7 → parseFieldDescriptor (cn_T2 k).2.2.1 = some (cn_y2 k) := by decide +kernel
theorem cn_n2 : ∀ a, a < 7 → ∀ b, b < 7 → a ≠ b → (cn_T2 a).2.1 ≠ (cn_T2 b).2.1 := by decide +kernel
theorem cn_o2 : ∀ k, k < 7 → (cn_T2 k).1 = cn_C2 := by decide +kernel
theorem cn_i2 : Cond.instantiable cn_C2 7 ∈ ck_tb ∧ Cond.initialized cn_C2 ∈ ck_tb := ⟨ck_tabi 56 (by decide +kernel) rfl, ck_tabi 3 (by decide +kernel) rfl⟩
def cn_C3 : String := "RatchetDesk$Hash"
def cn_T3 : u_T := fun k => match k with
  | 0 => ("RatchetDesk$Hash", "blank", "[I", true)
  | 1 => ("RatchetDesk$Hash", "row", "[I", true)
  | 2 => ("RatchetDesk$Hash", "filled", "I", false)
  | 3 => ("RatchetDesk$Hash", "words", "[I", true)
  | 4 => ("RatchetDesk$Hash", "state", "[I", true)
  | 5 => ("RatchetDesk$Hash", "macKey", "[I", true)
  | 6 => ("RatchetDesk$Hash", "inner", "[I", true)
  | _ => ("RatchetDesk$Hash", "spreadKey", "[I", true)
def cn_y3 : Nat → FieldType := fun k => match k with
  | 0 => (.array .int)
  | 1 => (.array .int)
  | 2 => .int
  | 3 => (.array .int)
  | 4 => (.array .int)
  | 5 => (.array .int)
  | 6 => (.array .int)
  | _ => (.array .int)
theorem cn_w3 : ∀ w ∈ u_ws cn_C3 cn_T3 8, w ∈ ck_tb := ck_tabl [77, 79, 81, 83, 85, 87, 89, 91] (by decide +kernel) (by decide +kernel)
theorem cn_p3 : ∀ k, k < 8 → parseFieldDescriptor (cn_T3 k).2.2.1 = some (cn_y3 k) := by decide +kernel
theorem cn_n3 : ∀ a, a < 8 → ∀ b, b < 8 → a ≠ b → (cn_T3 a).2.1 ≠ (cn_T3 b).2.1 := by decide +kernel
theorem cn_o3 : ∀ k, k < 8 → (cn_T3 k).1 = cn_C3 := by decide +kernel
theorem cn_i3 : Cond.instantiable cn_C3 8 ∈ ck_tb ∧ Cond.initialized cn_C3 ∈ ck_tb := ⟨ck_tabi 62 (by decide +kernel) rfl, ck_tabi 4 (by decide +kernel) rfl⟩
def cn_C4 : String := "RatchetDesk$Curve"
def cn_T4 : u_T := fun k => match k with
  | 0 => ("RatchetDesk$Curve", "nine", "[I", true)
  | 1 => ("RatchetDesk$Curve", "u", "[J", true)
  | 2 => ("RatchetDesk$Curve", "a", "[J", true)
  | 3 => ("RatchetDesk$Curve", "b", "[J", true)
  | 4 => ("RatchetDesk$Curve", "c", "[J", true)
  | 5 => ("RatchetDesk$Curve", "d", "[J", true)
  | 6 => ("RatchetDesk$Curve", "sum", "[J", true)
  | 7 => ("RatchetDesk$Curve", "gap", "[J", true)
  | 8 => ("RatchetDesk$Curve", "m", "[J", true)
  | 9 => ("RatchetDesk$Curve", "n", "[J", true)
  | 10 => ("RatchetDesk$Curve", "e", "[J", true)
  | 11 => ("RatchetDesk$Curve", "f", "[J", true)
  | _ => ("RatchetDesk$Curve", "g", "[J", true)
def cn_y4 : Nat → FieldType := fun k => match k with
  | 0 => (.array .int)
  | 1 => (.array .long)
  | 2 => (.array .long)
  | 3 => (.array .long)
  | 4 => (.array .long)
  | 5 => (.array .long)
  | 6 => (.array .long)
  | 7 => (.array .long)
  | 8 => (.array .long)
  | 9 => (.array .long)
  | 10 => (.array .long)
  | 11 => (.array .long)
  | _ => (.array .long)
theorem cn_w4 : ∀ w ∈ u_ws cn_C4 cn_T4 13, w ∈ ck_tb := ck_tabl [114, 116, 118, 120, 122, 124, 126, 128, 130, 132, 134, 136, 138] (by decide +kernel) (by decide +kernel)
theorem cn_p4 : ∀ k, k < 13 → parseFieldDescriptor (cn_T4 k).2.2.1 = some (cn_y4 k) := by decide +kernel
theorem cn_n4 : ∀ a, a < 13 → ∀ b, b < 13 → a ≠ b → (cn_T4 a).2.1 ≠ (cn_T4 b).2.1 := by decide +kernel
theorem cn_o4 : ∀ k, k < 13 → (cn_T4 k).1 = cn_C4 := by decide +kernel
theorem cn_i4 : Cond.instantiable cn_C4 13 ∈ ck_tb ∧ Cond.initialized cn_C4 ∈ ck_tb := ⟨ck_tabi 95 (by decide +kernel) rfl, ck_tabi 5 (by decide +kernel) rfl⟩
def cn_C5 : String := "RatchetDesk$Seal"
def cn_T5 : u_T := fun k => match k with
  | 0 => ("RatchetDesk$Seal", "coverKey", "[I", true)
  | 1 => ("RatchetDesk$Seal", "markKey", "[I", true)
  | 2 => ("RatchetDesk$Seal", "cover", "[I", true)
  | _ => ("RatchetDesk$Seal", "mark", "[I", true)
def cn_y5 : Nat → FieldType := fun k => match k with
  | 0 => (.array .int)
  | 1 => (.array .int)
  | 2 => (.array .int)
  | _ => (.array .int)
theorem cn_w5 : ∀ w ∈ u_ws cn_C5 cn_T5 4, w ∈ ck_tb := ck_tabl [152, 154, 156, 158] (by decide +kernel) (by decide +kernel)
theorem cn_p5 : ∀ k, k < 4 → parseFieldDescriptor (cn_T5 k).2.2.1 = some (cn_y5 k) := by decide +kernel
theorem cn_n5 : ∀ a, a < 4 → ∀ b, b < 4 → a ≠ b → (cn_T5 a).2.1 ≠ (cn_T5 b).2.1 := by decide +kernel
theorem cn_o5 : ∀ k, k < 4 → (cn_T5 k).1 = cn_C5 := by decide +kernel
theorem cn_i5 : Cond.instantiable cn_C5 4 ∈ ck_tb ∧ Cond.initialized cn_C5 ∈ ck_tb := ⟨ck_tabi 143 (by decide +kernel) rfl, ck_tabi 6 (by decide +kernel) rfl⟩
def cn_C6 : String := "RatchetDesk$End"
def cn_T6 : u_T := fun k => match k with
  | 0 => ("RatchetDesk$End", "owner", "I", false)
  | 1 => ("RatchetDesk$End", "partner", "I", false)
  | 2 => ("RatchetDesk$End", "tie", "[I", true)
  | 3 => ("RatchetDesk$End", "root", "[I", true)
  | 4 => ("RatchetDesk$End", "own", "LRatchetDesk$Secret;", true)
  | 5 => ("RatchetDesk$End", "other", "[I", true)
  | 6 => ("RatchetDesk$End", "sending", "LRatchetDesk$Chain;", true)
  | 7 => ("RatchetDesk$End", "receiving", "LRatchetDesk$Chain;", true)
  | 8 => ("RatchetDesk$End", "before", "I", false)
  | 9 => ("RatchetDesk$End", "kept", "LRatchetDesk$KeptKeys;", true)
  | 10 => ("RatchetDesk$End", "introduction", "[I", true)
  | 11 => ("RatchetDesk$End", "introduces", "Z", false)
  | 12 => ("RatchetDesk$End", "turning", "Z", false)
  | _ => ("RatchetDesk$End", "lastText", "J", false)
def cn_y6 : Nat → FieldType := fun k => match k with
  | 0 => .int
  | 1 => .int
  | 2 => (.array .int)
  | 3 => (.array .int)
  | 4 => (.object "RatchetDesk$Secret")
  | 5 => (.array .int)
  | 6 => (.object "RatchetDesk$Chain")
  | 7 => (.object "RatchetDesk$Chain")
  | 8 => .int
  | 9 => (.object "RatchetDesk$KeptKeys")
  | 10 => (.array .int)
  | 11 => .boolean
  | 12 => .boolean
  | _ => .long
theorem cn_w6 : ∀ w ∈ u_ws cn_C6 cn_T6 14, w ∈ ck_tb := ck_tabl [267, 269, 271, 273, 275, 277, 279, 281, 283, 285, 287, 289, 291, 293] (by decide +kernel) (by decide +kernel)
theorem cn_p6 : ∀ k, k < 14 → parseFieldDescriptor (cn_T6 k).2.2.1 = some (cn_y6 k) := by decide +kernel
theorem cn_n6 : ∀ a, a < 14 → ∀ b, b < 14 → a ≠ b → (cn_T6 a).2.1 ≠ (cn_T6 b).2.1 := by decide +kernel
theorem cn_o6 : ∀ k, k < 14 → (cn_T6 k).1 = cn_C6 := by decide +kernel
theorem cn_i6 : Cond.instantiable cn_C6 14 ∈ ck_tb ∧ Cond.initialized cn_C6 ∈ ck_tb := ⟨ck_tabi 191 (by decide +kernel) rfl, ck_tabi 7 (by decide +kernel) rfl⟩
def cn_C7 : String := "RatchetDesk$Chain"
def cn_T7 : u_T := fun k => match k with
  | 0 => ("RatchetDesk$Chain", "key", "[I", true)
  | 1 => ("RatchetDesk$Chain", "passed", "I", false)
  | _ => ("RatchetDesk$Chain", "stands", "Z", false)
def cn_y7 : Nat → FieldType := fun k => match k with
  | 0 => (.array .int)
  | 1 => .int
  | _ => .boolean
theorem cn_w7 : ∀ w ∈ u_ws cn_C7 cn_T7 3, w ∈ ck_tb := ck_tabl [212, 214, 216] (by decide +kernel) (by decide +kernel)
theorem cn_p7 : ∀ k, k < 3 → parseFieldDescriptor (cn_T7 k).2.2.1 = some (cn_y7 k) := by decide +kernel
theorem cn_n7 : ∀ a, a < 3 → ∀ b, b < 3 → a ≠ b → (cn_T7 a).2.1 ≠ (cn_T7 b).2.1 := by decide +kernel
theorem cn_o7 : ∀ k, k < 3 → (cn_T7 k).1 = cn_C7 := by decide +kernel
theorem cn_i7 : Cond.instantiable cn_C7 3 ∈ ck_tb ∧ Cond.initialized cn_C7 ∈ ck_tb := ⟨ck_tabi 199 (by decide +kernel) rfl, ck_tabi 8 (by decide +kernel) rfl⟩
def cn_C8 : String := "RatchetDesk$KeptKeys"
def cn_T8 : u_T := fun k => match k with
  | 0 => ("RatchetDesk$KeptKeys", "ratchetKeys", "[[I", true)
  | 1 => ("RatchetDesk$KeptKeys", "letterKeys", "[[I", true)
  | 2 => ("RatchetDesk$KeptKeys", "numbers", "[I", true)
  | _ => ("RatchetDesk$KeptKeys", "size", "I", false)
def cn_y8 : Nat → FieldType := fun k => match k with
  | 0 => (.array (.array .int))
  | 1 => (.array (.array .int))
  | 2 => (.array .int)
  | _ => .int
theorem cn_w8 : ∀ w ∈ u_ws cn_C8 cn_T8 4, w ∈ ck_tb := ck_tabl [232, 234, 236, 238] (by decide +kernel) (by decide +kernel)
theorem cn_p8 : ∀ k, k < 4 → parseFieldDescriptor (cn_T8 k).2.2.1 = some (cn_y8 k) := by decide +kernel
theorem cn_n8 : ∀ a, a < 4 → ∀ b, b < 4 → a ≠ b → (cn_T8 a).2.1 ≠ (cn_T8 b).2.1 := by decide +kernel
theorem cn_o8 : ∀ k, k < 4 → (cn_T8 k).1 = cn_C8 := by decide +kernel
theorem cn_i8 : Cond.instantiable cn_C8 4 ∈ ck_tb ∧ Cond.initialized cn_C8 ∈ ck_tb := ⟨ck_tabi 220 (by decide +kernel) rfl, ck_tabi 9 (by decide +kernel) rfl⟩
def cn_C9 : String := "RatchetDesk$Person"
def cn_T9 : u_T := fun k => match k with
  | 0 => ("RatchetDesk$Person", "identity", "LRatchetDesk$Secret;", true)
  | 1 => ("RatchetDesk$Person", "prekey", "LRatchetDesk$Secret;", true)
  | 2 => ("RatchetDesk$Person", "oneTimes", "[LRatchetDesk$Secret;", true)
  | 3 => ("RatchetDesk$Person", "stages", "[I", true)
  | _ => ("RatchetDesk$Person", "made", "I", false)
def cn_y9 : Nat → FieldType := fun k => match k with
  | 0 => (.object "RatchetDesk$Secret")
  | 1 => (.object "RatchetDesk$Secret")
  | 2 => (.array (.object "RatchetDesk$Secret"))
  | 3 => (.array .int)
  | _ => .int
theorem cn_w9 : ∀ w ∈ u_ws cn_C9 cn_T9 5, w ∈ ck_tb := ck_tabl [313, 315, 317, 319, 321] (by decide +kernel) (by decide +kernel)
theorem cn_p9 : ∀ k, k < 5 → parseFieldDescriptor (cn_T9 k).2.2.1 = some (cn_y9 k) := by decide +kernel
theorem cn_n9 : ∀ a, a < 5 → ∀ b, b < 5 → a ≠ b → (cn_T9 a).2.1 ≠ (cn_T9 b).2.1 := by decide +kernel
theorem cn_o9 : ∀ k, k < 5 → (cn_T9 k).1 = cn_C9 := by decide +kernel
theorem cn_i9 : Cond.instantiable cn_C9 5 ∈ ck_tb ∧ Cond.initialized cn_C9 ∈ ck_tb := ⟨ck_tabi 296 (by decide +kernel) rfl, ck_tabi 10 (by decide +kernel) rfl⟩
def cn_C10 : String := "RatchetDesk$Letter"
def cn_T10 : u_T := fun k => match k with
  | 0 => ("RatchetDesk$Letter", "bytes", "[I", true)
  | _ => ("RatchetDesk$Letter", "size", "I", false)
def cn_y10 : Nat → FieldType := fun k => match k with
  | 0 => (.array .int)
  | _ => .int
theorem cn_w10 : ∀ w ∈ u_ws cn_C10 cn_T10 2, w ∈ ck_tb := ck_tabl [336, 338] (by decide +kernel) (by decide +kernel)
theorem cn_p10 : ∀ k, k < 2 → parseFieldDescriptor (cn_T10 k).2.2.1 = some (cn_y10 k) := by decide +kernel
theorem cn_n10 : ∀ a, a < 2 → ∀ b, b < 2 → a ≠ b → (cn_T10 a).2.1 ≠ (cn_T10 b).2.1 := by decide +kernel
theorem cn_o10 : ∀ k, k < 2 → (cn_T10 k).1 = cn_C10 := by decide +kernel
theorem cn_i10 : Cond.instantiable cn_C10 2 ∈ ck_tb ∧ Cond.initialized cn_C10 ∈ ck_tb := ⟨ck_tabi 324 (by decide +kernel) rfl, ck_tabi 11 (by decide +kernel) rfl⟩
def cn_C11 : String := "RatchetDeskModel"
def cn_T11 : u_T := fun k => match k with
  | 0 => ("RatchetDeskModel", "fault", "I", false)
  | 1 => ("RatchetDeskModel", "seed", "I", true)
  | 2 => ("RatchetDeskModel", "mem", "[I", true)
  | 3 => ("RatchetDeskModel", "row", "[I", true)
  | 4 => ("RatchetDeskModel", "message", "[I", true)
  | 5 => ("RatchetDeskModel", "messageLength", "I", false)
  | 6 => ("RatchetDeskModel", "constants", "[I", true)
  | 7 => ("RatchetDeskModel", "hash", "[I", true)
  | 8 => ("RatchetDeskModel", "work", "[I", true)
  | 9 => ("RatchetDeskModel", "words", "[I", true)
  | 10 => ("RatchetDeskModel", "field", "[J", true)
  | 11 => ("RatchetDeskModel", "product", "[J", true)
  | 12 => ("RatchetDeskModel", "secrets", "I", false)
  | 13 => ("RatchetDeskModel", "isKnown", "[Z", true)
  | 14 => ("RatchetDeskModel", "stocked", "[I", true)
  | 15 => ("RatchetDeskModel", "oneTime", "[I", true)
  | 16 => ("RatchetDeskModel", "isOffered", "[Z", true)
  | 17 => ("RatchetDeskModel", "isHeld", "[Z", true)
  | 18 => ("RatchetDeskModel", "ends", "I", false)
  | 19 => ("RatchetDeskModel", "mine", "[I", true)
  | 20 => ("RatchetDeskModel", "others", "[I", true)
  | 21 => ("RatchetDeskModel", "began", "[Z", true)
  | 22 => ("RatchetDeskModel", "hasOpened", "[Z", true)
  | 23 => ("RatchetDeskModel", "isSending", "[Z", true)
  | 24 => ("RatchetDeskModel", "isReceiving", "[Z", true)
  | 25 => ("RatchetDeskModel", "sent", "[I", true)
  | 26 => ("RatchetDeskModel", "come", "[I", true)
  | 27 => ("RatchetDeskModel", "before", "[I", true)
  | 28 => ("RatchetDeskModel", "kept", "[I", true)
  | 29 => ("RatchetDeskModel", "keptNumber", "[I", true)
  | 30 => ("RatchetDeskModel", "ownSecret", "[I", true)
  | 31 => ("RatchetDeskModel", "firstSecret", "[I", true)
  | 32 => ("RatchetDeskModel", "firstOne", "[I", true)
  | 33 => ("RatchetDeskModel", "texts", "[J", true)
  | 34 => ("RatchetDeskModel", "letters", "I", false)
  | 35 => ("RatchetDeskModel", "lengths", "[I", true)
  | _ => ("RatchetDeskModel", "wires", "[I", true)
def cn_y11 : Nat → FieldType := fun k => match k with
  | 0 => .int
  | 1 => .int
  | 2 => (.array .int)
  | 3 => (.array .int)
  | 4 => (.array .int)
  | 5 => .int
  | 6 => (.array .int)
  | 7 => (.array .int)
  | 8 => (.array .int)
  | 9 => (.array .int)
  | 10 => (.array .long)
  | 11 => (.array .long)
  | 12 => .int
  | 13 => (.array .boolean)
  | 14 => (.array .int)
  | 15 => (.array .int)
  | 16 => (.array .boolean)
  | 17 => (.array .boolean)
  | 18 => .int
  | 19 => (.array .int)
  | 20 => (.array .int)
  | 21 => (.array .boolean)
  | 22 => (.array .boolean)
  | 23 => (.array .boolean)
  | 24 => (.array .boolean)
  | 25 => (.array .int)
  | 26 => (.array .int)
  | 27 => (.array .int)
  | 28 => (.array .int)
  | 29 => (.array .int)
  | 30 => (.array .int)
  | 31 => (.array .int)
  | 32 => (.array .int)
  | 33 => (.array .long)
  | 34 => .int
  | 35 => (.array .int)
  | _ => (.array .int)
theorem cn_w11 : ∀ w ∈ u_ws cn_C11 cn_T11 37, w ∈ ck_tb := ck_tabl [1076, 1078, 1080, 1082, 1084, 1086, 1088, 1090, 1092, 1094, 1096, 1098, 1100, 1102, 1104, 1106, 1108, 1110, 1112, 1114, 1116, 1118, 1120, 1122, 1124, 1126, 1128, 1130, 1132, 1134, 1136, 1138, 1140, 1142, 1144, 1146, 1148] (by decide +kernel) (by decide +kernel)
theorem cn_p11 : ∀ k, k < 37 → parseFieldDescriptor (cn_T11 k).2.2.1 = some (cn_y11 k) := by decide +kernel
theorem cn_n11 : ∀ a, a < 37 → ∀ b, b < 37 → a ≠ b → (cn_T11 a).2.1 ≠ (cn_T11 b).2.1 := by decide +kernel
theorem cn_o11 : ∀ k, k < 37 → (cn_T11 k).1 = cn_C11 := by decide +kernel
theorem cn_i11 : Cond.instantiable cn_C11 37 ∈ ck_tb ∧ Cond.initialized cn_C11 ∈ ck_tb := ⟨ck_tabi 958 (by decide +kernel) rfl, ck_tabi 13 (by decide +kernel) rfl⟩
def ck_cl : List vw_C := [(cn_C0, cn_T0, 11), (cn_C1, cn_T1, 3), (cn_C2, cn_T2, 7), (cn_C3, cn_T3, 8), (cn_C4, cn_T4, 13), (cn_C5, cn_T5, 4), (cn_C6, cn_T6, 14), (cn_C7, cn_T7, 3), (cn_C8, cn_T8, 4), (cn_C9, cn_T9, 5), (cn_C10, cn_T10, 2), (cn_C11, cn_T11, 37)]
def ck_yy (ci : Nat) : Nat → FieldType := match ci with
  | 0 => cn_y0
  | 1 => cn_y1
  | 2 => cn_y2
  | 3 => cn_y3
  | 4 => cn_y4
  | 5 => cn_y5
  | 6 => cn_y6
  | 7 => cn_y7
  | 8 => cn_y8
  | 9 => cn_y9
  | 10 => cn_y10
  | _ => cn_y11
/-- all that is known of a class of the list -/
theorem ck_cls {ci N : Nat} {C : String} {T : u_T} (h : ck_cl[ci]? = some (C, T, N)) : (∀ w ∈ u_ws C T N, w ∈ ck_tb) ∧ (∀ k, k < N → parseFieldDescriptor (T k).2.2.1 = some (ck_yy ci k)) ∧ (∀ a, a < N → ∀ b, b < N → a ≠ b → (T a).2.1 ≠ (T b).2.1) ∧ (∀ k, k < N → (T k).1 = C) ∧ Cond.instantiable C N ∈ ck_tb ∧ Cond.initialized C ∈ ck_tb := by
  match ci, h with
  | 0, h => cases h; exact ⟨cn_w0, cn_p0, cn_n0, cn_o0, cn_i0⟩
  | 1, h => cases h; exact ⟨cn_w1, cn_p1, cn_n1, cn_o1, cn_i1⟩
  | 2, h => cases h; exact ⟨cn_w2, cn_p2, cn_n2, cn_o2, cn_i2⟩
  | 3, h => cases h; exact ⟨cn_w3, cn_p3, cn_n3, cn_o3, cn_i3⟩
  | 4, h => cases h; exact ⟨cn_w4, cn_p4, cn_n4, cn_o4, cn_i4⟩
  | 5, h => cases h; exact ⟨cn_w5, cn_p5, cn_n5, cn_o5, cn_i5⟩
  | 6, h => cases h; exact ⟨cn_w6, cn_p6, cn_n6, cn_o6, cn_i6⟩
  | 7, h => cases h; exact ⟨cn_w7, cn_p7, cn_n7, cn_o7, cn_i7⟩
  | 8, h => cases h; exact ⟨cn_w8, cn_p8, cn_n8, cn_o8, cn_i8⟩
  | 9, h => cases h; exact ⟨cn_w9, cn_p9, cn_n9, cn_o9, cn_i9⟩
  | 10, h => cases h; exact ⟨cn_w10, cn_p10, cn_n10, cn_o10, cn_i10⟩
  | 11, h => cases h; exact ⟨cn_w11, cn_p11, cn_n11, cn_o11, cn_i11⟩
  | n + 12, h => simp [ck_cl] at h
end
section
/-! ===== what an abstract state says of a heap and a frame ===== -/
/-- types: an array (its class's place, its length, kinds up to places), or an object (its class's place, kinds of its fields) -/
abbrev ck_D : Type := (Nat × Nat × List (Nat × ck_V)) ⊕ (Nat × List ck_V)
abbrev ck_C : Type := (Nat × Nat) × List ck_V
def ck_kat : List (Nat × ck_V) → Nat → ck_V
  | [], _ => .inr (.inr (8, 0))
  | (n, k) :: t, j => if j < n then k else ck_kat t j
/-- a value is of an abstract one: ρ the ghosts, G the types of cells, N the named cells, S the static arrays -/
def ck_R (S : Nat → Nat) (ρ : Nat → Int) (G : Nat → Nat) (N : List Nat) : ck_V → Value → Prop
  | .inl q, v => ∃ x : Int32, v = .int x ∧ ck_in ρ q x
  | .inr (.inl q), v => ∃ x : Int64, v = .long x ∧ q.1 ≤ x.toInt ∧ x.toInt ≤ q.2
  | .inr (.inr (0, _)), v => v = .null
  | .inr (.inr (1, i)), v => ∃ a, N[i]? = some a ∧ v = .ref a
  | .inr (.inr (2, τ)), v => ∃ a, v = .ref a ∧ G a = τ ∧ τ ≠ 0
  | .inr (.inr (3, j)), v => v = .ref (S j)
  | .inr (.inr (4, _)), v => ∃ a, v = .ref a
  | .inr (.inr (_, _)), _ => True
def ck_ob (D : va_G) (ci a : Nat) (H : Heap) (vs : List Value) : Prop := ∃ (C : String) (T : u_T), ck_cl[ci]? = some (C, T, vs.length) ∧ t_OB a (D.1 ci) vs.length (D.2 ci) H (vp_V vs)
def ck_all {α β : Type} (P : α → β → Prop) (l : List α) (m : List β) : Prop := l.length = m.length ∧ ∀ (i : Nat) (a : α) (b : β), l[i]? = some a → m[i]? = some b → P a b
/-- a cell of a type -/
def ck_ty (D : va_G) (AC : Nat → ClassId) (S : Nat → Nat) (tab : List ck_D) (G : Nat → Nat) (τ a : Nat) (H : Heap) : Prop := match tab[τ]? with
  | some (.inl (ac, n, sg)) => ∃ f : Nat → Value, H[a]? = some (arrV (AC ac) n f) ∧ ∀ j, j < n → ck_R S (fun _ => 0) G [] (ck_kat sg j) (f j)
  | some (.inr (ci, ks)) => ∃ vs : List Value, ck_ob D ci a H vs ∧ ck_all (ck_R S (fun _ => 0) G []) ks vs
  | none => False
def ck_ok (D : va_G) (AC : Nat → ClassId) (S : Nat → Nat) (tab : List ck_D) (L : Heap) (G : Nat → Nat) (H : Heap) : Prop :=
  L.size ≤ H.size ∧ (∀ q, q < L.size → H[q]? = L[q]?) ∧ ∀ a, G a ≠ 0 → L.size ≤ a ∧ ck_ty D AC S tab G (G a) a H
/-- a named cell: (0, class) an object of its own; (1, array class) an array of its own; (2, _) none any more; (3, type) an object that is typed, too; (5, j) a static array; (6, j) a window of it, S 3 its first place; (k + 7, type) places k and on of an array that is typed, too -/
def ck_tc (D : va_G) (AC : Nat → ClassId) (S : Nat → Nat) (tab : List ck_D) (L : Heap) (ρ : Nat → Int) (G : Nat → Nat) (N : List Nat) (H : Heap) (c : ck_C) (a : Nat) : Prop := match c.1 with
  | (0, ci) => L.size ≤ a ∧ G a = 0 ∧ ∃ vs : List Value, ck_ob D ci a H vs ∧ ck_all (ck_R S ρ G N) c.2 vs
  | (1, ac) => L.size ≤ a ∧ G a = 0 ∧ ∃ f : Nat → Value, H[a]? = some (arrV (AC ac) c.2.length f) ∧ ∀ (j : Nat) (v : ck_V), c.2[j]? = some v → ck_R S ρ G N v (f j)
  | (3, τ) => G a = τ ∧ τ ≠ 0 ∧ ∃ (ci : Nat) (ks : List ck_V) (vs : List Value), tab[τ]? = some (.inr (ci, ks)) ∧ ck_ob D ci a H vs ∧ ck_all (ck_R S ρ G N) c.2 vs
  | (5, j) => a = S j ∧ ∃ cell : Cell, L[a]? = some cell ∧ a < L.size ∧ ∀ (k : Nat) (v : ck_V), c.2[k]? = some v → ∃ w : Value, cell.slots[k]? = some w ∧ ck_R S ρ G N v w
  | (6, j) => a = S j ∧ ∃ cell : Cell, L[a]? = some cell ∧ a < L.size ∧ ∀ (k : Nat) (v : ck_V), c.2[k]? = some v → ∃ w : Value, cell.slots[S 3 + k]? = some w ∧ ck_R S ρ G N v w
  | (k + 7, τ) => G a = τ ∧ τ ≠ 0 ∧ ∃ (ac n : Nat) (sg : List (Nat × ck_V)) (f : Nat → Value), tab[τ]? = some (.inl (ac, n, sg)) ∧ H[a]? = some (arrV (AC ac) n f) ∧ k + c.2.length ≤ n ∧ ∀ (j : Nat) (v : ck_V), c.2[j]? = some v → ck_R S ρ G N v (f (k + j))
  | _ => True
/-- typed, and named -/
def ck_foc (c : ck_C) : Prop := c.1.1 = 3 ∨ 7 ≤ c.1.1
def ck_own (c : ck_C) : Bool := c.1.1 == 0 || c.1.1 == 1
def ck_nd (T : List ck_C) (N : List Nat) : Prop := ∀ (i j : Nat) (c d : ck_C) (a : Nat), T[i]? = some c → T[j]? = some d → ck_own c = true → ck_own d = true → N[i]? = some a → N[j]? = some a → i = j
/-- the heap's side of an abstract state -/
def ck_H (D : va_G) (AC : Nat → ClassId) (S : Nat → Nat) (tab : List ck_D) (L : Heap) (ρ : Nat → Int) (G : Nat → Nat) (N : List Nat) (T : List ck_C) (H : Heap) : Prop :=
  ck_ok D AC S tab L G H ∧ N.length = T.length ∧ (∀ (i : Nat) (c : ck_C) (a : Nat), T[i]? = some c → N[i]? = some a → ck_tc D AC S tab L ρ G N H c a) ∧ ck_nd T N
/-! the relation where the types of cells grow, or ghosts are set that it doesn't use -/
theorem ck_all.mono {α β : Type} {P Q : α → β → Prop} {l : List α} {m : List β} (h : ck_all P l m) (hh : ∀ a b, a ∈ l → P a b → Q a b) : ck_all Q l m := ⟨h.1, fun i a b h1 h2 => hh a b (List.mem_of_getElem? h1) (h.2 i a b h1 h2)⟩
theorem ck_all.set {α β : Type} {P : α → β → Prop} {l : List α} {m : List β} (h : ck_all P l m) (k : Nat) {a : α} {b : β} (hab : P a b) : ck_all P (l.set k a) (m.set k b) := by
  refine ⟨by simp [h.1], fun i x y h1 h2 => ?_⟩
  by_cases e : k = i
  · subst e
    rw [List.getElem?_set] at h1 h2
    simp only [if_true] at h1 h2
    split at h1 <;> split at h2 <;> first | (cases h2; done) | (cases h1; done) | (cases h1; cases h2; exact hab)
  · rw [List.getElem?_set_ne e] at h1 h2
    exact h.2 i x y h1 h2
theorem ck_all.get {α β : Type} {P : α → β → Prop} {l : List α} {m : List β} (h : ck_all P l m) {k : Nat} {a : α} (hk : l[k]? = some a) : ∃ b, m[k]? = some b ∧ P a b := by
  have h1 : k < m.length := by rw [← h.1]; exact (List.getElem?_eq_some_iff.mp hk).1
  exact ⟨m[k], List.getElem?_eq_getElem h1, h.2 k _ _ hk (List.getElem?_eq_getElem h1)⟩
theorem ck_all.nil {α β : Type} {P : α → β → Prop} : ck_all P [] [] := ⟨rfl, fun i a b h => by simp at h⟩
theorem ck_all.cons {α β : Type} {P : α → β → Prop} {a : α} {b : β} {l : List α} {m : List β} (h1 : P a b) (h2 : ck_all P l m) : ck_all P (a :: l) (b :: m) := by
  refine ⟨by simp [h2.1], fun i x y hx hy => ?_⟩
  cases i with
  | zero => simp at hx hy; subst hx; subst hy; exact h1
  | succ n => simp at hx hy; exact h2.2 n x y hx hy
theorem ck_all.uncons {α β : Type} {P : α → β → Prop} {a : α} {l : List α} {m : List β} (h : ck_all P (a :: l) m) : ∃ b m', m = b :: m' ∧ P a b ∧ ck_all P l m' := by
  cases m with
  | nil => have := h.1; simp at this
  | cons b m' => exact ⟨b, m', rfl, h.2 0 a b rfl rfl, by have := h.1; simpa using this, fun i x y hx hy => h.2 (i + 1) x y (by simpa using hx) (by simpa using hy)⟩
def ck_up (G : Nat → Nat) (a τ : Nat) : Nat → Nat := fun q => if q = a then τ else G q
theorem ck_R.grow {S : Nat → Nat} {ρ : Nat → Int} {G G' : Nat → Nat} {N : List Nat} {k : ck_V} {v : Value} (hG : ∀ q, G q ≠ 0 → G' q = G q) (h : ck_R S ρ G N k v) : ck_R S ρ G' N k v := by
  match k, h with
  | .inl q, h => exact h
  | .inr (.inl q), h => exact h
  | .inr (.inr (0, _)), h => exact h
  | .inr (.inr (1, i)), h => exact h
  | .inr (.inr (2, τ)), h =>
    obtain ⟨a, e, h1, h2⟩ := h
    exact ⟨a, e, by rw [hG a (by rw [h1]; exact h2)]; exact h1, h2⟩
  | .inr (.inr (3, j)), h => exact h
  | .inr (.inr (4, _)), h => exact h
  | .inr (.inr (n + 5, _)), h => exact h
def ck_plain : ck_V → Bool
  | .inl (_, _, none) => true
  | .inl _ => false
  | .inr (.inr (1, _)) => false
  | _ => true
/-- a kind, without ghost and name, says the same everywhere -/
theorem ck_R.plain {S : Nat → Nat} {ρ ρ' : Nat → Int} {G : Nat → Nat} {N N' : List Nat} {k : ck_V} {v : Value} (hk : ck_plain k = true) (h : ck_R S ρ G N k v) : ck_R S ρ' G N' k v := by
  match k, hk, h with
  | .inl (lo, hi, none), _, h =>
    obtain ⟨x, e, h1, h2, -⟩ := h
    exact ⟨x, e, h1, h2, fun g c q => by cases q⟩
  | .inl (lo, hi, some t), hk, _ => cases hk
  | .inr (.inl q), _, h => exact h
  | .inr (.inr (0, _)), _, h => exact h
  | .inr (.inr (1, i)), hk, _ => cases hk
  | .inr (.inr (2, τ)), _, h => exact h
  | .inr (.inr (3, j)), _, h => exact h
  | .inr (.inr (4, _)), _, h => exact h
  | .inr (.inr (n + 5, _)), _, h => exact h
/-- without its ghost -/
def ck_strip : ck_V → ck_V
  | .inl (a, b, _) => .inl (a, b, none)
  | x => x
theorem ck_R.strip {S : Nat → Nat} {ρ : Nat → Int} {G : Nat → Nat} {N : List Nat} {k : ck_V} {v : Value} (h : ck_R S ρ G N k v) : ck_R S ρ G N (ck_strip k) v := by
  match k, h with
  | .inl (lo, hi, t), h =>
    obtain ⟨x, e, h1, h2, -⟩ := h
    exact ⟨x, e, h1, h2, fun g c q => by cases q⟩
  | .inr _, h => exact h
/-! one value below another -/
def ck_le : ck_V → ck_V → Bool
  | .inl (a, b, t), .inl (c, d, u) => decide (c ≤ a) && decide (b ≤ d) && (u == none || u == t)
  | .inr (.inl (a, b)), .inr (.inl (c, d)) => decide (c ≤ a) && decide (b ≤ d)
  | .inr (.inr (m, n)), .inr (.inr (m', n')) => (m == m' && n == n') || m' == 8
  | _, .inr (.inr (m', _)) => m' == 8
  | _, _ => false
theorem ck_R.top {S : Nat → Nat} {ρ : Nat → Int} {G : Nat → Nat} {N : List Nat} {n : Nat} {v : Value} : ck_R S ρ G N (.inr (.inr (8, n))) v := trivial
theorem ck_R.le {S : Nat → Nat} {ρ : Nat → Int} {G : Nat → Nat} {N : List Nat} {k k' : ck_V} {v : Value} (hk : ck_le k k' = true) (h : ck_R S ρ G N k v) : ck_R S ρ G N k' v := by
  match k, k', hk, h with
  | .inl (a, b, t), .inl (c, d, u), hk, h =>
    obtain ⟨x, e, h1, h2, h3⟩ := h
    simp only [ck_le, Bool.and_eq_true, Bool.or_eq_true, decide_eq_true_eq, beq_iff_eq] at hk
    dsimp only at h1 h2 h3
    refine ⟨x, e, by dsimp only; omega, by dsimp only; omega, fun g q hu => ?_⟩
    rcases hk.2 with z | z
    · rw [z] at hu; cases hu
    · exact h3 g q (by rw [← z]; exact hu)
  | .inr (.inl (a, b)), .inr (.inl (c, d)), hk, h =>
    obtain ⟨x, e, h1, h2⟩ := h
    simp only [ck_le, Bool.and_eq_true, decide_eq_true_eq] at hk
    dsimp only at h1 h2
    exact ⟨x, e, by dsimp only; omega, by dsimp only; omega⟩
  | .inr (.inr (m, n)), .inr (.inr (m', n')), hk, h =>
    simp only [ck_le, Bool.and_eq_true, Bool.or_eq_true, beq_iff_eq] at hk
    rcases hk with ⟨z1, z2⟩ | z
    · subst z1; subst z2; exact h
    · subst z; exact trivial
  | .inl q, .inr (.inr (m', n')), hk, h =>
    simp only [ck_le, beq_iff_eq] at hk
    subst hk; exact trivial
  | .inr (.inl q), .inr (.inr (m', n')), hk, h =>
    simp only [ck_le, beq_iff_eq] at hk
    subst hk; exact trivial
  | .inl q, .inr (.inl r), hk, _ => simp [ck_le] at hk
  | .inr (.inl r), .inl q, hk, _ => simp [ck_le] at hk
  | .inr (.inr r), .inl q, hk, _ => simp [ck_le] at hk
  | .inr (.inr r), .inr (.inl q), hk, _ => simp [ck_le] at hk
end
section
/-! ===== stores, new cells, names given and taken: the heap's side ===== -/
section CKH
variable {D : va_G} {AC : Nat → ClassId} {S : Nat → Nat} {tab : List ck_D} {L : Heap} {ρ : Nat → Int} {G : Nat → Nat} {N : List Nat} {T : List ck_C} {H H' : Heap}
theorem ck_ob.kept {ci a : Nat} {vs : List Value} (h : ck_ob D ci a H vs) (e : H'[a]? = H[a]?) : ck_ob D ci a H' vs := by
  obtain ⟨C, T, h1, h2⟩ := h
  exact ⟨C, T, h1, h2.kept e⟩
theorem ck_ob.lt {ci a : Nat} {vs : List Value} (h : ck_ob D ci a H vs) : a < H.size := by
  obtain ⟨C, T, h1, cell, h2, -⟩ := h
  exact (Array.getElem?_eq_some_iff.mp h2).1
theorem ck_ty.kept {τ a : Nat} (h : ck_ty D AC S tab G τ a H) (e : H'[a]? = H[a]?) : ck_ty D AC S tab G τ a H' := by
  unfold ck_ty at h ⊢
  split at h
  · obtain ⟨f, h1, h2⟩ := h
    exact ⟨f, by rw [e]; exact h1, h2⟩
  · obtain ⟨vs, h1, h2⟩ := h
    exact ⟨vs, h1.kept e, h2⟩
  · exact h.elim
theorem ck_ty.lt {τ a : Nat} (h : ck_ty D AC S tab G τ a H) : a < H.size := by
  unfold ck_ty at h
  split at h
  · obtain ⟨f, h1, h2⟩ := h
    exact (Array.getElem?_eq_some_iff.mp h1).1
  · obtain ⟨vs, h1, h2⟩ := h
    exact h1.lt
  · exact h.elim
theorem ck_ty.grow {G' : Nat → Nat} {τ a : Nat} (hG : ∀ q, G q ≠ 0 → G' q = G q) (h : ck_ty D AC S tab G τ a H) : ck_ty D AC S tab G' τ a H := by
  unfold ck_ty at h ⊢
  split at h
  · obtain ⟨f, h1, h2⟩ := h
    exact ⟨f, h1, fun j hj => (h2 j hj).grow hG⟩
  · obtain ⟨vs, h1, h2⟩ := h
    exact ⟨vs, h1, h2.mono fun _ _ _ h => h.grow hG⟩
  · exact h.elim
/-- what a named cell's place says of its address -/
theorem ck_tc.own {c : ck_C} {a : Nat} (h : ck_tc D AC S tab L ρ G N H c a) (ho : ck_own c = true) : L.size ≤ a ∧ G a = 0 ∧ a < H.size := by
  unfold ck_tc at h
  obtain ⟨⟨k, n⟩, fs⟩ := c
  simp only [ck_own, Bool.or_eq_true, beq_iff_eq] at ho
  rcases ho with rfl | rfl
  · obtain ⟨h1, h2, vs, h3, -⟩ := h
    exact ⟨h1, h2, h3.lt⟩
  · obtain ⟨h1, h2, f, h3, -⟩ := h
    exact ⟨h1, h2, (Array.getElem?_eq_some_iff.mp h3).1⟩
theorem ck_tc.kept {c : ck_C} {a : Nat} (h : ck_tc D AC S tab L ρ G N H c a) (e : (c.1.1 = 0 ∨ c.1.1 = 1 ∨ ck_foc c) → H'[a]? = H[a]?) : ck_tc D AC S tab L ρ G N H' c a := by
  unfold ck_tc at h ⊢
  obtain ⟨⟨k, n⟩, fs⟩ := c
  match k, h, e with
  | 0, h, e => obtain ⟨h1, h2, vs, h3, h4⟩ := h; exact ⟨h1, h2, vs, h3.kept (e (Or.inl rfl)), h4⟩
  | 1, h, e => obtain ⟨h1, h2, f, h3, h4⟩ := h; exact ⟨h1, h2, f, by rw [e (Or.inr (Or.inl rfl))]; exact h3, h4⟩
  | 2, h, e => exact trivial
  | 3, h, e => obtain ⟨h1, h2, ci, ks, vs, h3, h4, h5⟩ := h; exact ⟨h1, h2, ci, ks, vs, h3, h4.kept (e (Or.inr (Or.inr (Or.inl rfl)))), h5⟩
  | 4, h, e => exact trivial
  | 5, h, e => exact h
  | 6, h, e => exact h
  | k + 7, h, e => obtain ⟨h1, h2, ac, n0, sg, f, h3, h4, h5, h6⟩ := h; exact ⟨h1, h2, ac, n0, sg, f, h3, by rw [e (Or.inr (Or.inr (Or.inr (Nat.le_add_left 7 k))))]; exact h4, h5, h6⟩
theorem ck_tc.foc {c : ck_C} {a : Nat} (h : ck_tc D AC S tab L ρ G N H c a) (hf : ck_foc c) : G a = c.1.2 ∧ c.1.2 ≠ 0 ∧ a < H.size := by
  obtain ⟨⟨k, n⟩, fs⟩ := c
  rcases hf with e | e
  · dsimp only at e
    subst e
    obtain ⟨h1, h2, ci, ks, vs, h3, h4, h5⟩ := h
    exact ⟨h1, h2, h4.lt⟩
  · obtain ⟨k', rfl⟩ : ∃ k', k = k' + 7 := ⟨k - 7, by dsimp only at e; omega⟩
    obtain ⟨h1, h2, ac, n0, sg, f, h3, h4, h5, h6⟩ := h
    exact ⟨h1, h2, (Array.getElem?_eq_some_iff.mp h4).1⟩
theorem ck_foc_of {c : ck_C} (hk : c.1.1 = 0 ∨ c.1.1 = 1 ∨ ck_foc c) (ho : ¬ ck_own c = true) : ck_foc c := by
  rcases hk with z | z | z
  · exact absurd (by simp [ck_own, z]) ho
  · exact absurd (by simp [ck_own, z]) ho
  · exact z
theorem ck_foc_own {c : ck_C} (hf : ck_foc c) : ck_own c = false := by
  obtain ⟨⟨k, n⟩, fs⟩ := c
  rcases hf with z | z
  · dsimp only at z
    subst z
    rfl
  · dsimp only at z
    obtain ⟨k', rfl⟩ : ∃ k', k = k' + 7 := ⟨k - 7, by omega⟩
    simp [ck_own]
/-- the same cells of other abstract contents, other ghosts, types, names -/
theorem ck_tc.mapV {ρ' : Nat → Int} {G' : Nat → Nat} {N' : List Nat} {c : ck_C} {a : Nat} (φ : ck_V → ck_V) (h : ck_tc D AC S tab L ρ G N H c a) (hG : ck_own c = true → G' a = G a) (hG3 : ck_foc c → G' a = G a) (hv : ∀ k v, k ∈ c.2 → ck_R S ρ G N k v → ck_R S ρ' G' N' (φ k) v) : ck_tc D AC S tab L ρ' G' N' H (c.1, c.2.map φ) a := by
  have hall : ∀ {vs : List Value}, ck_all (ck_R S ρ G N) c.2 vs → ck_all (ck_R S ρ' G' N') (c.2.map φ) vs := by
    intro vs h
    refine ⟨by simp [h.1], fun i x y hx hy => ?_⟩
    rw [List.getElem?_map] at hx
    obtain ⟨z, hz, rfl⟩ := Option.map_eq_some_iff.mp hx
    exact hv z y (List.mem_of_getElem? hz) (h.2 i z y hz hy)
  unfold ck_tc at h ⊢
  obtain ⟨⟨k, n⟩, fs⟩ := c
  match k, h, hG, hG3 with
  | 0, h, hG, _ => obtain ⟨h1, h2, vs, h3, h4⟩ := h; exact ⟨h1, by rw [hG rfl]; exact h2, vs, h3, hall h4⟩
  | 1, h, hG, _ =>
    obtain ⟨h1, h2, f, h3, h4⟩ := h
    refine ⟨h1, by rw [hG rfl]; exact h2, f, by simpa using h3, fun j v hj => ?_⟩
    simp only [List.getElem?_map] at hj
    obtain ⟨z, hz, rfl⟩ := Option.map_eq_some_iff.mp hj
    exact hv z _ (List.mem_of_getElem? hz) (h4 j z hz)
  | 2, h, _, _ => exact trivial
  | 3, h, _, hG => obtain ⟨h1, h2, ci, ks, vs, h3, h4, h5⟩ := h; exact ⟨by rw [hG (Or.inl rfl)]; exact h1, h2, ci, ks, vs, h3, h4, hall h5⟩
  | 4, h, _, _ => exact trivial
  | 5, h, _, _ =>
    obtain ⟨h1, cell, h2, h3, h4⟩ := h
    refine ⟨h1, cell, h2, h3, fun j v hj => ?_⟩
    simp only [List.getElem?_map] at hj
    obtain ⟨z, hz, rfl⟩ := Option.map_eq_some_iff.mp hj
    obtain ⟨w, g1, g2⟩ := h4 j z hz
    exact ⟨w, g1, hv z _ (List.mem_of_getElem? hz) g2⟩
  | 6, h, _, _ =>
    obtain ⟨h1, cell, h2, h3, h4⟩ := h
    refine ⟨h1, cell, h2, h3, fun j v hj => ?_⟩
    simp only [List.getElem?_map] at hj
    obtain ⟨z, hz, rfl⟩ := Option.map_eq_some_iff.mp hj
    obtain ⟨w, g1, g2⟩ := h4 j z hz
    exact ⟨w, g1, hv z _ (List.mem_of_getElem? hz) g2⟩
  | k + 7, h, _, hG =>
    obtain ⟨h1, h2, ac, n0, sg, f, h3, h4, h5, h6⟩ := h
    refine ⟨by rw [hG (Or.inr (Nat.le_add_left 7 k))]; exact h1, h2, ac, n0, sg, f, h3, h4, by simpa using h5, fun j v hj => ?_⟩
    simp only [List.getElem?_map] at hj
    obtain ⟨z, hz, rfl⟩ := Option.map_eq_some_iff.mp hj
    exact hv z _ (List.mem_of_getElem? hz) (h6 j z hz)
/-- a store into a cell of one's own -/
theorem ck_H.putOwn (h : ck_H D AC S tab L ρ G N T H) {i a : Nat} {c c' : ck_C} (hi : T[i]? = some c) (ha : N[i]? = some a) (ho : ck_own c = true) (ho' : ck_own c' = true) (hs : H'.size = H.size) (hq : ∀ q, q ≠ a → H'[q]? = H[q]?) (hc : ck_tc D AC S tab L ρ G N H' c' a) : ck_H D AC S tab L ρ G N (T.set i c') H' := by
  obtain ⟨⟨k1, k2, k3⟩, hlen, hT, hnd⟩ := h
  obtain ⟨a1, a2, a3⟩ := (hT i c a hi ha).own ho
  have hil : i < T.length := (List.getElem?_eq_some_iff.mp hi).1
  refine ⟨⟨by omega, fun q hl => by rw [hq q (by omega)]; exact k2 q hl, fun b hb => ⟨(k3 b hb).1, (k3 b hb).2.kept (hq b fun e => hb (by rw [e]; exact a2))⟩⟩, by simp [hlen], fun j d b hj hb => ?_, fun j1 j2 d1 d2 b h1 h2 o1 o2 n1 n2 => ?_⟩
  · by_cases e : i = j
    · subst e
      rw [List.getElem?_set_self hil] at hj
      cases hj
      cases ha.symm.trans hb
      exact hc
    · rw [List.getElem?_set_ne e] at hj
      refine (hT j d b hj hb).kept fun hk => hq b fun eb => ?_
      subst eb
      by_cases od : ck_own d = true
      · exact e (hnd i j c d b hi hj ho od ha hb)
      · have := (hT j d b hj hb).foc (ck_foc_of hk od)
        exact this.2.1 (this.1.symm.trans a2)
  · have f : ∀ (j : Nat) (d : ck_C), (T.set i c')[j]? = some d → ck_own d = true → ∃ d', T[j]? = some d' ∧ ck_own d' = true := by
      intro j d hd od
      by_cases e : i = j
      · subst e
        exact ⟨c, hi, ho⟩
      · rw [List.getElem?_set_ne e] at hd
        exact ⟨d, hd, od⟩
    obtain ⟨x1, y1, z1⟩ := f j1 d1 h1 o1
    obtain ⟨x2, y2, z2⟩ := f j2 d2 h2 o2
    exact hnd j1 j2 x1 x2 b y1 y2 z1 z2 n1 n2
/-- a store into a typed cell that no name of the kind (3, _) names -/
theorem ck_H.putTy (h : ck_H D AC S tab L ρ G N T H) {a : Nat} (hG : G a ≠ 0) (hs : H'.size = H.size) (hq : ∀ q, q ≠ a → H'[q]? = H[q]?) (hc : ck_ty D AC S tab G (G a) a H') (h3 : ∀ (i : Nat) (c : ck_C), T[i]? = some c → ck_foc c → N[i]? = some a → False) : ck_H D AC S tab L ρ G N T H' := by
  obtain ⟨⟨k1, k2, k3⟩, hlen, hT, hnd⟩ := h
  have a1 := (k3 a hG).1
  refine ⟨⟨by omega, fun q hl => by rw [hq q (by omega)]; exact k2 q hl, fun b hb => ⟨(k3 b hb).1, ?_⟩⟩, hlen, fun j d b hj hb => ?_, hnd⟩
  · by_cases e : b = a
    · subst e; exact hc
    · exact (k3 b hb).2.kept (hq b e)
  · refine (hT j d b hj hb).kept fun hk => hq b fun eb => ?_
    subst eb
    by_cases od : ck_own d = true
    · exact hG ((hT j d b hj hb).own od).2.1
    · exact h3 j d hj (ck_foc_of hk od) hb
/-- a store into a typed cell by its name -/
theorem ck_H.putFoc (h : ck_H D AC S tab L ρ G N T H) {i a τ : Nat} {hd : Nat × Nat} {fs fs' : List ck_V} (hfo : ck_foc (hd, fs)) (hτ : hd.2 = τ) (hi : T[i]? = some (hd, fs)) (ha : N[i]? = some a) (hs : H'.size = H.size) (hq : ∀ q, q ≠ a → H'[q]? = H[q]?) (hc : ck_ty D AC S tab G τ a H') (hn : ck_tc D AC S tab L ρ G N H' (hd, fs') a) (h3 : ∀ (j : Nat) (c : ck_C), j ≠ i → T[j]? = some c → ck_foc c → c.1.2 ≠ τ) : ck_H D AC S tab L ρ G N (T.set i (hd, fs')) H' := by
  obtain ⟨⟨k1, k2, k3⟩, hlen, hT, hnd⟩ := h
  obtain ⟨e1, e2, -⟩ := (hT i _ a hi ha).foc hfo
  dsimp only at e1 e2
  rw [hτ] at e1 e2
  have hil : i < T.length := (List.getElem?_eq_some_iff.mp hi).1
  have hG : G a ≠ 0 := by rw [e1]; exact e2
  have a1 := (k3 a hG).1
  have hfo' : ck_foc (hd, fs') := hfo
  refine ⟨⟨by omega, fun q hl => by rw [hq q (by omega)]; exact k2 q hl, fun b hb => ⟨(k3 b hb).1, ?_⟩⟩, by simp [hlen], fun j d b hj hb => ?_, fun j1 j2 d1 d2 b h1 h2 o1 o2 n1 n2 => ?_⟩
  · by_cases e : b = a
    · subst e; rw [e1]; exact hc
    · exact (k3 b hb).2.kept (hq b e)
  · by_cases e : i = j
    · subst e
      rw [List.getElem?_set_self hil] at hj
      cases hj
      cases ha.symm.trans hb
      exact hn
    · rw [List.getElem?_set_ne e] at hj
      refine (hT j d b hj hb).kept fun hk => hq b fun eb => ?_
      subst eb
      by_cases od : ck_own d = true
      · exact hG ((hT j d b hj hb).own od).2.1
      · have z := ck_foc_of hk od
        exact h3 j d (Ne.symm e) hj z (((hT j d b hj hb).foc z).1.symm.trans e1)
  · have f : ∀ (j : Nat) (d : ck_C), (T.set i (hd, fs'))[j]? = some d → ck_own d = true → T[j]? = some d := by
      intro j d hd ho
      by_cases e : i = j
      · subst e
        rw [List.getElem?_set_self hil] at hd
        cases hd
        rw [ck_foc_own hfo'] at ho
        cases ho
      · rw [List.getElem?_set_ne e] at hd
        exact hd
    exact hnd j1 j2 d1 d2 b (f j1 d1 h1 o1) (f j2 d2 h2 o2) o1 o2 n1 n2
theorem ck_H.zero (h : ck_H D AC S tab L ρ G N T H) {q : Nat} (hq : H.size ≤ q) : G q = 0 := by
  by_cases e : G q = 0
  · exact e
  · have := (h.1.2.2 q e).2.lt
    omega
theorem ck_H.named (h : ck_H D AC S tab L ρ G N T H) {i a : Nat} {c : ck_C} (hi : T[i]? = some c) (ha : N[i]? = some a) (hk : ck_own c = true ∨ ck_foc c) : a < H.size := by
  rcases hk with o | o
  · exact ((h.2.2.1 i c a hi ha).own o).2.2
  · exact ((h.2.2.1 i c a hi ha).foc o).2.2
/-- a new typed cell -/
theorem ck_H.newTy (h : ck_H D AC S tab L ρ G N T H) {τ : Nat} (hs : H'.size = H.size + 1) (hq : ∀ q, q < H.size → H'[q]? = H[q]?) (hc : ck_ty D AC S tab (ck_up G H.size τ) τ H.size H') : ck_H D AC S tab L ρ (ck_up G H.size τ) N T H' := by
  have hz : ∀ q, G q ≠ 0 → ck_up G H.size τ q = G q := fun q hne => by
    unfold ck_up
    rw [if_neg (fun e => hne (by rw [e]; exact h.zero (Nat.le_refl _)))]
  have hnm := @ck_H.named D AC S tab L ρ G N T H h
  obtain ⟨⟨k1, k2, k3⟩, hlen, hT, hnd⟩ := h
  refine ⟨⟨by omega, fun q hl => by rw [hq q (by omega)]; exact k2 q hl, fun b hb => ?_⟩, hlen, fun j d b hj hb => ?_, hnd⟩
  · by_cases e : b = H.size
    · subst e
      exact ⟨k1, by unfold ck_up at hc ⊢; rw [if_pos rfl]; exact hc⟩
    · have hb' : G b ≠ 0 := by unfold ck_up at hb; rwa [if_neg e] at hb
      have := k3 b hb'
      refine ⟨this.1, ?_⟩
      rw [hz b hb']
      exact (this.2.grow hz).kept (hq b this.2.lt)
  · have hh := hT j d b hj hb
    have key : ck_own d = true ∨ ck_foc d → b < H.size := fun hk => hnm hj hb hk
    have h1 : ck_tc D AC S tab L ρ (ck_up G H.size τ) N H d b := by
      have := hh.mapV (ρ' := ρ) (G' := ck_up G H.size τ) (N' := N) id (fun o => by unfold ck_up; rw [if_neg (by have := key (Or.inl o); omega)]) (fun o => by unfold ck_up; rw [if_neg (by have := key (Or.inr o); omega)]) (fun k v _ hv => hv.grow hz)
      simpa using this
    refine h1.kept fun hk => hq b (key ?_)
    rcases hk with z | z | z
    · exact Or.inl (by simp [ck_own, z])
    · exact Or.inl (by simp [ck_own, z])
    · exact Or.inr z
/-- names are added: what is said by the old ones stays -/
theorem ck_R.ext {k : ck_V} {v : Value} (h : ck_R S ρ G N k v) (M : List Nat) : ck_R S ρ G (N ++ M) k v := by
  match k, h with
  | .inl q, h => exact h
  | .inr (.inl q), h => exact h
  | .inr (.inr (0, _)), h => exact h
  | .inr (.inr (1, i)), h =>
    obtain ⟨a, h1, e⟩ := h
    exact ⟨a, by rw [List.getElem?_append_left (List.getElem?_eq_some_iff.mp h1).1]; exact h1, e⟩
  | .inr (.inr (2, τ)), h => exact h
  | .inr (.inr (3, j)), h => exact h
  | .inr (.inr (4, _)), h => exact h
  | .inr (.inr (n + 5, _)), h => exact h
theorem ck_tc.ext {c : ck_C} {a : Nat} (h : ck_tc D AC S tab L ρ G N H c a) (M : List Nat) : ck_tc D AC S tab L ρ G (N ++ M) H c a := by
  have := h.mapV (ρ' := ρ) (G' := G) (N' := N ++ M) id (fun _ => rfl) (fun _ => rfl) (fun k v _ hv => hv.ext M)
  simpa using this
/-- a new cell with a name -/
theorem ck_H.newNm (h : ck_H D AC S tab L ρ G N T H) {c : ck_C} (hs : H.size < H'.size) (hq : ∀ q, q < H.size → H'[q]? = H[q]?) (hc : ck_tc D AC S tab L ρ G (N ++ [H.size]) H' c H.size) : ck_H D AC S tab L ρ G (N ++ [H.size]) (T ++ [c]) H' := by
  have hnm := @ck_H.named D AC S tab L ρ G N T H h
  obtain ⟨⟨k1, k2, k3⟩, hlen, hT, hnd⟩ := h
  have split2 : ∀ (j : Nat) (d : ck_C) (b : Nat), (T ++ [c])[j]? = some d → (N ++ [H.size])[j]? = some b → (T[j]? = some d ∧ N[j]? = some b) ∨ (j = T.length ∧ d = c ∧ b = H.size) := by
    intro j d b hj hb
    by_cases e : j < T.length
    · rw [List.getElem?_append_left e] at hj
      rw [List.getElem?_append_left (by omega)] at hb
      exact Or.inl ⟨hj, hb⟩
    · rw [List.getElem?_append_right (by omega)] at hj
      rw [List.getElem?_append_right (by omega)] at hb
      have e0 : j - T.length = 0 := by
        have := (List.getElem?_eq_some_iff.mp hj).1
        simp at this
        omega
      rw [e0] at hj
      rw [show j - N.length = 0 by omega] at hb
      cases hj
      cases hb
      exact Or.inr ⟨by omega, rfl, rfl⟩
  refine ⟨⟨by omega, fun q hl => by rw [hq q (by omega)]; exact k2 q hl, fun b hb => ⟨(k3 b hb).1, (k3 b hb).2.kept (hq b (k3 b hb).2.lt)⟩⟩, by simp [hlen], fun j d b hj hb => ?_, fun j1 j2 d1 d2 b h1 h2 o1 o2 n1 n2 => ?_⟩
  · rcases split2 j d b hj hb with ⟨x1, x2⟩ | ⟨-, rfl, rfl⟩
    · refine ((hT j d b x1 x2).ext _).kept fun hk => hq b (hnm x1 x2 ?_)
      rcases hk with z | z | z
      · exact Or.inl (by simp [ck_own, z])
      · exact Or.inl (by simp [ck_own, z])
      · exact Or.inr z
    · exact hc
  · rcases split2 j1 d1 b h1 n1 with ⟨x1, x2⟩ | ⟨x1, rfl, x3⟩ <;> rcases split2 j2 d2 b h2 n2 with ⟨y1, y2⟩ | ⟨y1, rfl, y3⟩
    · exact hnd j1 j2 d1 d2 b x1 y1 o1 o2 x2 y2
    · have := hnm x1 x2 (Or.inl o1)
      omega
    · have := hnm y1 y2 (Or.inl o2)
      omega
    · omega
end CKH
end
section
/-! ===== the frame's side; instructions that leave the heap alone ===== -/
/-- an old cell that stays as it is: of no type and no name, or of a type that isn't written -/
def ck_ks (wr : List Nat) (G0 : Nat → Nat) (N0 : List Nat) (q : Nat) : Prop := (G0 q = 0 ∧ q ∉ N0) ∨ (G0 q ≠ 0 ∧ G0 q ∉ wr)
/-- since the method began (G0, N0, H0): old types stay, old cells without a type or a name stay -/
def ck_F (wr : List Nat) (G0 : Nat → Nat) (N0 : List Nat) (H0 : Heap) (G : Nat → Nat) (N : List Nat) (T : List ck_C) (H : Heap) : Prop :=
  H0.size ≤ H.size ∧ (∀ q, q < H0.size → G q = G0 q) ∧ (∀ q, q < H0.size → ck_ks wr G0 N0 q → H[q]? = H0[q]?) ∧ N0.length ≤ N.length ∧ (∀ i, i < N0.length → N[i]? = N0[i]?) ∧
  ∀ (i : Nat) (c : ck_C) (a : Nat), T[i]? = some c → N[i]? = some a → ck_own c = true → N0.length ≤ i → H0.size ≤ a
abbrev ck_A : Type := List (Nat × ck_V) × List ck_V × List ck_C
abbrev ck_RL (S : Nat → Nat) (ρ : Nat → Int) (G : Nat → Nat) (N : List Nat) : Nat × ck_V → Nat × Value → Prop := fun q w => q.1 = w.1 ∧ ck_R S ρ G N q.2 w.2
def ck_st (D : va_G) (AC : Nat → ClassId) (S : Nat → Nat) (tab : List ck_D) (L : Heap) (nL : Nat) (ρ0 : Nat → Int) (wr : List Nat) (G0 : Nat → Nat) (N0 : List Nat) (H0 : Heap) (A : ck_A) (H : Heap) (ls : Array Slot) (st : List Value) (locs : List Loc) : Prop :=
  ∃ (ρ : Nat → Int) (G : Nat → Nat) (N : List Nat) (lv : List (Nat × Value)), lv_has ls nL lv ∧ ck_all (ck_RL S ρ G N) A.1 lv ∧ ck_all (ck_R S ρ G N) A.2.1 st ∧ ck_H D AC S tab L ρ G N A.2.2 H ∧ ck_F wr G0 N0 H0 G N A.2.2 H ∧ (∀ q ∈ locs, L.size ≤ q.base) ∧ ∀ g, 100 ≤ g → g < 200 → ρ g = ρ0 g
section CKW
variable {p : Program} {l : Launch} {e : Env} {R : Room} {s : State} {m : MethodId} {args : Array Value} {below : List Frame} {meth : Method} {c : Code} {cells slots : Nat} {Q : State → Prop}
variable {cc : ByteArray} {pc pc2 nL : Nat} {D : va_G} {AC : Nat → ClassId} {S : Nat → Nat} {tab : List ck_D} {L : Heap} {ρ0 : Nat → Int} {wr : List Nat} {G0 : Nat → Nat} {N0 : List Nat} {H0 : Heap}
/-- from every state that an abstract one describes, the method comes to its end -/
def ck_W (p : Program) (l : Launch) (e : Env) (R : Room) (s : State) (m : MethodId) (args : Array Value) (below : List Frame) (meth : Method) (c : Code) (Q : State → Prop) (D : va_G) (AC : Nat → ClassId) (S : Nat → Nat) (tab : List ck_D) (L : Heap) (nL : Nat) (ρ0 : Nat → Int) (wr : List Nat) (G0 : Nat → Nat) (N0 : List Nat) (H0 : Heap) (pc : Nat) (A : ck_A) (cells slots : Nat) : Prop :=
  ∀ (H : Heap) (ls : Array Slot) (st : List Value) (locs : List Loc), ck_st D AC S tab L nL ρ0 wr G0 N0 H0 A H ls st locs → W p l e R s m args below meth c H locs cells slots Q (F0 m pc ls st)
variable {A : List (Nat × ck_V)} {st : List ck_V} {T : List ck_C}
theorem cw_pushI (n : Int) (v : Int32) (hn : v.toInt = n) (row : ∀ {H : Heap} {ls : Array Slot} {rest : List Value} {locs : List Loc}, W p l e R s m args below meth c H locs cells slots Q (F0 m pc2 ls (.int v :: rest)) → W p l e R s m args below meth c H locs cells slots Q (F0 m pc ls rest))
    (k : ck_W p l e R s m args below meth c Q D AC S tab L nL ρ0 wr G0 N0 H0 pc2 (A, .inl (n, n, none) :: st, T) cells slots) : ck_W p l e R s m args below meth c Q D AC S tab L nL ρ0 wr G0 N0 H0 pc (A, st, T) cells slots := by
  intro H ls vs locs h
  obtain ⟨ρ, G, N, lv, h1, h2, h3, h4, h5, h6, h7⟩ := h
  exact row (k H ls _ locs ⟨ρ, G, N, lv, h1, h2, ck_all.cons ⟨v, rfl, by rw [hn]; exact Int.le_refl _, by rw [hn]; exact Int.le_refl _, fun g c q => by cases q⟩ h3, h4, h5, h6, h7⟩)
theorem cw_pushJ (n : Int) (v : Int64) (hn : v.toInt = n) (row : ∀ {H : Heap} {ls : Array Slot} {rest : List Value} {locs : List Loc}, W p l e R s m args below meth c H locs cells slots Q (F0 m pc2 ls (.long v :: rest)) → W p l e R s m args below meth c H locs cells slots Q (F0 m pc ls rest))
    (k : ck_W p l e R s m args below meth c Q D AC S tab L nL ρ0 wr G0 N0 H0 pc2 (A, .inr (.inl (n, n)) :: st, T) cells slots) : ck_W p l e R s m args below meth c Q D AC S tab L nL ρ0 wr G0 N0 H0 pc (A, st, T) cells slots := by
  intro H ls vs locs h
  obtain ⟨ρ, G, N, lv, h1, h2, h3, h4, h5, h6, h7⟩ := h
  exact row (k H ls _ locs ⟨ρ, G, N, lv, h1, h2, ck_all.cons ⟨v, rfl, by rw [hn]; exact Int.le_refl _, by rw [hn]; exact Int.le_refl _⟩ h3, h4, h5, h6, h7⟩)
/-- reading a local -/
def ck_loc : List (Nat × ck_V) → Nat → Option ck_V
  | [], _ => none
  | (i, v) :: t, j => if i == j then some v else ck_loc t j
theorem ck_loc_ok {S : Nat → Nat} {ρ : Nat → Int} {G : Nat → Nat} {N : List Nat} : ∀ {A : List (Nat × ck_V)} {lv : List (Nat × Value)} {i : Nat} {k : ck_V}, ck_all (ck_RL S ρ G N) A lv → ck_loc A i = some k → ∃ (j : Nat) (v : Value), lv[j]? = some (i, v) ∧ ck_R S ρ G N k v
  | [], _, _, _, _, h => by cases h
  | (i0, k0) :: t, lv, i, k, ha, h => by
    obtain ⟨⟨i1, v1⟩, m', rfl, h1, h2⟩ := ha.uncons
    unfold ck_loc at h
    split at h
    · rename_i hi
      cases h
      have e : i0 = i := by simpa using hi
      exact ⟨0, v1, by rw [← e, show i0 = i1 from h1.1]; rfl, h1.2⟩
    · obtain ⟨j, v, g1, g2⟩ := ck_loc_ok h2 h
      exact ⟨j + 1, v, by simpa using g1, g2⟩
theorem cw_load {i : Nat} {k : ck_V} (hk : ck_loc A i = some k) (row : ∀ {H : Heap} {ls : Array Slot} {rest : List Value} {locs : List Loc} {ρ : Nat → Int} {G : Nat → Nat} {N : List Nat} {v : Value}, ls[i]? = some (.val v) → ck_R S ρ G N k v → W p l e R s m args below meth c H locs cells slots Q (F0 m pc2 ls (v :: rest)) → W p l e R s m args below meth c H locs cells slots Q (F0 m pc ls rest))
    (kk : ck_W p l e R s m args below meth c Q D AC S tab L nL ρ0 wr G0 N0 H0 pc2 (A, k :: st, T) cells slots) : ck_W p l e R s m args below meth c Q D AC S tab L nL ρ0 wr G0 N0 H0 pc (A, st, T) cells slots := by
  intro H ls vs locs h
  obtain ⟨ρ, G, N, lv, h1, h2, h3, h4, h5, h6, h7⟩ := h
  obtain ⟨j, v, g1, g2⟩ := ck_loc_ok h2 hk
  exact row (lv_at h1 j g1) g2 (kk H ls _ locs ⟨ρ, G, N, lv, h1, h2, ck_all.cons g2 h3, h4, h5, h6, h7⟩)
/-- writing a local -/
def ck_lng : ck_V → Bool
  | .inr (.inl _) => true
  | _ => false
def ck_kn : ck_V → Bool
  | .inr (.inr (n, _)) => n < 5
  | _ => true
theorem ck_cat {S : Nat → Nat} {ρ : Nat → Int} {G : Nat → Nat} {N : List Nat} {k : ck_V} {v : Value} (h : ck_R S ρ G N k v) (hk : ck_kn k = true) : (v.category == 2) = ck_lng k := by
  match k, h, hk with
  | .inl q, h, _ => obtain ⟨x, rfl, -⟩ := h; rfl
  | .inr (.inl q), h, _ => obtain ⟨x, rfl, -⟩ := h; rfl
  | .inr (.inr (0, _)), h, _ => cases h; rfl
  | .inr (.inr (1, i)), h, _ => obtain ⟨a, -, rfl⟩ := h; rfl
  | .inr (.inr (2, τ)), h, _ => obtain ⟨a, rfl, -⟩ := h; rfl
  | .inr (.inr (3, j)), h, _ => cases h; rfl
  | .inr (.inr (4, _)), h, _ => obtain ⟨a, rfl⟩ := h; rfl
  | .inr (.inr (n + 5, _)), _, hk => simp [ck_kn] at hk; omega
def ck_s1 (A : List (Nat × ck_V)) (i : Nat) (k : ck_V) : List (Nat × ck_V) := (i, k) :: A.filter (fun q => !(q.1 == i) && !(q.1 + 1 == i && ck_lng q.2))
def ck_s2 (A : List (Nat × ck_V)) (i : Nat) (k : ck_V) : List (Nat × ck_V) := (i, k) :: A.filter (fun q => !(q.1 == i) && (!(q.1 == i + 1) && !(q.1 + 1 == i && ck_lng q.2)))
theorem ck_filter {S : Nat → Nat} {ρ : Nat → Int} {G : Nat → Nat} {N : List Nat} (f : Nat × ck_V → Bool) (g : Nat × Value → Bool) (hfg : ∀ q w, ck_RL S ρ G N q w → ck_kn q.2 = true → f q = g w) : ∀ {A : List (Nat × ck_V)} {lv : List (Nat × Value)}, ck_all (ck_RL S ρ G N) A lv → A.all (fun q => ck_kn q.2) = true → ck_all (ck_RL S ρ G N) (A.filter f) (lv.filter g)
  | [], lv, h, _ => by
    have : lv = [] := by
      have := h.1
      cases lv with
      | nil => rfl
      | cons a b => simp at this
    subst this
    exact ck_all.nil
  | q :: t, lv, h, hk => by
    obtain ⟨w, lv', rfl, h1, h2⟩ := h.uncons
    simp only [List.all_cons, Bool.and_eq_true] at hk
    have ih := ck_filter f g hfg h2 hk.2
    have e := hfg q w h1 hk.1
    rw [List.filter_cons, List.filter_cons, e]
    split
    · exact ck_all.cons h1 ih
    · exact ih
theorem cw_store1 {i : Nat} {k : ck_V} (hk : ck_lng k = false) (hkn : A.all (fun q => ck_kn q.2) = true) (hn : i < nL)
    (row : ∀ {H : Heap} {ls : Array Slot} {rest : List Value} {locs : List Loc} {ρ : Nat → Int} {G : Nat → Nat} {N : List Nat} {v : Value} {lv : List (Nat × Value)}, ck_R S ρ G N k v → lv_has ls nL lv → (∀ ls' : Array Slot, lv_has ls' nL ((i, v) :: lv.filter (fun q => !(q.1 == i) && !(q.1 + 1 == i && q.2.category == 2))) → W p l e R s m args below meth c H locs cells slots Q (F0 m pc2 ls' rest)) → W p l e R s m args below meth c H locs cells slots Q (F0 m pc ls (v :: rest)))
    (kk : ck_W p l e R s m args below meth c Q D AC S tab L nL ρ0 wr G0 N0 H0 pc2 (ck_s1 A i k, st, T) cells slots) : ck_W p l e R s m args below meth c Q D AC S tab L nL ρ0 wr G0 N0 H0 pc (A, k :: st, T) cells slots := by
  intro H ls vs locs h
  obtain ⟨ρ, G, N, lv, h1, h2, h3, h4, h5, h6, h7⟩ := h
  obtain ⟨v, vs', rfl, g1, g2⟩ := h3.uncons
  refine row g1 h1 fun ls' hl' => kk H ls' vs' locs ⟨ρ, G, N, _, hl', ck_all.cons ⟨rfl, g1⟩ (ck_filter _ _ (fun q w hq hkq => ?_) h2 hkn), g2, h4, h5, h6, h7⟩
  rw [← ck_cat hq.2 hkq, hq.1]
theorem cw_store2 {i : Nat} {k : ck_V} (hkn : A.all (fun q => ck_kn q.2) = true) (hn : i + 1 < nL)
    (row : ∀ {H : Heap} {ls : Array Slot} {rest : List Value} {locs : List Loc} {ρ : Nat → Int} {G : Nat → Nat} {N : List Nat} {v : Value} {lv : List (Nat × Value)}, ck_R S ρ G N k v → lv_has ls nL lv → (∀ ls' : Array Slot, lv_has ls' nL ((i, v) :: lv.filter (fun q => !(q.1 == i) && (!(q.1 == i + 1) && !(q.1 + 1 == i && q.2.category == 2)))) → W p l e R s m args below meth c H locs cells slots Q (F0 m pc2 ls' rest)) → W p l e R s m args below meth c H locs cells slots Q (F0 m pc ls (v :: rest)))
    (kk : ck_W p l e R s m args below meth c Q D AC S tab L nL ρ0 wr G0 N0 H0 pc2 (ck_s2 A i k, st, T) cells slots) : ck_W p l e R s m args below meth c Q D AC S tab L nL ρ0 wr G0 N0 H0 pc (A, k :: st, T) cells slots := by
  intro H ls vs locs h
  obtain ⟨ρ, G, N, lv, h1, h2, h3, h4, h5, h6, h7⟩ := h
  obtain ⟨v, vs', rfl, g1, g2⟩ := h3.uncons
  refine row g1 h1 fun ls' hl' => kk H ls' vs' locs ⟨ρ, G, N, _, hl', ck_all.cons ⟨rfl, g1⟩ (ck_filter _ _ (fun q w hq hkq => ?_) h2 hkn), g2, h4, h5, h6, h7⟩
  rw [← ck_cat hq.2 hkq, hq.1]
/-- two ints from the stack, one int comes -/
theorem cw_op2 {a b : ck_Q} {r : ck_V} {f : Int32 → Int32 → Int32} (hf : ∀ ρ x y, ck_in ρ a x → ck_in ρ b y → ck_isI ρ r (f x y))
    (row : ∀ {H : Heap} {ls : Array Slot} {rest : List Value} {locs : List Loc} {x y : Int32} {ρ : Nat → Int}, ck_in ρ a x → ck_in ρ b y → W p l e R s m args below meth c H locs cells slots Q (F0 m pc2 ls (.int (f x y) :: rest)) → W p l e R s m args below meth c H locs cells slots Q (F0 m pc ls (.int y :: .int x :: rest)))
    (kk : ck_W p l e R s m args below meth c Q D AC S tab L nL ρ0 wr G0 N0 H0 pc2 (A, r :: st, T) cells slots) : ck_W p l e R s m args below meth c Q D AC S tab L nL ρ0 wr G0 N0 H0 pc (A, .inl b :: .inl a :: st, T) cells slots := by
  intro H ls vs locs h
  obtain ⟨ρ, G, N, lv, h1, h2, h3, h4, h5, h6, h7⟩ := h
  obtain ⟨_, vs', rfl, ⟨y, rfl, gy⟩, g2⟩ := h3.uncons
  obtain ⟨_, vs'', rfl, ⟨x, rfl, gx⟩, g3⟩ := g2.uncons
  obtain ⟨q, rfl, hq⟩ := hf ρ x y gx gy
  exact row gx gy (kk H ls _ locs ⟨ρ, G, N, lv, h1, h2, ck_all.cons ⟨_, rfl, hq⟩ g3, h4, h5, h6, h7⟩)
theorem ck_i64 (x : Int64) : -9223372036854775808 ≤ x.toInt ∧ x.toInt ≤ 9223372036854775807 := by
  have h1 := Int64.minValue_le_toInt x
  have h2 := Int64.toInt_lt x
  exact ⟨by simpa using h1, by omega⟩
/-- a long comes of two values: any long -/
theorem cw_opJ {a b : ck_V} {r : Int × Int} {f : Value → Value → Int64} (hf : ∀ S ρ G N v w, ck_R S ρ G N a v → ck_R S ρ G N b w → r.1 ≤ (f v w).toInt ∧ (f v w).toInt ≤ r.2)
    (row : ∀ {H : Heap} {ls : Array Slot} {rest : List Value} {locs : List Loc} {v w : Value} {S : Nat → Nat} {ρ : Nat → Int} {G : Nat → Nat} {N : List Nat}, ck_R S ρ G N a v → ck_R S ρ G N b w → W p l e R s m args below meth c H locs cells slots Q (F0 m pc2 ls (.long (f v w) :: rest)) → W p l e R s m args below meth c H locs cells slots Q (F0 m pc ls (w :: v :: rest)))
    (kk : ck_W p l e R s m args below meth c Q D AC S tab L nL ρ0 wr G0 N0 H0 pc2 (A, .inr (.inl r) :: st, T) cells slots) : ck_W p l e R s m args below meth c Q D AC S tab L nL ρ0 wr G0 N0 H0 pc (A, b :: a :: st, T) cells slots := by
  intro H ls vs locs h
  obtain ⟨ρ, G, N, lv, h1, h2, h3, h4, h5, h6, h7⟩ := h
  obtain ⟨w, vs', rfl, gw, g2⟩ := h3.uncons
  obtain ⟨v, vs'', rfl, gv, g3⟩ := g2.uncons
  have := hf S ρ G N v w gv gw
  exact row gv gw (kk H ls _ locs ⟨ρ, G, N, lv, h1, h2, ck_all.cons ⟨_, rfl, this.1, this.2⟩ g3, h4, h5, h6, h7⟩)
/-- a value comes of one -/
theorem cw_op1 {a r : ck_V} {f : Value → Value} (hf : ∀ ρ G N v, ck_R S ρ G N a v → ck_R S ρ G N r (f v))
    (row : ∀ {H : Heap} {ls : Array Slot} {rest : List Value} {locs : List Loc} {v : Value} {ρ : Nat → Int} {G : Nat → Nat} {N : List Nat}, ck_R S ρ G N a v → W p l e R s m args below meth c H locs cells slots Q (F0 m pc2 ls (f v :: rest)) → W p l e R s m args below meth c H locs cells slots Q (F0 m pc ls (v :: rest)))
    (kk : ck_W p l e R s m args below meth c Q D AC S tab L nL ρ0 wr G0 N0 H0 pc2 (A, r :: st, T) cells slots) : ck_W p l e R s m args below meth c Q D AC S tab L nL ρ0 wr G0 N0 H0 pc (A, a :: st, T) cells slots := by
  intro H ls vs locs h
  obtain ⟨ρ, G, N, lv, h1, h2, h3, h4, h5, h6, h7⟩ := h
  obtain ⟨v, vs', rfl, gv, g2⟩ := h3.uncons
  exact row gv (kk H ls _ locs ⟨ρ, G, N, lv, h1, h2, ck_all.cons (hf ρ G N v gv) g2, h4, h5, h6, h7⟩)
/-- the stack is changed about -/
theorem cw_stk {st st' : List ck_V} (f : List Value → List Value) (hf : ∀ (S : Nat → Nat) (ρ : Nat → Int) (G : Nat → Nat) (N : List Nat) (vs : List Value), ck_all (ck_R S ρ G N) st vs → ck_all (ck_R S ρ G N) st' (f vs))
    (row : ∀ {H : Heap} {ls : Array Slot} {locs : List Loc} {vs : List Value} {S : Nat → Nat} {ρ : Nat → Int} {G : Nat → Nat} {N : List Nat}, ck_all (ck_R S ρ G N) st vs → W p l e R s m args below meth c H locs cells slots Q (F0 m pc2 ls (f vs)) → W p l e R s m args below meth c H locs cells slots Q (F0 m pc ls vs))
    (kk : ck_W p l e R s m args below meth c Q D AC S tab L nL ρ0 wr G0 N0 H0 pc2 (A, st', T) cells slots) : ck_W p l e R s m args below meth c Q D AC S tab L nL ρ0 wr G0 N0 H0 pc (A, st, T) cells slots := by
  intro H ls vs locs h
  obtain ⟨ρ, G, N, lv, h1, h2, h3, h4, h5, h6, h7⟩ := h
  exact row h3 (kk H ls _ locs ⟨ρ, G, N, lv, h1, h2, hf S ρ G N vs h3, h4, h5, h6, h7⟩)
/-! a ghost's bounds are drawn tighter everywhere -/
def ck_tg (g : Nat) (lo hi : Int) : ck_V → ck_V
  | .inl (a, b, some (h, k)) => if g == h then .inl (ck_max a (lo + k), ck_min b (hi + k), some (h, k)) else .inl (a, b, some (h, k))
  | x => x
theorem ck_tg_ok {g : Nat} {lo hi : Int} {S : Nat → Nat} {ρ : Nat → Int} {G : Nat → Nat} {N : List Nat} {k : ck_V} {v : Value} (h1 : lo ≤ ρ g) (h2 : ρ g ≤ hi) (h : ck_R S ρ G N k v) : ck_R S ρ G N (ck_tg g lo hi k) v := by
  match k, h with
  | .inl (a, b, none), h => exact h
  | .inl (a, b, some (q, k)), h =>
    show ck_R S ρ G N (if g == q then .inl (ck_max a (lo + k), ck_min b (hi + k), some (q, k)) else .inl (a, b, some (q, k))) v
    by_cases hg : (g == q) = true
    · rw [if_pos hg]
      have hg : g = q := by simpa using hg
      subst hg
      obtain ⟨x, e, x1, x2, x3⟩ := h
      have := x3 g k rfl
      dsimp only at x1 x2
      exact ⟨x, e, ck_max_le x1 (by omega), ck_le_min x2 (by omega), x3⟩
    · rw [if_neg hg]
      exact h
  | .inr z, h => exact h
def ck_tgA (g : Nat) (lo hi : Int) (A : ck_A) : ck_A := (A.1.map (fun q => (q.1, ck_tg g lo hi q.2)), A.2.1.map (ck_tg g lo hi), A.2.2.map (fun c => (c.1, c.2.map (ck_tg g lo hi))))
theorem ck_all.map {α β : Type} {P Q : α → β → Prop} {l : List α} {m : List β} (f : α → α) (h : ck_all P l m) (hh : ∀ a b, P a b → Q (f a) b) : ck_all Q (l.map f) m := by
  refine ⟨by simp [h.1], fun i x y hx hy => ?_⟩
  rw [List.getElem?_map] at hx
  obtain ⟨z, hz, rfl⟩ := Option.map_eq_some_iff.mp hx
  exact hh z y (h.2 i z y hz hy)
/-- the heap's side, with other abstract contents of the same cells -/
theorem ck_H.mapV {ρ ρ' : Nat → Int} {G : Nat → Nat} {N : List Nat} {T : List ck_C} {H : Heap} (φ : ck_V → ck_V) (h : ck_H D AC S tab L ρ G N T H) (hv : ∀ k v, ck_R S ρ G N k v → ck_R S ρ' G N (φ k) v) : ck_H D AC S tab L ρ' G N (T.map (fun c => (c.1, c.2.map φ))) H := by
  obtain ⟨h1, h2, h3, h4⟩ := h
  have inv : ∀ (i : Nat) (c : ck_C), (T.map (fun c => ((c.1, c.2.map φ) : ck_C)))[i]? = some c → ∃ d, T[i]? = some d ∧ c = (d.1, d.2.map φ) := by
    intro i c hc
    rw [List.getElem?_map] at hc
    obtain ⟨d, hd, rfl⟩ := Option.map_eq_some_iff.mp hc
    exact ⟨d, hd, rfl⟩
  refine ⟨h1, by simp [h2], fun i c a hc ha => ?_, fun i j c d a hc hd o1 o2 n1 n2 => ?_⟩
  · obtain ⟨d, hd, rfl⟩ := inv i c hc
    exact (h3 i d a hd ha).mapV φ (fun _ => rfl) (fun _ => rfl) (fun k v _ hkv => hv k v hkv)
  · obtain ⟨c', hc', rfl⟩ := inv i c hc
    obtain ⟨d', hd', rfl⟩ := inv j d hd
    exact h4 i j c' d' a hc' hd' o1 o2 n1 n2
theorem ck_F.mapV {wr : List Nat} {G0 G : Nat → Nat} {N0 N : List Nat} {T : List ck_C} {H0 H : Heap} (φ : ck_V → ck_V) (h : ck_F wr G0 N0 H0 G N T H) : ck_F wr G0 N0 H0 G N (T.map (fun c => (c.1, c.2.map φ))) H := by
  obtain ⟨h1, h2, h3, h4, h5, h6⟩ := h
  refine ⟨h1, h2, h3, h4, h5, fun i c a hc ha ho hi => ?_⟩
  rw [List.getElem?_map] at hc
  obtain ⟨d, hd, rfl⟩ := Option.map_eq_some_iff.mp hc
  exact h6 i d a hd ha ho hi
end CKW
end
section
/-! ===== branches, iinc, goto, switch ===== -/
def ck_tgO (t : Option (Nat × Int)) (lo hi : Int) (A : ck_A) : ck_A := match t with
  | some (g, c) => ck_tgA g (lo - c) (hi - c) A
  | none => A
section CKB
variable {p : Program} {l : Launch} {e : Env} {R : Room} {s : State} {m : MethodId} {args : Array Value} {below : List Frame} {meth : Method} {c : Code} {cells slots : Nat} {Q : State → Prop}
variable {cc : ByteArray} {pc pc2 nL : Nat} {D : va_G} {AC : Nat → ClassId} {S : Nat → Nat} {tab : List ck_D} {L : Heap} {ρ0 : Nat → Int} {wr : List Nat} {G0 : Nat → Nat} {N0 : List Nat} {H0 : Heap}
variable {A : List (Nat × ck_V)} {st : List ck_V} {T : List ck_C}
/-- an abstract state, with its ghosts, types and names shown -/
def ck_sx (D : va_G) (AC : Nat → ClassId) (S : Nat → Nat) (tab : List ck_D) (L : Heap) (nL : Nat) (ρ0 : Nat → Int) (wr : List Nat) (G0 : Nat → Nat) (N0 : List Nat) (H0 : Heap) (A : ck_A) (H : Heap) (ls : Array Slot) (st : List Value) (locs : List Loc) (ρ : Nat → Int) (G : Nat → Nat) (N : List Nat) : Prop :=
  ∃ lv : List (Nat × Value), lv_has ls nL lv ∧ ck_all (ck_RL S ρ G N) A.1 lv ∧ ck_all (ck_R S ρ G N) A.2.1 st ∧ ck_H D AC S tab L ρ G N A.2.2 H ∧ ck_F wr G0 N0 H0 G N A.2.2 H ∧ (∀ q ∈ locs, L.size ≤ q.base) ∧ ∀ g, 100 ≤ g → g < 200 → ρ g = ρ0 g
theorem ck_sx.out {A : ck_A} {H : Heap} {ls : Array Slot} {st : List Value} {locs : List Loc} {ρ : Nat → Int} {G : Nat → Nat} {N : List Nat} (h : ck_sx D AC S tab L nL ρ0 wr G0 N0 H0 A H ls st locs ρ G N) : ck_st D AC S tab L nL ρ0 wr G0 N0 H0 A H ls st locs := ⟨ρ, G, N, h⟩
theorem ck_sx.tg {A : ck_A} {H : Heap} {ls : Array Slot} {st : List Value} {locs : List Loc} {ρ : Nat → Int} {G : Nat → Nat} {N : List Nat} (h : ck_sx D AC S tab L nL ρ0 wr G0 N0 H0 A H ls st locs ρ G N) {g : Nat} {lo hi : Int} (h1 : lo ≤ ρ g) (h2 : ρ g ≤ hi) : ck_sx D AC S tab L nL ρ0 wr G0 N0 H0 (ck_tgA g lo hi A) H ls st locs ρ G N := by
  obtain ⟨lv, a1, a2, a3, a4, a5, a6, a7⟩ := h
  exact ⟨lv, a1, a2.map _ (fun q w hq => ⟨hq.1, ck_tg_ok h1 h2 hq.2⟩), a3.map _ (fun q w hq => ck_tg_ok h1 h2 hq), a4.mapV _ (fun k v hk => ck_tg_ok h1 h2 hk), a5.mapV _, a6, a7⟩
theorem ck_sx.tgO {A : ck_A} {H : Heap} {ls : Array Slot} {st : List Value} {locs : List Loc} {ρ : Nat → Int} {G : Nat → Nat} {N : List Nat} (h : ck_sx D AC S tab L nL ρ0 wr G0 N0 H0 A H ls st locs ρ G N) {q : ck_Q} {x : Int32} (hq : ck_in ρ q x) {lo hi : Int} (h1 : lo ≤ x.toInt) (h2 : x.toInt ≤ hi) : ck_sx D AC S tab L nL ρ0 wr G0 N0 H0 (ck_tgO q.2.2 lo hi A) H ls st locs ρ G N := by
  unfold ck_tgO
  split
  · rename_i g c hg
    have := hq.2.2 g c hg
    exact h.tg (by omega) (by omega)
  · exact h
/-- two ints are compared -/
theorem cw_cmp (k : ClassFile.Cond) {a b : ck_Q} {tgt : Nat}
    (row : ∀ {H : Heap} {ls : Array Slot} {rest : List Value} {locs : List Loc} {x y : Int32}, (ck_hold k x.toInt y.toInt → W p l e R s m args below meth c H locs cells slots Q (F0 m tgt ls rest)) → (¬ ck_hold k x.toInt y.toInt → W p l e R s m args below meth c H locs cells slots Q (F0 m pc2 ls rest)) → W p l e R s m args below meth c H locs cells slots Q (F0 m pc ls (.int y :: .int x :: rest)))
    (kt : ∀ r, ck_ref k (a.1, a.2.1) (b.1, b.2.1) = some r → ck_W p l e R s m args below meth c Q D AC S tab L nL ρ0 wr G0 N0 H0 tgt (ck_tgO b.2.2 r.2.1 r.2.2 (ck_tgO a.2.2 r.1.1 r.1.2 (A, st, T))) cells slots)
    (kf : ∀ r, ck_ref (ck_neg k) (a.1, a.2.1) (b.1, b.2.1) = some r → ck_W p l e R s m args below meth c Q D AC S tab L nL ρ0 wr G0 N0 H0 pc2 (ck_tgO b.2.2 r.2.1 r.2.2 (ck_tgO a.2.2 r.1.1 r.1.2 (A, st, T))) cells slots) :
    ck_W p l e R s m args below meth c Q D AC S tab L nL ρ0 wr G0 N0 H0 pc (A, .inl b :: .inl a :: st, T) cells slots := by
  intro H ls vs locs h
  obtain ⟨ρ, G, N, lv, h1, h2, h3, h4, h5, h6, h7⟩ := h
  obtain ⟨_, vs', rfl, ⟨y, rfl, gy⟩, g2⟩ := h3.uncons
  obtain ⟨_, vs'', rfl, ⟨x, rfl, gx⟩, g3⟩ := g2.uncons
  have hsx : ck_sx D AC S tab L nL ρ0 wr G0 N0 H0 (A, st, T) H ls vs'' locs ρ G N := ⟨lv, h1, h2, g3, h4, h5, h6, h7⟩
  refine row (fun hk => ?_) (fun hk => ?_)
  · obtain ⟨r, hr, r1, r2, r3, r4⟩ := ck_ref_ok (x := (a.1, a.2.1)) (y := (b.1, b.2.1)) hk gx.1 gx.2.1 gy.1 gy.2.1
    exact kt r hr H ls vs'' locs ((hsx.tgO gx r1 r2).tgO gy r3 r4).out
  · obtain ⟨r, hr, r1, r2, r3, r4⟩ := ck_ref_ok (x := (a.1, a.2.1)) (y := (b.1, b.2.1)) (ck_neg_ok hk) gx.1 gx.2.1 gy.1 gy.2.1
    exact kf r hr H ls vs'' locs ((hsx.tgO gx r1 r2).tgO gy r3 r4).out
/-- an int is compared with 0 -/
theorem cw_if (k : ClassFile.Cond) {a : ck_Q} {tgt : Nat}
    (row : ∀ {H : Heap} {ls : Array Slot} {rest : List Value} {locs : List Loc} {x : Int32}, (ck_hold k x.toInt 0 → W p l e R s m args below meth c H locs cells slots Q (F0 m tgt ls rest)) → (¬ ck_hold k x.toInt 0 → W p l e R s m args below meth c H locs cells slots Q (F0 m pc2 ls rest)) → W p l e R s m args below meth c H locs cells slots Q (F0 m pc ls (.int x :: rest)))
    (kt : ∀ r, ck_ref k (a.1, a.2.1) (0, 0) = some r → ck_W p l e R s m args below meth c Q D AC S tab L nL ρ0 wr G0 N0 H0 tgt (ck_tgO a.2.2 r.1.1 r.1.2 (A, st, T)) cells slots)
    (kf : ∀ r, ck_ref (ck_neg k) (a.1, a.2.1) (0, 0) = some r → ck_W p l e R s m args below meth c Q D AC S tab L nL ρ0 wr G0 N0 H0 pc2 (ck_tgO a.2.2 r.1.1 r.1.2 (A, st, T)) cells slots) :
    ck_W p l e R s m args below meth c Q D AC S tab L nL ρ0 wr G0 N0 H0 pc (A, .inl a :: st, T) cells slots := by
  intro H ls vs locs h
  obtain ⟨ρ, G, N, lv, h1, h2, h3, h4, h5, h6, h7⟩ := h
  obtain ⟨_, vs'', rfl, ⟨x, rfl, gx⟩, g3⟩ := h3.uncons
  have hsx : ck_sx D AC S tab L nL ρ0 wr G0 N0 H0 (A, st, T) H ls vs'' locs ρ G N := ⟨lv, h1, h2, g3, h4, h5, h6, h7⟩
  refine row (fun hk => ?_) (fun hk => ?_)
  · obtain ⟨r, hr, r1, r2, -⟩ := ck_ref_ok (x := (a.1, a.2.1)) (y := (0, 0)) hk gx.1 gx.2.1 (Int.le_refl _) (Int.le_refl _)
    exact kt r hr H ls vs'' locs (hsx.tgO gx r1 r2).out
  · obtain ⟨r, hr, r1, r2, -⟩ := ck_ref_ok (x := (a.1, a.2.1)) (y := (0, 0)) (ck_neg_ok hk) gx.1 gx.2.1 (Int.le_refl _) (Int.le_refl _)
    exact kf r hr H ls vs'' locs (hsx.tgO gx r1 r2).out
theorem cw_icmp (hexec : p.tables.exec = Jvm.exec) (hb : c.code = cc) {k : ClassFile.Cond} {a b : ck_Q} {tgt : Nat} {off : Int} (hd : decode cc pc = .ok (.if_icmp k off, 3)) (ht : (pc : Int) + off = (tgt : Int))
    (kt : ∀ r, ck_ref k (a.1, a.2.1) (b.1, b.2.1) = some r → ck_W p l e R s m args below meth c Q D AC S tab L nL ρ0 wr G0 N0 H0 tgt (ck_tgO b.2.2 r.2.1 r.2.2 (ck_tgO a.2.2 r.1.1 r.1.2 (A, st, T))) cells slots)
    (kf : ∀ r, ck_ref (ck_neg k) (a.1, a.2.1) (b.1, b.2.1) = some r → ck_W p l e R s m args below meth c Q D AC S tab L nL ρ0 wr G0 N0 H0 (pc + 3) (ck_tgO b.2.2 r.2.1 r.2.2 (ck_tgO a.2.2 r.1.1 r.1.2 (A, st, T))) cells slots) :
    ck_W p l e R s m args below meth c Q D AC S tab L nL ρ0 wr G0 N0 H0 pc (A, .inl b :: .inl a :: st, T) cells slots := by
  refine cw_cmp k (fun w1 w2 => ?_) kt kf
  cases k with
  | eq => exact lv_icmp_eq hexec hb hd ht (fun h => w1 (by rw [h]; rfl)) (fun h => w2 (fun q => h (Int32.toInt_inj.mp q)))
  | ne => exact lv_icmp_ne hexec hb hd ht (fun h => w1 (fun q => h (Int32.toInt_inj.mp q))) (fun h => w2 (fun q => q (by rw [h])))
  | lt => exact lv_icmp_lt hexec hb hd ht (fun h => w1 (Int32.lt_iff_toInt_lt.mp h)) (fun h => w2 (fun q => h (Int32.lt_iff_toInt_lt.mpr q)))
  | ge => exact lv_icmp_ge hexec hb hd ht (fun h => w1 (Int32.le_iff_toInt_le.mp h)) (fun h => w2 (fun q => h (Int32.le_iff_toInt_le.mpr q)))
  | gt => exact lv_icmp_gt hexec hb hd ht (fun h => w1 (Int32.lt_iff_toInt_lt.mp h)) (fun h => w2 (fun q => h (Int32.lt_iff_toInt_lt.mpr q)))
  | le => exact lv_icmp_le hexec hb hd ht (fun h => w1 (Int32.le_iff_toInt_le.mp h)) (fun h => w2 (fun q => h (Int32.le_iff_toInt_le.mpr q)))
theorem cw_ifc (hexec : p.tables.exec = Jvm.exec) (hb : c.code = cc) {k : ClassFile.Cond} {a : ck_Q} {tgt : Nat} {off : Int} (hd : decode cc pc = .ok (.ifCond k off, 3)) (ht : (pc : Int) + off = (tgt : Int))
    (kt : ∀ r, ck_ref k (a.1, a.2.1) (0, 0) = some r → ck_W p l e R s m args below meth c Q D AC S tab L nL ρ0 wr G0 N0 H0 tgt (ck_tgO a.2.2 r.1.1 r.1.2 (A, st, T)) cells slots)
    (kf : ∀ r, ck_ref (ck_neg k) (a.1, a.2.1) (0, 0) = some r → ck_W p l e R s m args below meth c Q D AC S tab L nL ρ0 wr G0 N0 H0 (pc + 3) (ck_tgO a.2.2 r.1.1 r.1.2 (A, st, T)) cells slots) :
    ck_W p l e R s m args below meth c Q D AC S tab L nL ρ0 wr G0 N0 H0 pc (A, .inl a :: st, T) cells slots := by
  refine cw_if k (fun w1 w2 => ?_) kt kf
  have z : (0 : Int32).toInt = 0 := rfl
  cases k with
  | eq => exact lv_if_eq hexec hb hd ht (fun h => w1 (by rw [h]; rfl)) (fun h => w2 (fun q => h (Int32.toInt_inj.mp q)))
  | ne => exact lv_if_ne hexec hb hd ht (fun h => w1 (fun q => h (Int32.toInt_inj.mp q))) (fun h => w2 (fun q => q (by rw [h]; rfl)))
  | lt => exact lv_if_lt hexec hb hd ht (fun h => w1 (Int32.lt_iff_toInt_lt.mp h)) (fun h => w2 (fun q => h (Int32.lt_iff_toInt_lt.mpr q)))
  | ge => exact lv_if_ge hexec hb hd ht (fun h => w1 (Int32.le_iff_toInt_le.mp h)) (fun h => w2 (fun q => h (Int32.le_iff_toInt_le.mpr q)))
  | gt => exact lv_if_gt hexec hb hd ht (fun h => w1 (Int32.lt_iff_toInt_lt.mp h)) (fun h => w2 (fun q => h (Int32.lt_iff_toInt_lt.mpr q)))
  | le => exact lv_if_le hexec hb hd ht (fun h => w1 (Int32.le_iff_toInt_le.mp h)) (fun h => w2 (fun q => h (Int32.le_iff_toInt_le.mpr q)))
theorem cw_goto (hexec : p.tables.exec = Jvm.exec) (hb : c.code = cc) {tgt : Nat} {off : Int} (hd : decode cc pc = .ok (.goto off, 3)) (ht : (pc : Int) + off = (tgt : Int))
    (k : ck_W p l e R s m args below meth c Q D AC S tab L nL ρ0 wr G0 N0 H0 tgt (A, st, T) cells slots) : ck_W p l e R s m args below meth c Q D AC S tab L nL ρ0 wr G0 N0 H0 pc (A, st, T) cells slots :=
  fun H ls vs locs h => lv_goto hexec hb hd ht (k H ls vs locs h)
theorem cw_iinc (hexec : p.tables.exec = Jvm.exec) (hb : c.code = cc) {i : Nat} {n : Int} {q : ck_Q} (hd : decode cc pc = .ok (.iinc i n, 3)) (hq : ck_loc A i = some (.inl q)) (hn : i < nL) (hkn : A.all (fun q => ck_kn q.2) = true) (hr : (Int32.ofInt n).toInt = n)
    (kk : ck_W p l e R s m args below meth c Q D AC S tab L nL ρ0 wr G0 N0 H0 (pc + 3) (ck_s1 A i (ck_add q (n, n, none)), st, T) cells slots) : ck_W p l e R s m args below meth c Q D AC S tab L nL ρ0 wr G0 N0 H0 pc (A, st, T) cells slots := by
  intro H ls vs locs h
  obtain ⟨ρ, G, N, lv, h1, h2, h3, h4, h5, h6, h7⟩ := h
  obtain ⟨j, v, g1, ⟨x, rfl, gx⟩⟩ := ck_loc_ok h2 hq
  have hc : ck_in ρ (n, n, none) (Int32.ofInt n) := ⟨by dsimp only; omega, by dsimp only; omega, fun g c q => by cases q⟩
  obtain ⟨q', e', hq'⟩ := ck_add_ok gx hc
  refine lv_iinc hexec hb hd h1 g1 rfl hn rfl fun ls' hl' => kk H ls' vs locs ⟨ρ, G, N, _, hl', ck_all.cons ⟨rfl, by dsimp only; rw [e']; exact ⟨_, rfl, hq'⟩⟩ (ck_filter _ _ (fun q w hq hkq => ?_) h2 hkn), h3, h4, h5, h6, h7⟩
  rw [← ck_cat hq.2 hkq, hq.1]
/-- a switch: the targets of every number that can come, and the last one where another can -/
theorem cw_table (hexec : p.tables.exec = Jvm.exec) (hb : c.code = cc) {a : ck_Q} {dflt lo hi : Int} {offs : Array Int} {len : Nat} (hd : decode cc pc = .ok (.tableswitch dflt lo hi offs, len)) {td : Nat} (htd : (pc : Int) + dflt = (td : Int)) (tg : Nat → Nat)
    (htg : ∀ i : Nat, i < (hi - lo + 1).toNat → ∃ off, offs[i]? = some off ∧ (pc : Int) + off = (tg i : Int))
    (kin : ∀ i : Nat, i < (hi - lo + 1).toNat → a.1 ≤ lo + i → lo + i ≤ a.2.1 → ck_W p l e R s m args below meth c Q D AC S tab L nL ρ0 wr G0 N0 H0 (tg i) (A, st, T) cells slots)
    (kout : (a.1 < lo ∨ hi < a.2.1) → ck_W p l e R s m args below meth c Q D AC S tab L nL ρ0 wr G0 N0 H0 td (A, st, T) cells slots) :
    ck_W p l e R s m args below meth c Q D AC S tab L nL ρ0 wr G0 N0 H0 pc (A, .inl a :: st, T) cells slots := by
  intro H ls vs locs h
  obtain ⟨ρ, G, N, lv, h1, h2, h3, h4, h5, h6, h7⟩ := h
  obtain ⟨_, vs', rfl, ⟨x, rfl, gx⟩, g2⟩ := h3.uncons
  have hst : ck_st D AC S tab L nL ρ0 wr G0 N0 H0 (A, st, T) H ls vs' locs := ⟨ρ, G, N, lv, h1, h2, g2, h4, h5, h6, h7⟩
  obtain ⟨x1, x2, -⟩ := gx
  by_cases hlo : x.toInt < lo
  · exact lv_tableOut hexec hb hd (Or.inl hlo) htd (kout (Or.inl (by omega)) H ls vs' locs hst)
  · by_cases hhi : hi < x.toInt
    · exact lv_tableOut hexec hb hd (Or.inr hhi) htd (kout (Or.inr (by omega)) H ls vs' locs hst)
    · obtain ⟨off, o1, o2⟩ := htg (x.toInt - lo).toNat (by omega)
      exact lv_tableIn hexec hb hd hlo hhi o1 o2 (kin (x.toInt - lo).toNat (by omega) (by omega) (by omega) H ls vs' locs hst)
end CKB
end
section
/-! ===== fields ===== -/
def ck_tys (AC : Nat → ClassId) : List (ClassId × FieldType) := [(AC 0, .int), (AC 1, .long), (AC 2, .boolean), (AC 3, .object "RatchetDesk$Secret"), (AC 4, .object "RatchetDesk$Person"), (AC 5, .object "RatchetDesk$End"), (AC 6, .object "RatchetDesk$Letter"), (AC 7, .array .int)]
def ck_fit : FieldType → ck_V → Bool
  | .int, .inl _ => true
  | .boolean, .inl (lo, hi, _) => decide (0 ≤ lo) && decide (hi ≤ 1)
  | .long, .inr (.inl _) => true
  | .object _, .inr (.inr (n, _)) => n < 5
  | .array _, .inr (.inr (n, _)) => n < 5
  | _, _ => false
theorem ck_isRef {S : Nat → Nat} {ρ : Nat → Int} {G : Nat → Nat} {N : List Nat} {n k : Nat} {v : Value} (h : ck_R S ρ G N (.inr (.inr (n, k))) v) (hn : n < 5) : v = .null ∨ ∃ a, v = .ref a := by
  match n, h, hn with
  | 0, h, _ => exact Or.inl h
  | 1, h, _ => obtain ⟨a, -, h⟩ := h; exact Or.inr ⟨a, h⟩
  | 2, h, _ => obtain ⟨a, h, -⟩ := h; exact Or.inr ⟨a, h⟩
  | 3, h, _ => exact Or.inr ⟨_, h⟩
  | 4, h, _ => obtain ⟨a, h⟩ := h; exact Or.inr ⟨a, h⟩
theorem ck_bool {x : Int32} (h1 : 0 ≤ x.toInt) (h2 : x.toInt ≤ 1) : x = 0 ∨ x = 1 := by
  by_cases h : x.toInt = 0
  · exact Or.inl (Int32.toInt_inj.mp h)
  · exact Or.inr (Int32.toInt_inj.mp (show x.toInt = 1 by omega))
theorem ck_fit_ok {S : Nat → Nat} {ρ : Nat → Int} {G : Nat → Nat} {N : List Nat} {ty : FieldType} {k : ck_V} {v : Value} (hf : ck_fit ty k = true) (h : ck_R S ρ G N k v) : narrow ty v = v ∧ fits ty v = true := by
  match ty, k, hf, h with
  | .int, .inl _, _, h => obtain ⟨x, rfl, -⟩ := h; exact ⟨rfl, rfl⟩
  | .boolean, .inl (lo, hi, t), hf, h =>
    obtain ⟨x, rfl, x1, x2, -⟩ := h
    simp only [ck_fit, Bool.and_eq_true, decide_eq_true_eq] at hf
    dsimp only at x1 x2
    rcases ck_bool (x := x) (by omega) (by omega) with rfl | rfl <;> exact ⟨rfl, rfl⟩
  | .long, .inr (.inl _), _, h => obtain ⟨x, rfl, -⟩ := h; exact ⟨rfl, rfl⟩
  | .object C, .inr (.inr (n, j)), hf, h =>
    simp only [ck_fit, decide_eq_true_eq] at hf
    rcases ck_isRef h hf with rfl | ⟨a, rfl⟩ <;> exact ⟨rfl, rfl⟩
  | .array C, .inr (.inr (n, j)), hf, h =>
    simp only [ck_fit, decide_eq_true_eq] at hf
    rcases ck_isRef h hf with rfl | ⟨a, rfl⟩ <;> exact ⟨rfl, rfl⟩
  | .int, .inr _, hf, _ => cases hf
  | .boolean, .inr _, hf, _ => cases hf
  | .long, .inl _, hf, _ => cases hf
  | .long, .inr (.inr _), hf, _ => cases hf
  | .object _, .inl _, hf, _ => cases hf
  | .object _, .inr (.inl _), hf, _ => cases hf
  | .array _, .inl _, hf, _ => cases hf
  | .array _, .inr (.inl _), hf, _ => cases hf
  | .byte, _, hf, _ => cases hf
  | .char, _, hf, _ => cases hf
  | .short, _, hf, _ => cases hf
  | .float, _, hf, _ => cases hf
  | .double, _, hf, _ => cases hf
theorem ck_F.put {wr : List Nat} {G0 G : Nat → Nat} {N0 N : List Nat} {T T' : List ck_C} {H0 H H' : Heap} {a : Nat} (hF : ck_F wr G0 N0 H0 G N T H) (hs : H'.size = H.size) (hq : ∀ q, q ≠ a → H'[q]? = H[q]?) (ha : (G a ≠ 0 ∧ G a ∈ wr) ∨ (G a = 0 ∧ ∃ (i : Nat) (c : ck_C), T[i]? = some c ∧ N[i]? = some a ∧ ck_own c = true)) (hT : ∀ (i : Nat) (c : ck_C), T'[i]? = some c → ck_own c = true → ∃ c', T[i]? = some c' ∧ ck_own c' = true) : ck_F wr G0 N0 H0 G N T' H' := by
  obtain ⟨h1, h2, h3, h4, h5, h6⟩ := hF
  refine ⟨by omega, h2, fun q hl hz => ?_, h4, h5, fun i c b hc hb ho hi => ?_⟩
  · rw [hq q fun e => ?_]
    · exact h3 q hl hz
    · subst e
      rcases ha with ⟨g, gw⟩ | ⟨g0, i, c, c1, c2, c3⟩
      · rcases hz with ⟨z, -⟩ | ⟨-, z⟩
        · exact g (by rw [h2 q hl]; exact z)
        · exact z (by rw [← h2 q hl]; exact gw)
      · rcases hz with ⟨-, hn⟩ | ⟨z, -⟩
        · by_cases hi : i < N0.length
          · rw [h5 i hi] at c2
            exact hn (List.mem_of_getElem? c2)
          · have := h6 i c q c1 c2 c3 (by omega)
            omega
        · exact z (by rw [← h2 q hl]; exact g0)
  · obtain ⟨c', e1, e2⟩ := hT i c hc ho
    exact h6 i c' b e1 hb e2 hi
theorem ck_set_own {T : List ck_C} {i : Nat} {c : ck_C} (hc : ∃ c', T[i]? = some c' ∧ (ck_own c = true → ck_own c' = true)) : ∀ (j : Nat) (d : ck_C), (T.set i c)[j]? = some d → ck_own d = true → ∃ d', T[j]? = some d' ∧ ck_own d' = true := by
  intro j d hd ho
  obtain ⟨c', e1, e2⟩ := hc
  by_cases e : i = j
  · subst e
    rw [List.getElem?_set_self (List.getElem?_eq_some_iff.mp e1).1] at hd
    cases hd
    exact ⟨c', e1, e2 ho⟩
  · rw [List.getElem?_set_ne e] at hd
    exact ⟨d, hd, ho⟩
section CKG
variable {p : Program} {l : Launch} {e : Env} {R : Room} {s : State} {m : MethodId} {args : Array Value} {below : List Frame} {meth : Method} {c : Code} {cells slots : Nat} {Q : State → Prop}
variable {cc : ByteArray} {pc pc2 nL : Nat} {D : va_G} {AC : Nat → ClassId} {S : Nat → Nat} {tab : List ck_D} {L : Heap} {ρ0 : Nat → Int} {wr : List Nat} {G0 : Nat → Nat} {N0 : List Nat} {H0 : Heap}
variable {A : List (Nat × ck_V)} {st : List ck_V} {T : List ck_C} {own : String}
/-- a class's field by its link -/
def ck_lnk (own : String) (idx ci k : Nat) : Prop := ∃ (C : String) (T : u_T) (n : Nat), ck_cl[ci]? = some (C, T, n) ∧ k < n ∧ Cond.fieldLink own idx C (T k).2.1 (T k).2.2.1 ∈ ck_tb
theorem cw_get0 (hexec : p.tables.exec = Jvm.exec) (hb : c.code = cc) (hown : s.vm.findClass own = some m.cls) (hK : va_K D ck_cl (ck_tys AC) s) (hts : ∀ w ∈ ck_tb, w.before args s = true) {H : Heap} {locs : List Loc} {ls : Array Slot} {rest : List Value} {idx ci k a : Nat} {vs : List Value} {v : Value} (hlk : ck_lnk own idx ci k) (hob : ck_ob D ci a H vs) (hv : vs[k]? = some v) (hd : decode cc pc = .ok (.getfield idx, 3))
    (kk : W p l e R s m args below meth c H locs cells slots Q (F0 m (pc + 3) ls (v :: rest))) : W p l e R s m args below meth c H locs cells slots Q (F0 m pc ls (.ref a :: rest)) := by
  obtain ⟨C, T, n, hc, hk, hl⟩ := hlk
  obtain ⟨C', T', hc', hob⟩ := hob
  cases hc.symm.trans hc'
  obtain ⟨w1, w2, w3, w4, w5, w6⟩ := ck_cls hc
  refine va_get (ws := [(a, .inr (ci, vs))]) hexec hb hts w1 hown hK ?_ 0 rfl hc k hk (hts _ hl) (fun x h => by rw [w4 k hk] at h; exact h) hv hd kk
  intro j q hj
  match j, hj with
  | 0, hj => cases hj; exact ⟨_, hc, hob⟩
theorem cw_put0 (hexec : p.tables.exec = Jvm.exec) (hb : c.code = cc) (hown : s.vm.findClass own = some m.cls) (hK : va_K D ck_cl (ck_tys AC) s) (hts : ∀ w ∈ ck_tb, w.before args s = true) {H : Heap} {locs : List Loc} {ls : Array Slot} {rest : List Value} {idx ci k a : Nat} {vs : List Value} {v : Value} (hlk : ck_lnk own idx ci k) (hob : ck_ob D ci a H vs)
    (hfin : ∀ C T n, ck_cl[ci]? = some (C, T, n) → (T k).2.2.2 = false ∨ (own = C ∧ meth.name = "<init>")) (hn : narrow (ck_yy ci k) v = v) (hfit : fits (ck_yy ci k) v = true) (hd : decode cc pc = .ok (.putfield idx, 3))
    (kk : ∀ (H' : Heap) (j : Nat), ck_ob D ci a H' (vs.set k v) → H'.size = H.size → (∀ q, q ≠ a → H'[q]? = H[q]?) → W p l e R s m args below meth c H' (locs ++ [⟨a, j⟩]) cells slots Q (F0 m (pc + 3) ls rest)) : W p l e R s m args below meth c H locs cells slots Q (F0 m pc ls (v :: .ref a :: rest)) := by
  obtain ⟨C, T, n, hc, hk, hl⟩ := hlk
  obtain ⟨C', T', hc', hob⟩ := hob
  cases hc.symm.trans hc'
  obtain ⟨w1, w2, w3, w4, w5, w6⟩ := ck_cls hc
  have hap := va_apart (own := own) hts w1 (ck_yy ci) w2 w3 hK hc
  obtain ⟨cell, q1, q2, q3, q4⟩ := hob
  obtain ⟨hS, hfc, kC, hkC, hkind⟩ := hK.1 ci _ hc
  obtain ⟨cf, kf, fi, f, hi, hsl⟩ := hS k hk
  have hlay := hts _ (w1 _ (u_in_lay hk))
  have hst := (u_facts hfc hkC (u_lays hts w1 hk) hi).1
  have hi' : s.fieldFound? C (T k).2.1 (T k).2.2.1 = some (cf, kf, fi, f) := by have := hi; rw [w4 k hk] at this; exact this
  have out : ∀ H' : Heap, H'[a]? = some (cell.setSlot f.slot v) → H'.size = H.size → (∀ q, q ≠ a → H'[q]? = H[q]?) → W p l e R s m args below meth c H' (locs ++ [⟨a, f.slot⟩]) cells slots Q (F0 m (pc + 3) ls rest) := by
    intro H' e1 e2 e3
    rw [hsl] at e1
    exact kk H' f.slot ⟨C, T, by rw [List.length_set]; exact hc, by rw [List.length_set]; exact t_OB.to (V := updV (vp_V vs) k v) ⟨_, e1, q2, q3, t_set q4 hap hk v⟩ (fun j _ => vp_updV_set hk v j)⟩ e2 e3
  rcases hfin C T _ hc with hnf | ⟨ho, hin⟩
  · unfold u_lay at hlay
    rw [if_neg (by rw [hnf]; decide)] at hlay
    have h6 := u_store hfc hkC hkind hlay hi (w2 k hk) hn hfit
    exact W.putK hexec hb (f := f) ⟨hown, hts _ hl, ⟨_, _, _, hi'⟩, hst⟩ (by rw [q2]; exact h6) q1 q3 (by rw [hsl]; exact k2_hasslot (q4 k hk)) rfl rfl hd out
  · by_cases hnf : (T k).2.2.2 = true
    · unfold u_lay at hlay
      rw [if_pos hnf] at hlay
      have hcf : m.cls = cf := by
        obtain ⟨_, _, c', _, _, _, -, -, hf', -, -, -, hown2, -⟩ := Cond.laysFinal_spec hlay
        have e1 : c' = cf := by have := hi.symm.trans hf'; simp at this; exact this.1.symm
        rw [w4 k hk, ← ho] at hown2
        rw [← e1]; exact Option.some.inj (hown.symm.trans hown2)
      have h6 := u_fits hfc hkC hkind (Or.inr hlay) hi (w2 k hk) hn hfit
      exact W.putFinK hexec hb hown (hts _ hl) hi' hst hcf hin (by rw [q2]; exact h6) q1 q3 (by rw [hsl]; exact k2_hasslot (q4 k hk)) rfl rfl hd out
    · have hnf : (T k).2.2.2 = false := by simpa using hnf
      unfold u_lay at hlay
      rw [if_neg (by rw [hnf]; decide)] at hlay
      have h6 := u_store hfc hkC hkind hlay hi (w2 k hk) hn hfit
      exact W.putK hexec hb (f := f) ⟨hown, hts _ hl, ⟨_, _, _, hi'⟩, hst⟩ (by rw [q2]; exact h6) q1 q3 (by rw [hsl]; exact k2_hasslot (q4 k hk)) rfl rfl hd out
/-- of a named object -/
theorem cw_getNm (hexec : p.tables.exec = Jvm.exec) (hb : c.code = cc) (hown : s.vm.findClass own = some m.cls) (hK : va_K D ck_cl (ck_tys AC) s) (hts : ∀ w ∈ ck_tb, w.before args s = true) {idx ci k i : Nat} {fs : List ck_V} {v : ck_V} {h : Nat × Nat} (hh : h = (0, ci) ∨ ∃ τ ks, h = (3, τ) ∧ tab[τ]? = some (.inr (ci, ks))) (hlk : ck_lnk own idx ci k) (hi : T[i]? = some (h, fs)) (hv : fs[k]? = some v) (hd : decode cc pc = .ok (.getfield idx, 3))
    (kk : ck_W p l e R s m args below meth c Q D AC S tab L nL ρ0 wr G0 N0 H0 (pc + 3) (A, v :: st, T) cells slots) : ck_W p l e R s m args below meth c Q D AC S tab L nL ρ0 wr G0 N0 H0 pc (A, .inr (.inr (1, i)) :: st, T) cells slots := by
  intro H ls vs locs h
  obtain ⟨ρ, G, N, lv, h1, h2, h3, h4, h5, h6, h7⟩ := h
  obtain ⟨_, vs', rfl, ⟨a, ha, rfl⟩, g2⟩ := h3.uncons
  have ht := h4.2.2.1 i _ a hi ha
  have key : ∃ ws : List Value, ck_ob D ci a H ws ∧ ck_all (ck_R S ρ G N) fs ws := by
    unfold ck_tc at ht
    rcases hh with rfl | ⟨τ, ks, rfl, hτ⟩
    · obtain ⟨-, -, ws, z1, z2⟩ := ht
      exact ⟨ws, z1, z2⟩
    · obtain ⟨-, -, ci', ks', ws, z0, z1, z2⟩ := ht
      cases hτ.symm.trans z0
      exact ⟨ws, z1, z2⟩
  obtain ⟨ws, z1, z2⟩ := key
  obtain ⟨w, y1, y2⟩ := z2.get hv
  exact cw_get0 hexec hb hown hK hts hlk z1 y1 hd (kk H ls _ locs ⟨ρ, G, N, lv, h1, h2, ck_all.cons y2 g2, h4, h5, h6, h7⟩)
/-- of a typed object -/
theorem cw_getTy (hexec : p.tables.exec = Jvm.exec) (hb : c.code = cc) (hown : s.vm.findClass own = some m.cls) (hK : va_K D ck_cl (ck_tys AC) s) (hts : ∀ w ∈ ck_tb, w.before args s = true) {idx ci k τ : Nat} {ks : List ck_V} {v : ck_V} (hτ : tab[τ]? = some (.inr (ci, ks))) (hlk : ck_lnk own idx ci k) (hv : ks[k]? = some v) (hp : ck_plain v = true) (hd : decode cc pc = .ok (.getfield idx, 3))
    (kk : ck_W p l e R s m args below meth c Q D AC S tab L nL ρ0 wr G0 N0 H0 (pc + 3) (A, v :: st, T) cells slots) : ck_W p l e R s m args below meth c Q D AC S tab L nL ρ0 wr G0 N0 H0 pc (A, .inr (.inr (2, τ)) :: st, T) cells slots := by
  intro H ls vs locs h
  obtain ⟨ρ, G, N, lv, h1, h2, h3, h4, h5, h6, h7⟩ := h
  obtain ⟨_, vs', rfl, ⟨a, rfl, ha, hz⟩, g2⟩ := h3.uncons
  have ht := (h4.1.2.2 a (by rw [ha]; exact hz)).2
  rw [ha] at ht
  unfold ck_ty at ht
  rw [hτ] at ht
  obtain ⟨ws, z1, z2⟩ := ht
  obtain ⟨w, y1, y2⟩ := z2.get hv
  exact cw_get0 hexec hb hown hK hts hlk z1 y1 hd (kk H ls _ locs ⟨ρ, G, N, lv, h1, h2, ck_all.cons (y2.plain hp) g2, h4, h5, h6, h7⟩)
/-- into an object of one's own -/
theorem cw_putOwn (hexec : p.tables.exec = Jvm.exec) (hb : c.code = cc) (hown : s.vm.findClass own = some m.cls) (hK : va_K D ck_cl (ck_tys AC) s) (hts : ∀ w ∈ ck_tb, w.before args s = true) {idx ci k i : Nat} {fs : List ck_V} {v : ck_V} (hlk : ck_lnk own idx ci k) (hi : T[i]? = some ((0, ci), fs))
    (hfin : ∀ C T n, ck_cl[ci]? = some (C, T, n) → (T k).2.2.2 = false ∨ (own = C ∧ meth.name = "<init>")) (hf : ck_fit (ck_yy ci k) v = true) (hd : decode cc pc = .ok (.putfield idx, 3))
    (kk : ck_W p l e R s m args below meth c Q D AC S tab L nL ρ0 wr G0 N0 H0 (pc + 3) (A, st, T.set i ((0, ci), fs.set k v)) cells slots) : ck_W p l e R s m args below meth c Q D AC S tab L nL ρ0 wr G0 N0 H0 pc (A, v :: .inr (.inr (1, i)) :: st, T) cells slots := by
  intro H ls vs locs h
  obtain ⟨ρ, G, N, lv, h1, h2, h3, h4, h5, h6, h7⟩ := h
  obtain ⟨w, vs', rfl, hw, g2⟩ := h3.uncons
  obtain ⟨_, vs'', rfl, ⟨a, ha, rfl⟩, g3⟩ := g2.uncons
  obtain ⟨f1, f2⟩ := ck_fit_ok hf hw
  have ht := h4.2.2.1 i _ a hi ha
  obtain ⟨l1, l2, ws, z1, z2⟩ := ht
  refine cw_put0 hexec hb hown hK hts hlk z1 hfin f1 f2 hd fun H' j o1 o2 o3 => kk H' ls vs'' _ ⟨ρ, G, N, lv, h1, h2, g3, ?_, ?_, ?_, h7⟩
  · exact h4.putOwn hi ha rfl rfl o2 o3 ⟨l1, l2, _, o1, z2.set k hw⟩
  · exact h5.put o2 o3 (Or.inr ⟨l2, i, _, hi, ha, rfl⟩) (ck_set_own ⟨_, hi, fun _ => rfl⟩)
  · intro q hq
    rcases List.mem_append.mp hq with z | z
    · exact h6 q z
    · rw [List.mem_singleton.mp z]; exact l1
/-- into a typed object by its name -/
theorem cw_putFoc (hexec : p.tables.exec = Jvm.exec) (hb : c.code = cc) (hown : s.vm.findClass own = some m.cls) (hK : va_K D ck_cl (ck_tys AC) s) (hts : ∀ w ∈ ck_tb, w.before args s = true) {idx ci k i τ : Nat} {fs ks : List ck_V} {v kd : ck_V} (hτ : tab[τ]? = some (.inr (ci, ks))) (hlk : ck_lnk own idx ci k) (hi : T[i]? = some ((3, τ), fs)) (hkd : ks[k]? = some kd) (hle : ck_le v kd = true) (hpl : ck_plain kd = true)
    (hfin : ∀ C T n, ck_cl[ci]? = some (C, T, n) → (T k).2.2.2 = false ∨ (own = C ∧ meth.name = "<init>")) (hf : ck_fit (ck_yy ci k) v = true) (hwr : τ ∈ wr) (hno : ∀ (j : Nat) (d : ck_C), j ≠ i → T[j]? = some d → ck_foc d → d.1.2 ≠ τ) (hd : decode cc pc = .ok (.putfield idx, 3))
    (kk : ck_W p l e R s m args below meth c Q D AC S tab L nL ρ0 wr G0 N0 H0 (pc + 3) (A, st, T.set i ((3, τ), fs.set k v)) cells slots) : ck_W p l e R s m args below meth c Q D AC S tab L nL ρ0 wr G0 N0 H0 pc (A, v :: .inr (.inr (1, i)) :: st, T) cells slots := by
  intro H ls vs locs h
  obtain ⟨ρ, G, N, lv, h1, h2, h3, h4, h5, h6, h7⟩ := h
  obtain ⟨w, vs', rfl, hw, g2⟩ := h3.uncons
  obtain ⟨_, vs'', rfl, ⟨a, ha, rfl⟩, g3⟩ := g2.uncons
  obtain ⟨f1, f2⟩ := ck_fit_ok hf hw
  obtain ⟨t1, t2, ci', ks', ws, z0, z1, z2⟩ := h4.2.2.1 i _ a hi ha
  cases hτ.symm.trans z0
  have hG : G a ≠ 0 := by rw [t1]; exact t2
  have hty := h4.1.2.2 a hG
  rw [t1] at hty
  obtain ⟨l1, hty⟩ := hty
  unfold ck_ty at hty
  rw [hτ] at hty
  obtain ⟨ws', y1, y2⟩ := hty
  have ews : ws' = ws := by
    obtain ⟨_, _, b1, cl1, b2, b3, b4, b5⟩ := y1
    obtain ⟨_, _, e1, cl2, e2, e3, e4, e5⟩ := z1
    cases b2.symm.trans e2
    have hl : ws'.length = ws.length := by have := b1.symm.trans e1; simp at this; exact this.2.2
    apply List.ext_getElem? fun j => ?_
    by_cases hj : j < ws.length
    · have x1 := b5 j (by omega)
      have x2 := e5 j hj
      rw [x1] at x2
      have : vp_V ws' j = vp_V ws j := Option.some.inj x2
      unfold vp_V at this
      rw [List.getD_eq_getElem?_getD, List.getD_eq_getElem?_getD, List.getElem?_eq_getElem (by omega), List.getElem?_eq_getElem hj] at this
      rw [List.getElem?_eq_getElem (by omega), List.getElem?_eq_getElem hj]
      exact congrArg some (by simpa using this)
    · rw [List.getElem?_eq_none (by omega), List.getElem?_eq_none (by omega)]
  subst ews
  refine cw_put0 hexec hb hown hK hts hlk z1 hfin f1 f2 hd fun H' j o1 o2 o3 => kk H' ls vs'' _ ⟨ρ, G, N, lv, h1, h2, g3, ?_, ?_, ?_, h7⟩
  · refine h4.putFoc (Or.inl rfl) rfl hi ha o2 o3 ?_ ⟨t1, t2, ci, ks, _, hτ, o1, z2.set k hw⟩ hno
    unfold ck_ty
    rw [hτ]
    have := y2.set k (hw.le hle |>.plain hpl)
    have e : ks.set k kd = ks := by
      apply List.ext_getElem? fun j => ?_
      by_cases ej : k = j
      · subst ej
        rw [List.getElem?_set_self (List.getElem?_eq_some_iff.mp hkd).1, hkd]
      · rw [List.getElem?_set_ne ej]
    rw [e] at this
    exact ⟨_, o1, this⟩
  · exact h5.put o2 o3 (Or.inl ⟨hG, by rw [t1]; exact hwr⟩) (ck_set_own ⟨_, hi, fun h => by cases h⟩)
  · intro q hq
    rcases List.mem_append.mp hq with z | z
    · exact h6 q z
    · rw [List.mem_singleton.mp z]; exact l1
/-- into a typed object -/
theorem cw_putTy (hexec : p.tables.exec = Jvm.exec) (hb : c.code = cc) (hown : s.vm.findClass own = some m.cls) (hK : va_K D ck_cl (ck_tys AC) s) (hts : ∀ w ∈ ck_tb, w.before args s = true) {idx ci k τ : Nat} {ks : List ck_V} {v kd : ck_V} (hτ : tab[τ]? = some (.inr (ci, ks))) (hlk : ck_lnk own idx ci k) (hkd : ks[k]? = some kd) (hle : ck_le v kd = true) (hpl : ck_plain kd = true)
    (hfin : ∀ C T n, ck_cl[ci]? = some (C, T, n) → (T k).2.2.2 = false ∨ (own = C ∧ meth.name = "<init>")) (hf : ck_fit (ck_yy ci k) v = true) (hwr : τ ∈ wr) (hno : ∀ (j : Nat) (d : ck_C), T[j]? = some d → ck_foc d → d.1.2 ≠ τ) (hd : decode cc pc = .ok (.putfield idx, 3))
    (kk : ck_W p l e R s m args below meth c Q D AC S tab L nL ρ0 wr G0 N0 H0 (pc + 3) (A, st, T) cells slots) : ck_W p l e R s m args below meth c Q D AC S tab L nL ρ0 wr G0 N0 H0 pc (A, v :: .inr (.inr (2, τ)) :: st, T) cells slots := by
  intro H ls vs locs h
  obtain ⟨ρ, G, N, lv, h1, h2, h3, h4, h5, h6, h7⟩ := h
  obtain ⟨w, vs', rfl, hw, g2⟩ := h3.uncons
  obtain ⟨_, vs'', rfl, ⟨a, rfl, ha, hz⟩, g3⟩ := g2.uncons
  obtain ⟨f1, f2⟩ := ck_fit_ok hf hw
  have hG : G a ≠ 0 := by rw [ha]; exact hz
  have hty := h4.1.2.2 a hG
  rw [ha] at hty
  obtain ⟨l1, hty⟩ := hty
  unfold ck_ty at hty
  rw [hτ] at hty
  obtain ⟨ws, y1, y2⟩ := hty
  refine cw_put0 hexec hb hown hK hts hlk y1 hfin f1 f2 hd fun H' j o1 o2 o3 => kk H' ls vs'' _ ⟨ρ, G, N, lv, h1, h2, g3, ?_, ?_, ?_, h7⟩
  · refine h4.putTy hG o2 o3 ?_ (fun i d hi h3 hN => ?_)
    · rw [ha]
      unfold ck_ty
      rw [hτ]
      have := y2.set k (hw.le hle |>.plain hpl)
      have e : ks.set k kd = ks := by
        apply List.ext_getElem? fun j => ?_
        by_cases ej : k = j
        · subst ej
          rw [List.getElem?_set_self (List.getElem?_eq_some_iff.mp hkd).1, hkd]
        · rw [List.getElem?_set_ne ej]
      rw [e] at this
      exact ⟨_, o1, this⟩
    · exact hno i d hi h3 (((h4.2.2.1 i d a hi hN).foc h3).1.symm.trans ha)
  · exact h5.put o2 o3 (Or.inl ⟨hG, by rw [ha]; exact hwr⟩) (fun i c hi ho => ⟨c, hi, ho⟩)
  · intro q hq
    rcases List.mem_append.mp hq with z | z
    · exact h6 q z
    · rw [List.mem_singleton.mp z]; exact l1
end CKG
end
section
/-! ===== arrays: loads, stores, lengths ===== -/
/-- the kind that all places from lo to hi have -/
def ck_rd : List (Nat × ck_V) → Nat → Nat → Option ck_V
  | [], _, _ => none
  | (n, k) :: t, lo, hi => if hi < n then some k else if n ≤ lo then ck_rd t lo hi else none
theorem ck_rd_ok : ∀ {sg : List (Nat × ck_V)} {lo hi : Nat} {k : ck_V}, ck_rd sg lo hi = some k → ∀ j, lo ≤ j → j ≤ hi → ck_kat sg j = k
  | [], _, _, _, h => by cases h
  | (n, k0) :: t, lo, hi, k, h => by
    intro j h1 h2
    unfold ck_rd at h
    unfold ck_kat
    split at h
    · cases h
      rw [if_pos (by omega)]
    · split at h
      · rw [if_neg (by omega)]
        exact ck_rd_ok h j h1 h2
      · cases h
theorem ck_idx {ρ : Nat → Int} {q : ck_Q} {i : Int32} {n : Nat} (h : ck_in ρ q i) (h0 : 0 ≤ q.1) (hn : q.2.1 < (n : Int)) : ∃ j : Nat, i.toInt = (j : Int) ∧ i.toNatClampNeg = j ∧ j < n ∧ q.1 ≤ j ∧ (j : Int) ≤ q.2.1 ∧ vp_in i n := by
  obtain ⟨a, b, -⟩ := h
  refine ⟨i.toInt.toNat, by omega, rfl, by omega, by omega, by omega, vp_in_iff.mpr (by omega)⟩
theorem ck_arrK {AC : Nat → ClassId} {D : va_G} {s : State} (hK : va_K D ck_cl (ck_tys AC) s) {ac : Nat} {ty : FieldType} (h : (ck_tys AC)[ac]? = some (AC ac, ty)) (n : Nat) (f : Nat → Value) : s.isArrayOf (arrV (AC ac) n f) ty := (hK.2 ac _ h).1 n f
def ck_tyK (ac : Nat) : Option FieldType := match ac with
  | 0 => some .int | 1 => some .long | 2 => some .boolean | 3 => some (.object "RatchetDesk$Secret") | 4 => some (.object "RatchetDesk$Person") | 5 => some (.object "RatchetDesk$End") | 6 => some (.object "RatchetDesk$Letter") | 7 => some (.array .int) | _ => none
theorem ck_tyK_ok {AC : Nat → ClassId} {ac : Nat} {ty : FieldType} (h : ck_tyK ac = some ty) : (ck_tys AC)[ac]? = some (AC ac, ty) := by
  match ac, h with
  | 0, h => cases h; rfl
  | 1, h => cases h; rfl
  | 2, h => cases h; rfl
  | 3, h => cases h; rfl
  | 4, h => cases h; rfl
  | 5, h => cases h; rfl
  | 6, h => cases h; rfl
  | 7, h => cases h; rfl
  | n + 8, h => cases h
/-- the load that belongs to an array's class -/
def ck_ldi (ac : Nat) : Instr := if ac == 0 then .iaload else if ac == 1 then .laload else if ac == 2 then .baload else .aaload
section CKR
variable {p : Program} {l : Launch} {e : Env} {R : Room} {s : State} {m : MethodId} {args : Array Value} {below : List Frame} {meth : Method} {c : Code} {cells slots : Nat} {Q : State → Prop}
variable {cc : ByteArray} {pc pc2 nL : Nat} {D : va_G} {AC : Nat → ClassId} {S : Nat → Nat} {tab : List ck_D} {L : Heap} {ρ0 : Nat → Int} {wr : List Nat} {G0 : Nat → Nat} {N0 : List Nat} {H0 : Heap}
variable {A : List (Nat × ck_V)} {st : List ck_V} {T : List ck_C} {own : String}
theorem cw_ld0 (hexec : p.tables.exec = Jvm.exec) (hb : c.code = cc) (hK : va_K D ck_cl (ck_tys AC) s) {H : Heap} {locs : List Loc} {ls : Array Slot} {rest : List Value} {ac n a : Nat} {f : Nat → Value} {i : Int32} {ty : FieldType} (hty : ck_tyK ac = some ty) (hcell : H[a]? = some (arrV (AC ac) n f)) (hin : vp_in i n) (hd : decode cc pc = .ok (ck_ldi ac, 1))
    (kk : W p l e R s m args below meth c H locs cells slots Q (F0 m (pc + 1) ls (f i.toNatClampNeg :: rest))) : W p l e R s m args below meth c H locs cells slots Q (F0 m pc ls (.int i :: .ref a :: rest)) := by
  have hlt : i.toNatClampNeg < n := Nat.not_le.mp fun q => hin (Or.inr q)
  have harr := ck_arrK hK (ck_tyK_ok hty) n f
  have hin' : ¬ (i < 0 ∨ (arrV (AC ac) n f).slots.size ≤ i.toNatClampNeg) := by rw [arrV_size]; exact hin
  have hv : (arrV (AC ac) n f).slots[i.toNatClampNeg]? = some (f i.toNatClampNeg) := arrV_read _ _ hlt
  have hkn : (arrV (AC ac) n f).vm ≠ .unknown := fun q => by cases q
  match ac, hty, hd with
  | 0, hty, hd => cases hty; exact W.iald hexec hb hcell harr hkn hin' hv rfl rfl hd kk
  | 1, hty, hd => cases hty; exact W.lald hexec hb hcell harr hkn hin' hv rfl rfl hd kk
  | 2, hty, hd => cases hty; exact W.zald hexec hb hcell harr hkn hin' hv rfl rfl hd kk
  | 3, hty, hd => cases hty; exact W.aald hexec hb hcell harr rfl hkn hin' hv rfl rfl hd kk
  | 4, hty, hd => cases hty; exact W.aald hexec hb hcell harr rfl hkn hin' hv rfl rfl hd kk
  | 5, hty, hd => cases hty; exact W.aald hexec hb hcell harr rfl hkn hin' hv rfl rfl hd kk
  | 6, hty, hd => cases hty; exact W.aald hexec hb hcell harr rfl hkn hin' hv rfl rfl hd kk
  | 7, hty, hd => cases hty; exact W.aald hexec hb hcell harr rfl hkn hin' hv rfl rfl hd kk
  | n + 8, hty, _ => cases hty
/-- from a typed array -/
theorem cw_ldTy (hexec : p.tables.exec = Jvm.exec) (hb : c.code = cc) (hK : va_K D ck_cl (ck_tys AC) s) {τ ac n : Nat} {sg : List (Nat × ck_V)} {q : ck_Q} {k : ck_V} {ty : FieldType} (hτ : tab[τ]? = some (.inl (ac, n, sg))) (hty : ck_tyK ac = some ty) (h0 : 0 ≤ q.1) (hn : q.2.1 < (n : Int)) (hk : ck_rd sg q.1.toNat q.2.1.toNat = some k) (hp : ck_plain k = true) (hd : decode cc pc = .ok (ck_ldi ac, 1))
    (kk : ck_W p l e R s m args below meth c Q D AC S tab L nL ρ0 wr G0 N0 H0 (pc + 1) (A, k :: st, T) cells slots) : ck_W p l e R s m args below meth c Q D AC S tab L nL ρ0 wr G0 N0 H0 pc (A, .inl q :: .inr (.inr (2, τ)) :: st, T) cells slots := by
  intro H ls vs locs h
  obtain ⟨ρ, G, N, lv, h1, h2, h3, h4, h5, h6, h7⟩ := h
  obtain ⟨_, vs', rfl, ⟨i, rfl, gi⟩, g2⟩ := h3.uncons
  obtain ⟨_, vs'', rfl, ⟨a, rfl, ha, hz⟩, g3⟩ := g2.uncons
  obtain ⟨j, j1, j2, j3, j4, j5, j6⟩ := ck_idx gi h0 hn
  have ht := (h4.1.2.2 a (by rw [ha]; exact hz)).2
  rw [ha] at ht
  unfold ck_ty at ht
  rw [hτ] at ht
  obtain ⟨f, z1, z2⟩ := ht
  have y := z2 j j3
  rw [ck_rd_ok hk j (by omega) (by omega)] at y
  refine cw_ld0 hexec hb hK hty z1 j6 hd (kk H ls _ locs ⟨ρ, G, N, lv, h1, h2, ck_all.cons ?_ g3, h4, h5, h6, h7⟩)
  rw [j2]
  exact y.plain hp
/-- from an array of one's own, at a known place -/
theorem cw_ldOwn (hexec : p.tables.exec = Jvm.exec) (hb : c.code = cc) (hK : va_K D ck_cl (ck_tys AC) s) {i ac j : Nat} {es : List ck_V} {q : ck_Q} {k : ck_V} {ty : FieldType} (hi : T[i]? = some ((1, ac), es)) (hty : ck_tyK ac = some ty) (h0 : q.1 = (j : Int)) (hn : q.2.1 = (j : Int)) (hk : es[j]? = some k) (hd : decode cc pc = .ok (ck_ldi ac, 1))
    (kk : ck_W p l e R s m args below meth c Q D AC S tab L nL ρ0 wr G0 N0 H0 (pc + 1) (A, k :: st, T) cells slots) : ck_W p l e R s m args below meth c Q D AC S tab L nL ρ0 wr G0 N0 H0 pc (A, .inl q :: .inr (.inr (1, i)) :: st, T) cells slots := by
  intro H ls vs locs h
  obtain ⟨ρ, G, N, lv, h1, h2, h3, h4, h5, h6, h7⟩ := h
  obtain ⟨_, vs', rfl, ⟨x, rfl, gi⟩, g2⟩ := h3.uncons
  obtain ⟨_, vs'', rfl, ⟨a, ha, rfl⟩, g3⟩ := g2.uncons
  have hjl : j < es.length := (List.getElem?_eq_some_iff.mp hk).1
  obtain ⟨j', j1, j2, j3, j4, j5, j6⟩ := ck_idx (n := es.length) gi (by omega) (by omega)
  have ej : j' = j := by omega
  subst ej
  obtain ⟨l1, l2, f, z1, z2⟩ := h4.2.2.1 i _ a hi ha
  refine cw_ld0 hexec hb hK hty z1 j6 hd (kk H ls _ locs ⟨ρ, G, N, lv, h1, h2, ck_all.cons ?_ g3, h4, h5, h6, h7⟩)
  rw [j2]
  exact z2 j' k hk
/-- a static array of ints -/
def ck_sta (S : Nat → Nat) (L : Heap) (s : State) (j n : Nat) : Prop := ∃ cell : Cell, L[S j]? = some cell ∧ S j < L.size ∧ s.isArrayOf cell .int ∧ cell.vm ≠ .unknown ∧ cell.slots.size = n ∧ ∀ k, k < n → ∃ x : Int32, cell.slots[k]? = some (.int x)
theorem cw_ldSt (hexec : p.tables.exec = Jvm.exec) (hb : c.code = cc) {j n : Nat} {q : ck_Q} (hs : ck_sta S L s j n) (h0 : 0 ≤ q.1) (hn : q.2.1 < (n : Int)) (hd : decode cc pc = .ok (.iaload, 1))
    (kk : ck_W p l e R s m args below meth c Q D AC S tab L nL ρ0 wr G0 N0 H0 (pc + 1) (A, ck_full :: st, T) cells slots) : ck_W p l e R s m args below meth c Q D AC S tab L nL ρ0 wr G0 N0 H0 pc (A, .inl q :: .inr (.inr (3, j)) :: st, T) cells slots := by
  intro H ls vs locs h
  obtain ⟨ρ, G, N, lv, h1, h2, h3, h4, h5, h6, h7⟩ := h
  obtain ⟨_, vs', rfl, ⟨i, rfl, gi⟩, g2⟩ := h3.uncons
  obtain ⟨_, vs'', rfl, rfl, g3⟩ := g2.uncons
  obtain ⟨j', j1, j2, j3, j4, j5, j6⟩ := ck_idx gi h0 hn
  obtain ⟨cell, c1, c2, c3, c4, c5, c6⟩ := hs
  obtain ⟨x, hx⟩ := c6 j' j3
  refine W.iald hexec hb (v := .int x) (by rw [h4.1.2.1 _ c2]; exact c1) c3 c4 (by rw [c5]; exact j6) (by rw [j2]; exact hx) rfl rfl hd (kk H ls _ locs ⟨ρ, G, N, lv, h1, h2, ck_all.cons ?_ g3, h4, h5, h6, h7⟩)
  exact ⟨x, rfl, (ck_i32 x).1, (ck_i32 x).2, fun g c q => by cases q⟩
/-- a static array by its name, at a known place -/
theorem cw_ldSn (hexec : p.tables.exec = Jvm.exec) (hb : c.code = cc) {i j n k : Nat} {es : List ck_V} {q : ck_Q} {v : ck_V} (hs : ck_sta S L s j n) (hi : T[i]? = some ((5, j), es)) (h0 : q.1 = (k : Int)) (hn : q.2.1 = (k : Int)) (hk : es[k]? = some v) (hd : decode cc pc = .ok (.iaload, 1))
    (kk : ck_W p l e R s m args below meth c Q D AC S tab L nL ρ0 wr G0 N0 H0 (pc + 1) (A, v :: st, T) cells slots) : ck_W p l e R s m args below meth c Q D AC S tab L nL ρ0 wr G0 N0 H0 pc (A, .inl q :: .inr (.inr (1, i)) :: st, T) cells slots := by
  intro H ls vs locs h
  obtain ⟨ρ, G, N, lv, h1, h2, h3, h4, h5, h6, h7⟩ := h
  obtain ⟨_, vs', rfl, ⟨x, rfl, gi⟩, g2⟩ := h3.uncons
  obtain ⟨_, vs'', rfl, ⟨a, ha, rfl⟩, g3⟩ := g2.uncons
  obtain ⟨e0, cell', z1, z2, z3⟩ := h4.2.2.1 i _ a hi ha
  subst e0
  obtain ⟨cell, c1, c2, c3, c4, c5, c6⟩ := hs
  cases c1.symm.trans z1
  obtain ⟨w, y1, y2⟩ := z3 k v hk
  have hkn : k < n := by rw [← c5]; exact (Array.getElem?_eq_some_iff.mp y1).1
  obtain ⟨j', j1, j2, j3, j4, j5, j6⟩ := ck_idx (n := n) gi (by omega) (by omega)
  have ej : j' = k := by omega
  subst ej
  exact W.iald hexec hb (v := w) (by rw [h4.1.2.1 _ c2]; exact c1) c3 c4 (by rw [c5]; exact j6) (by rw [j2]; exact y1) rfl rfl hd (kk H ls _ locs ⟨ρ, G, N, lv, h1, h2, ck_all.cons y2 g3, h4, h5, h6, h7⟩)
/-- a window of a static array, at a place known by the ghost 149 -/
theorem cw_ldWin (hexec : p.tables.exec = Jvm.exec) (hb : c.code = cc) {i j n k : Nat} {es : List ck_V} {q : ck_Q} {v : ck_V} (hs : ck_sta S L s j n) (hi : T[i]? = some ((6, j), es)) (hq : q.2.2 = some (149, (k : Int))) (hk : es[k]? = some v) (h149 : ρ0 149 = (S 3 : Int)) (hd : decode cc pc = .ok (.iaload, 1))
    (kk : ck_W p l e R s m args below meth c Q D AC S tab L nL ρ0 wr G0 N0 H0 (pc + 1) (A, v :: st, T) cells slots) : ck_W p l e R s m args below meth c Q D AC S tab L nL ρ0 wr G0 N0 H0 pc (A, .inl q :: .inr (.inr (1, i)) :: st, T) cells slots := by
  intro H ls vs locs h
  obtain ⟨ρ, G, N, lv, h1, h2, h3, h4, h5, h6, h7⟩ := h
  obtain ⟨_, vs', rfl, ⟨x, rfl, gi⟩, g2⟩ := h3.uncons
  obtain ⟨_, vs'', rfl, ⟨a, ha, rfl⟩, g3⟩ := g2.uncons
  have hx := gi.2.2 149 (k : Int) hq
  rw [h7 149 (by omega) (by omega), h149] at hx
  obtain ⟨e0, cell', z1, z2, z3⟩ := h4.2.2.1 i _ a hi ha
  subst e0
  obtain ⟨cell, c1, c2, c3, c4, c5, c6⟩ := hs
  cases c1.symm.trans z1
  obtain ⟨w, y1, y2⟩ := z3 k v hk
  have hlt : S 3 + k < cell'.slots.size := (Array.getElem?_eq_some_iff.mp y1).1
  have j2 : x.toNatClampNeg = S 3 + k := by show x.toInt.toNat = S 3 + k; omega
  exact W.iald hexec hb (v := w) (by rw [h4.1.2.1 _ c2]; exact c1) c3 c4 (vp_in_iff.mpr (by omega)) (by rw [j2]; exact y1) rfl rfl hd (kk H ls _ locs ⟨ρ, G, N, lv, h1, h2, ck_all.cons y2 g3, h4, h5, h6, h7⟩)
/-- the length of a static array, between bounds -/
theorem cw_lenW (hexec : p.tables.exec = Jvm.exec) (hb : c.code = cc) {i j n kd : Nat} {es : List ck_V} {lo hi' : Int} (hs : ck_sta S L s j n) (hi : T[i]? = some ((kd, j), es)) (hkd : kd = 5 ∨ kd = 6) (h1 : lo ≤ (n : Int)) (h2 : (n : Int) ≤ hi') (hn : n < 2147483648) (hd : decode cc pc = .ok (.arraylength, 1))
    (kk : ck_W p l e R s m args below meth c Q D AC S tab L nL ρ0 wr G0 N0 H0 (pc + 1) (A, .inl (lo, hi', none) :: st, T) cells slots) : ck_W p l e R s m args below meth c Q D AC S tab L nL ρ0 wr G0 N0 H0 pc (A, .inr (.inr (1, i)) :: st, T) cells slots := by
  intro H ls vs locs h
  obtain ⟨ρ, G, N, lv, h1', h2', h3, h4, h5, h6, h7⟩ := h
  obtain ⟨_, vs', rfl, ⟨a, ha, rfl⟩, g2⟩ := h3.uncons
  have e0 : a = S j := by
    have := h4.2.2.1 i _ a hi ha
    rcases hkd with rfl | rfl
    · exact this.1
    · exact this.1
  subst e0
  obtain ⟨cell, c1, c2, c3, c4, c5, c6⟩ := hs
  have e := nI_toInt (n := n) hn
  refine W.alen (n := nI n) hexec hb (by rw [h4.1.2.1 _ c2]; exact c1) c3 (by rw [c5]; rfl) rfl rfl hd (kk H ls _ locs ⟨ρ, G, N, lv, h1', h2', ck_all.cons ⟨_, rfl, by rw [e]; exact h1, by rw [e]; exact h2, fun g c q => by cases q⟩ g2, h4, h5, h6, h7⟩)
/-! lengths -/
theorem cw_len0 (hexec : p.tables.exec = Jvm.exec) (hb : c.code = cc) {H : Heap} {locs : List Loc} {ls : Array Slot} {rest : List Value} {n a : Nat} {cell : Cell} {ty : FieldType} (hcell : H[a]? = some cell) (harr : s.isArrayOf cell ty) (hkn : cell.vm ≠ .unknown) (hsz : cell.slots.size = n) (hd : decode cc pc = .ok (.arraylength, 1))
    (kk : W p l e R s m args below meth c H locs cells slots Q (F0 m (pc + 1) ls (.int (nI n) :: rest))) : W p l e R s m args below meth c H locs cells slots Q (F0 m pc ls (.ref a :: rest)) :=
  W.alen (n := nI n) hexec hb hcell harr (by rw [hsz]; rfl) rfl rfl hd kk
theorem cw_lenTy (hexec : p.tables.exec = Jvm.exec) (hb : c.code = cc) (hK : va_K D ck_cl (ck_tys AC) s) {τ ac n : Nat} {sg : List (Nat × ck_V)} {ty : FieldType} (hτ : tab[τ]? = some (.inl (ac, n, sg))) (hty : ck_tyK ac = some ty) (hn : n < 2147483648) (hd : decode cc pc = .ok (.arraylength, 1))
    (kk : ck_W p l e R s m args below meth c Q D AC S tab L nL ρ0 wr G0 N0 H0 (pc + 1) (A, .inl ((n : Int), (n : Int), none) :: st, T) cells slots) : ck_W p l e R s m args below meth c Q D AC S tab L nL ρ0 wr G0 N0 H0 pc (A, .inr (.inr (2, τ)) :: st, T) cells slots := by
  intro H ls vs locs h
  obtain ⟨ρ, G, N, lv, h1, h2, h3, h4, h5, h6, h7⟩ := h
  obtain ⟨_, vs', rfl, ⟨a, rfl, ha, hz⟩, g2⟩ := h3.uncons
  have ht := (h4.1.2.2 a (by rw [ha]; exact hz)).2
  rw [ha] at ht
  unfold ck_ty at ht
  rw [hτ] at ht
  obtain ⟨f, z1, z2⟩ := ht
  have e := nI_toInt (n := n) hn
  exact cw_len0 hexec hb z1 (ck_arrK hK (ck_tyK_ok hty) n f) (fun q => by cases q) (arrV_size _ _ _) hd (kk H ls _ locs ⟨ρ, G, N, lv, h1, h2, ck_all.cons ⟨_, rfl, by rw [e]; exact Int.le_refl _, by rw [e]; exact Int.le_refl _, fun g c q => by cases q⟩ g2, h4, h5, h6, h7⟩)
theorem cw_lenSn (hexec : p.tables.exec = Jvm.exec) (hb : c.code = cc) {i j n : Nat} {es : List ck_V} (hs : ck_sta S L s j n) (hi : T[i]? = some ((5, j), es)) (hn : n < 2147483648) (hd : decode cc pc = .ok (.arraylength, 1))
    (kk : ck_W p l e R s m args below meth c Q D AC S tab L nL ρ0 wr G0 N0 H0 (pc + 1) (A, .inl ((n : Int), (n : Int), none) :: st, T) cells slots) : ck_W p l e R s m args below meth c Q D AC S tab L nL ρ0 wr G0 N0 H0 pc (A, .inr (.inr (1, i)) :: st, T) cells slots := by
  intro H ls vs locs h
  obtain ⟨ρ, G, N, lv, h1, h2, h3, h4, h5, h6, h7⟩ := h
  obtain ⟨_, vs', rfl, ⟨a, ha, rfl⟩, g2⟩ := h3.uncons
  obtain ⟨e0, -⟩ := h4.2.2.1 i _ a hi ha
  subst e0
  obtain ⟨cell, c1, c2, c3, c4, c5, c6⟩ := hs
  have e := nI_toInt (n := n) hn
  exact cw_len0 hexec hb (by rw [h4.1.2.1 _ c2]; exact c1) c3 c4 c5 hd (kk H ls _ locs ⟨ρ, G, N, lv, h1, h2, ck_all.cons ⟨_, rfl, by rw [e]; exact Int.le_refl _, by rw [e]; exact Int.le_refl _, fun g c q => by cases q⟩ g2, h4, h5, h6, h7⟩)
/-! stores -/
def ck_sti (ac : Nat) : Instr := if ac == 0 then .iastore else if ac == 1 then .lastore else if ac == 2 then .bastore else .aastore
/-- a value that fits an array of primitives -/
def ck_prim (ac : Nat) (v : ck_V) : Bool := match ac, v with
  | 0, .inl _ => true
  | 1, .inr (.inl _) => true
  | 2, .inl (lo, hi, _) => decide (0 ≤ lo) && decide (hi ≤ 1)
  | _, _ => false
theorem cw_sp0 (hexec : p.tables.exec = Jvm.exec) (hb : c.code = cc) (hK : va_K D ck_cl (ck_tys AC) s) {ρ : Nat → Int} {G : Nat → Nat} {N : List Nat} {H : Heap} {locs : List Loc} {ls : Array Slot} {rest : List Value} {ac n a : Nat} {f : Nat → Value} {i : Int32} {v : ck_V} {w : Value} (hp : ck_prim ac v = true) (hw : ck_R S ρ G N v w) (hcell : H[a]? = some (arrV (AC ac) n f)) (hin : vp_in i n) (hd : decode cc pc = .ok (ck_sti ac, 1))
    (kk : ∀ (H' : Heap) (j : Nat), H'[a]? = some (arrV (AC ac) n (updV f i.toNatClampNeg w)) → H'.size = H.size → (∀ q, q ≠ a → H'[q]? = H[q]?) → W p l e R s m args below meth c H' (locs ++ [⟨a, j⟩]) cells slots Q (F0 m (pc + 1) ls rest)) : W p l e R s m args below meth c H locs cells slots Q (F0 m pc ls (w :: .int i :: .ref a :: rest)) := by
  have hin' : ¬ (i < 0 ∨ (arrV (AC ac) n f).slots.size ≤ i.toNatClampNeg) := by rw [arrV_size]; exact hin
  have hkn : (arrV (AC ac) n f).vm ≠ .unknown := fun q => by cases q
  match ac, v, hp, hw, hd with
  | 0, .inl q, _, hw, hd =>
    obtain ⟨x, rfl, -⟩ := hw
    exact W.iast hexec hb hcell (ck_arrK hK (ac := 0) rfl n f) hkn hin' rfl rfl hd fun H' e1 e2 e3 => kk H' _ (by rw [e1, arrV_store]) e2 e3
  | 1, .inr (.inl q), _, hw, hd =>
    obtain ⟨x, rfl, -⟩ := hw
    exact W.last hexec hb hcell (ck_arrK hK (ac := 1) rfl n f) hkn hin' rfl rfl hd fun H' e1 e2 e3 => kk H' _ (by rw [e1, arrV_store]) e2 e3
  | 2, .inl (lo, hi, t), hp, hw, hd =>
    obtain ⟨h1, h2⟩ := ck_fit_ok (ty := .boolean) (k := .inl (lo, hi, t)) hp hw
    obtain ⟨x, rfl, -⟩ := hw
    exact W.zast hexec hb hcell (ck_arrK hK (ac := 2) rfl n f) hkn hin' rfl rfl hd fun H' e1 e2 e3 => kk H' _ (by rw [e1, h1, arrV_store]) e2 e3
/-- a primitive into a typed array -/
theorem cw_spTy (hexec : p.tables.exec = Jvm.exec) (hb : c.code = cc) (hK : va_K D ck_cl (ck_tys AC) s) {τ ac n : Nat} {sg : List (Nat × ck_V)} {q : ck_Q} {v k : ck_V} (hτ : tab[τ]? = some (.inl (ac, n, sg))) (h0 : 0 ≤ q.1) (hn : q.2.1 < (n : Int)) (hk : ck_rd sg q.1.toNat q.2.1.toNat = some k) (hle : ck_le v k = true) (hpl : ck_plain k = true) (hp : ck_prim ac v = true) (hwr : τ ∈ wr) (hno : ∀ (j : Nat) (d : ck_C), T[j]? = some d → ck_foc d → d.1.2 ≠ τ) (hd : decode cc pc = .ok (ck_sti ac, 1))
    (kk : ck_W p l e R s m args below meth c Q D AC S tab L nL ρ0 wr G0 N0 H0 (pc + 1) (A, st, T) cells slots) : ck_W p l e R s m args below meth c Q D AC S tab L nL ρ0 wr G0 N0 H0 pc (A, v :: .inl q :: .inr (.inr (2, τ)) :: st, T) cells slots := by
  intro H ls vs locs h
  obtain ⟨ρ, G, N, lv, h1, h2, h3, h4, h5, h6, h7⟩ := h
  obtain ⟨w, vs', rfl, hw, g1⟩ := h3.uncons
  obtain ⟨_, vs'', rfl, ⟨i, rfl, gi⟩, g2⟩ := g1.uncons
  obtain ⟨_, vs3, rfl, ⟨a, rfl, ha, hz⟩, g3⟩ := g2.uncons
  obtain ⟨j, j1, j2, j3, j4, j5, j6⟩ := ck_idx gi h0 hn
  have hG : G a ≠ 0 := by rw [ha]; exact hz
  obtain ⟨l1, ht⟩ := h4.1.2.2 a hG
  rw [ha] at ht
  unfold ck_ty at ht
  rw [hτ] at ht
  obtain ⟨f, z1, z2⟩ := ht
  refine cw_sp0 hexec hb hK hp hw z1 j6 hd fun H' j' o1 o2 o3 => kk H' ls vs3 _ ⟨ρ, G, N, lv, h1, h2, g3, ?_, ?_, ?_, h7⟩
  · refine h4.putTy hG o2 o3 ?_ (fun i' d hi h3 hN => ?_)
    · rw [ha]
      unfold ck_ty
      rw [hτ]
      refine ⟨_, o1, fun j0 hj0 => ?_⟩
      rw [j2]
      unfold updV
      split
      · rename_i e0
        subst e0
        rw [ck_rd_ok hk j0 (by omega) (by omega)]
        exact (hw.le hle).plain hpl
      · exact z2 j0 hj0
    · exact hno i' d hi h3 (((h4.2.2.1 i' d a hi hN).foc h3).1.symm.trans ha)
  · exact h5.put o2 o3 (Or.inl ⟨hG, by rw [ha]; exact hwr⟩) (fun i c hi ho => ⟨c, hi, ho⟩)
  · intro q hq
    rcases List.mem_append.mp hq with z | z
    · exact h6 q z
    · rw [List.mem_singleton.mp z]; exact l1
/-- a primitive into an array of one's own, at a known place -/
theorem cw_spOwn (hexec : p.tables.exec = Jvm.exec) (hb : c.code = cc) (hK : va_K D ck_cl (ck_tys AC) s) {i ac j : Nat} {es : List ck_V} {q : ck_Q} {v : ck_V} (hi : T[i]? = some ((1, ac), es)) (h0 : q.1 = (j : Int)) (hn : q.2.1 = (j : Int)) (hj : j < es.length) (hp : ck_prim ac v = true) (hd : decode cc pc = .ok (ck_sti ac, 1))
    (kk : ck_W p l e R s m args below meth c Q D AC S tab L nL ρ0 wr G0 N0 H0 (pc + 1) (A, st, T.set i ((1, ac), es.set j v)) cells slots) : ck_W p l e R s m args below meth c Q D AC S tab L nL ρ0 wr G0 N0 H0 pc (A, v :: .inl q :: .inr (.inr (1, i)) :: st, T) cells slots := by
  intro H ls vs locs h
  obtain ⟨ρ, G, N, lv, h1, h2, h3, h4, h5, h6, h7⟩ := h
  obtain ⟨w, vs', rfl, hw, g1⟩ := h3.uncons
  obtain ⟨_, vs'', rfl, ⟨x, rfl, gi⟩, g2⟩ := g1.uncons
  obtain ⟨_, vs3, rfl, ⟨a, ha, rfl⟩, g3⟩ := g2.uncons
  obtain ⟨j', j1, j2, j3, j4, j5, j6⟩ := ck_idx (n := es.length) gi (by omega) (by omega)
  have ej : j' = j := by omega
  subst ej
  obtain ⟨l1, l2, f, z1, z2⟩ := h4.2.2.1 i _ a hi ha
  refine cw_sp0 hexec hb hK hp hw z1 j6 hd fun H' j9 o1 o2 o3 => kk H' ls vs3 _ ⟨ρ, G, N, lv, h1, h2, g3, ?_, ?_, ?_, h7⟩
  · refine h4.putOwn hi ha rfl rfl o2 o3 ⟨l1, l2, _, by rw [List.length_set]; exact o1, fun j0 v0 hv0 => ?_⟩
    rw [j2]
    unfold updV
    by_cases e0 : j' = j0
    · subst e0
      simp only [List.getElem?_set_self hj] at hv0
      cases hv0
      rw [if_pos rfl]
      exact hw
    · simp only [List.getElem?_set_ne e0] at hv0
      rw [if_neg (Ne.symm e0)]
      exact z2 j0 v0 hv0
  · exact h5.put o2 o3 (Or.inr ⟨l2, i, _, hi, ha, rfl⟩) (ck_set_own ⟨_, hi, fun _ => rfl⟩)
  · intro q hq
    rcases List.mem_append.mp hq with z | z
    · exact h6 q z
    · rw [List.mem_singleton.mp z]; exact l1
/-! references into arrays of references -/
/-- the class whose objects an array of references holds -/
def ck_comp (ac : Nat) : Option Nat := match ac with
  | 3 => some 1 | 4 => some 9 | 5 => some 6 | 6 => some 10 | _ => none
theorem cw_sr0 (hexec : p.tables.exec = Jvm.exec) (hb : c.code = cc) (hK : va_K D ck_cl (ck_tys AC) s) {H : Heap} {locs : List Loc} {ls : Array Slot} {rest : List Value} {ac ci n a v : Nat} {f : Nat → Value} {i : Int32} {vs : List Value} (hci : ck_comp ac = some ci) (hob : ck_ob D ci v H vs) (hcell : H[a]? = some (arrV (AC ac) n f)) (hin : vp_in i n) (hd : decode cc pc = .ok (.aastore, 1))
    (kk : ∀ (H' : Heap) (j : Nat), H'[a]? = some (arrV (AC ac) n (updV f i.toNatClampNeg (.ref v))) → H'.size = H.size → (∀ q, q ≠ a → H'[q]? = H[q]?) → W p l e R s m args below meth c H' (locs ++ [⟨a, j⟩]) cells slots Q (F0 m (pc + 1) ls rest)) : W p l e R s m args below meth c H locs cells slots Q (F0 m pc ls (.ref v :: .int i :: .ref a :: rest)) := by
  have hlt : i.toNatClampNeg < n := Nat.not_le.mp fun q => hin (Or.inr q)
  have h0 : ¬ i < 0 := fun q => hin (Or.inl q)
  obtain ⟨C, T, hc, cellV, g1, g2, g3, -⟩ := hob
  have hcls := (hK.1 ci _ hc).2
  have hra : ∃ (kA : Class) (comp : ClassId), s.vm.classes[AC ac]? = some kA ∧ kA.kind = .array comp (.object C) ∧ s.vm.findClass C = some comp := by
    match ac, hci with
    | 3, hci => cases hci; have hC : cn_C1 = C := congrArg (fun o : Option vw_C => (o.getD ("", cn_T1, 0)).1) hc; subst hC; obtain ⟨kA, comp, k1, k2, k3, -⟩ := (hK.2 3 _ rfl).2; exact ⟨kA, comp, k1, k2, k3⟩
    | 4, hci => cases hci; have hC : cn_C9 = C := congrArg (fun o : Option vw_C => (o.getD ("", cn_T1, 0)).1) hc; subst hC; obtain ⟨kA, comp, k1, k2, k3, -⟩ := (hK.2 4 _ rfl).2; exact ⟨kA, comp, k1, k2, k3⟩
    | 5, hci => cases hci; have hC : cn_C6 = C := congrArg (fun o : Option vw_C => (o.getD ("", cn_T1, 0)).1) hc; subst hC; obtain ⟨kA, comp, k1, k2, k3, -⟩ := (hK.2 5 _ rfl).2; exact ⟨kA, comp, k1, k2, k3⟩
    | 6, hci => cases hci; have hC : cn_C10 = C := congrArg (fun o : Option vw_C => (o.getD ("", cn_T1, 0)).1) hc; subst hC; obtain ⟨kA, comp, k1, k2, k3, -⟩ := (hK.2 6 _ rfl).2; exact ⟨kA, comp, k1, k2, k3⟩
    | 0, hci => cases hci
    | 1, hci => cases hci
    | 2, hci => cases hci
    | n + 7, hci => cases hci
  obtain ⟨kA, comp, k1, k2, k3⟩ := hra
  have hcomp : comp = D.1 ci := Option.some.inj (k3.symm.trans hcls.1)
  subst hcomp
  obtain ⟨kC, hkC, -⟩ := hcls.2
  exact W.aast hexec hb hcell (fun q h => by cases h) (fun h => by cases h) k1 k2 rfl hkC ⟨h0, by rw [arrV_size]; exact hlt⟩ g1 (fun q h => by rw [g3] at h; cases h) (by rw [g2]; exact hkC) (by rw [g2]; exact va_assign hcls) rfl rfl hd fun H1 e1 e2 e3 => kk H1 _ (by rw [e1, arrV_store]) e2 e3
/-- an object that a reference leads to -/
theorem ck_obj {ρ : Nat → Int} {G : Nat → Nat} {N : List Nat} {H : Heap} (h4 : ck_H D AC S tab L ρ G N T H) {v : ck_V} {w : Value} (hw : ck_R S ρ G N v w) {ci : Nat}
    (hv : (∃ τ ks, v = .inr (.inr (2, τ)) ∧ tab[τ]? = some (.inr (ci, ks))) ∨ (∃ i fs, v = .inr (.inr (1, i)) ∧ T[i]? = some ((0, ci), fs)) ∨ (∃ i τ ks fs, v = .inr (.inr (1, i)) ∧ T[i]? = some ((3, τ), fs) ∧ tab[τ]? = some (.inr (ci, ks)))) : ∃ a vs, w = .ref a ∧ ck_ob D ci a H vs := by
  rcases hv with ⟨τ, ks, rfl, hτ⟩ | ⟨i, fs, rfl, hi⟩ | ⟨i, τ, ks, fs, rfl, hi, hτ⟩
  · obtain ⟨a, rfl, ha, hz⟩ := hw
    have ht := (h4.1.2.2 a (by rw [ha]; exact hz)).2
    rw [ha] at ht
    unfold ck_ty at ht
    rw [hτ] at ht
    obtain ⟨vs, z1, -⟩ := ht
    exact ⟨a, vs, rfl, z1⟩
  · obtain ⟨a, ha, rfl⟩ := hw
    obtain ⟨-, -, vs, z1, -⟩ := h4.2.2.1 i _ a hi ha
    exact ⟨a, vs, rfl, z1⟩
  · obtain ⟨a, ha, rfl⟩ := hw
    obtain ⟨-, -, ci', ks', vs, z0, z1, -⟩ := h4.2.2.1 i _ a hi ha
    cases hτ.symm.trans z0
    exact ⟨a, vs, rfl, z1⟩
/-- from a typed array by its name, at a known place -/
theorem cw_ldFoc (hexec : p.tables.exec = Jvm.exec) (hb : c.code = cc) (hK : va_K D ck_cl (ck_tys AC) s) {i k j τ ac n : Nat} {sg : List (Nat × ck_V)} {es : List ck_V} {q : ck_Q} {v : ck_V} {ty : FieldType} (hi : T[i]? = some ((k + 7, τ), es)) (hτ : tab[τ]? = some (.inl (ac, n, sg))) (hty : ck_tyK ac = some ty) (h0 : q.1 = (j : Int)) (hn : q.2.1 = (j : Int)) (hk : k ≤ j) (hv : es[j - k]? = some v) (hd : decode cc pc = .ok (ck_ldi ac, 1))
    (kk : ck_W p l e R s m args below meth c Q D AC S tab L nL ρ0 wr G0 N0 H0 (pc + 1) (A, v :: st, T) cells slots) : ck_W p l e R s m args below meth c Q D AC S tab L nL ρ0 wr G0 N0 H0 pc (A, .inl q :: .inr (.inr (1, i)) :: st, T) cells slots := by
  intro H ls vs locs h
  obtain ⟨ρ, G, N, lv, h1, h2, h3, h4, h5, h6, h7⟩ := h
  obtain ⟨_, vs', rfl, ⟨x, rfl, gi⟩, g2⟩ := h3.uncons
  obtain ⟨_, vs'', rfl, ⟨a, ha, rfl⟩, g3⟩ := g2.uncons
  obtain ⟨t1, t2, ac', n', sg', f, z0, z1, z2, z3⟩ := h4.2.2.1 i _ a hi ha
  cases hτ.symm.trans z0
  dsimp only at z2 z3
  have hjl : j - k < es.length := (List.getElem?_eq_some_iff.mp hv).1
  obtain ⟨j', j1, j2, j3, j4, j5, j6⟩ := ck_idx (n := n) gi (by omega) (by omega)
  have ej : j' = j := by omega
  subst ej
  refine cw_ld0 hexec hb hK hty z1 j6 hd (kk H ls _ locs ⟨ρ, G, N, lv, h1, h2, ck_all.cons ?_ g3, h4, h5, h6, h7⟩)
  rw [j2]
  have := z3 (j' - k) v hv
  rw [show k + (j' - k) = j' by omega] at this
  exact this
/-- from a typed array that has a name, anywhere -/
theorem cw_ldFocT (hexec : p.tables.exec = Jvm.exec) (hb : c.code = cc) (hK : va_K D ck_cl (ck_tys AC) s) {i kh τ ac n : Nat} {sg : List (Nat × ck_V)} {es : List ck_V} {q : ck_Q} {k : ck_V} {ty : FieldType} (hi : T[i]? = some ((kh + 7, τ), es)) (hτ : tab[τ]? = some (.inl (ac, n, sg))) (hty : ck_tyK ac = some ty) (h0 : 0 ≤ q.1) (hn : q.2.1 < (n : Int)) (hk : ck_rd sg q.1.toNat q.2.1.toNat = some k) (hp : ck_plain k = true) (hd : decode cc pc = .ok (ck_ldi ac, 1))
    (kk : ck_W p l e R s m args below meth c Q D AC S tab L nL ρ0 wr G0 N0 H0 (pc + 1) (A, k :: st, T) cells slots) : ck_W p l e R s m args below meth c Q D AC S tab L nL ρ0 wr G0 N0 H0 pc (A, .inl q :: .inr (.inr (1, i)) :: st, T) cells slots := by
  intro H ls vs locs h
  obtain ⟨ρ, G, N, lv, h1, h2, h3, h4, h5, h6, h7⟩ := h
  obtain ⟨w, vs', rfl, hw, g2⟩ := h3.uncons
  obtain ⟨_, vs'', rfl, ⟨a, ha, rfl⟩, g3⟩ := g2.uncons
  have t := (h4.2.2.1 i _ a hi ha).foc (Or.inr (Nat.le_add_left 7 kh))
  exact cw_ldTy (c := c) hexec hb hK hτ hty h0 hn hk hp hd kk H ls (w :: .ref a :: vs'') locs ⟨ρ, G, N, lv, h1, h2, ck_all.cons hw (ck_all.cons ⟨a, rfl, t.1, t.2.1⟩ g3), h4, h5, h6, h7⟩
/-- a primitive into a typed array by its name, at a known place -/
theorem cw_spFoc (hexec : p.tables.exec = Jvm.exec) (hb : c.code = cc) (hK : va_K D ck_cl (ck_tys AC) s) {i k j τ ac n : Nat} {sg : List (Nat × ck_V)} {es : List ck_V} {q : ck_Q} {v kd : ck_V} (hi : T[i]? = some ((k + 7, τ), es)) (hτ : tab[τ]? = some (.inl (ac, n, sg))) (h0 : q.1 = (j : Int)) (hn : q.2.1 = (j : Int)) (hjn : j < n) (hk : k ≤ j) (hkd : ck_rd sg j j = some kd) (hle : ck_le v kd = true) (hpl : ck_plain kd = true) (hp : ck_prim ac v = true) (hwr : τ ∈ wr) (hno : ∀ (j : Nat) (d : ck_C), j ≠ i → T[j]? = some d → ck_foc d → d.1.2 ≠ τ) (hd : decode cc pc = .ok (ck_sti ac, 1))
    (kk : ck_W p l e R s m args below meth c Q D AC S tab L nL ρ0 wr G0 N0 H0 (pc + 1) (A, st, T.set i ((k + 7, τ), es.set (j - k) v)) cells slots) : ck_W p l e R s m args below meth c Q D AC S tab L nL ρ0 wr G0 N0 H0 pc (A, v :: .inl q :: .inr (.inr (1, i)) :: st, T) cells slots := by
  intro H ls vs locs h
  obtain ⟨ρ, G, N, lv, h1, h2, h3, h4, h5, h6, h7⟩ := h
  obtain ⟨w, vs', rfl, hw, g1⟩ := h3.uncons
  obtain ⟨_, vs'', rfl, ⟨x, rfl, gi⟩, g2⟩ := g1.uncons
  obtain ⟨_, vs3, rfl, ⟨a, ha, rfl⟩, g3⟩ := g2.uncons
  obtain ⟨j', j1, j2, j3, j4, j5, j6⟩ := ck_idx (n := n) gi (by omega) (by omega)
  have ej : j' = j := by omega
  subst ej
  obtain ⟨t1, t2, ac', n', sg', f, z0, z1, z2, z3⟩ := h4.2.2.1 i _ a hi ha
  cases hτ.symm.trans z0
  dsimp only at z2 z3
  have hG : G a ≠ 0 := by rw [t1]; exact t2
  obtain ⟨l1, ht⟩ := h4.1.2.2 a hG
  rw [t1] at ht
  unfold ck_ty at ht
  rw [hτ] at ht
  obtain ⟨f', y1, y2⟩ := ht
  have hff : ∀ j0, j0 < n → f' j0 = f j0 := fun j0 hj0 => by
    have e : arrV (AC ac) n f' = arrV (AC ac) n f := Option.some.inj (y1.symm.trans z1)
    have r1 : (arrV (AC ac) n f').slots[j0]? = some (f' j0) := arrV_read _ _ hj0
    have r2 : (arrV (AC ac) n f).slots[j0]? = some (f j0) := arrV_read _ _ hj0
    rw [e, r2] at r1
    exact (Option.some.inj r1).symm
  refine cw_sp0 hexec hb hK hp hw z1 j6 hd fun H' j9 o1 o2 o3 => kk H' ls vs3 _ ⟨ρ, G, N, lv, h1, h2, g3, ?_, ?_, ?_, h7⟩
  · refine h4.putFoc (Or.inr (Nat.le_add_left 7 k)) rfl hi ha o2 o3 ?_ ⟨t1, t2, ac, n, sg, _, hτ, o1, by simpa using z2, fun j0 v0 hv0 => ?_⟩ hno
    · unfold ck_ty
      rw [hτ]
      refine ⟨_, o1, fun j0 hj0 => ?_⟩
      rw [j2]
      unfold updV
      split
      · rename_i e0
        subst e0
        rw [ck_rd_ok hkd j0 (Nat.le_refl _) (Nat.le_refl _)]
        exact (hw.le hle).plain hpl
      · rw [← hff j0 hj0]
        exact y2 j0 hj0
    · rw [j2]
      unfold updV
      dsimp only at hv0
      by_cases e0 : j' - k = j0
      · rw [if_pos (by omega)]
        subst e0
        have hl : j' - k < es.length := by have := (List.getElem?_eq_some_iff.mp hv0).1; simpa using this
        rw [List.getElem?_set_self hl] at hv0
        cases hv0
        exact hw
      · rw [List.getElem?_set_ne e0] at hv0
        rw [if_neg (by omega)]
        exact z3 j0 v0 hv0
  · exact h5.put o2 o3 (Or.inl ⟨hG, by rw [t1]; exact hwr⟩) (ck_set_own ⟨_, hi, fun h => by rw [ck_foc_own (Or.inr (Nat.le_add_left 7 k))] at h; cases h⟩)
  · intro q hq
    rcases List.mem_append.mp hq with z | z
    · exact h6 q z
    · rw [List.mem_singleton.mp z]; exact l1
/-- a reference into a typed array -/
theorem cw_srTy (hexec : p.tables.exec = Jvm.exec) (hb : c.code = cc) (hK : va_K D ck_cl (ck_tys AC) s) {τ ac n ci : Nat} {sg : List (Nat × ck_V)} {q : ck_Q} {v k : ck_V} (hτ : tab[τ]? = some (.inl (ac, n, sg))) (h0 : 0 ≤ q.1) (hn : q.2.1 < (n : Int)) (hk : ck_rd sg q.1.toNat q.2.1.toNat = some k) (hle : ck_le v k = true) (hpl : ck_plain k = true) (hci : ck_comp ac = some ci)
    (hv : (∃ τ ks, v = .inr (.inr (2, τ)) ∧ tab[τ]? = some (.inr (ci, ks))) ∨ (∃ i fs, v = .inr (.inr (1, i)) ∧ T[i]? = some ((0, ci), fs)) ∨ (∃ i τ ks fs, v = .inr (.inr (1, i)) ∧ T[i]? = some ((3, τ), fs) ∧ tab[τ]? = some (.inr (ci, ks)))) (hwr : τ ∈ wr) (hno : ∀ (j : Nat) (d : ck_C), T[j]? = some d → ck_foc d → d.1.2 ≠ τ) (hd : decode cc pc = .ok (.aastore, 1))
    (kk : ck_W p l e R s m args below meth c Q D AC S tab L nL ρ0 wr G0 N0 H0 (pc + 1) (A, st, T) cells slots) : ck_W p l e R s m args below meth c Q D AC S tab L nL ρ0 wr G0 N0 H0 pc (A, v :: .inl q :: .inr (.inr (2, τ)) :: st, T) cells slots := by
  intro H ls vs locs h
  obtain ⟨ρ, G, N, lv, h1, h2, h3, h4, h5, h6, h7⟩ := h
  obtain ⟨w, vs', rfl, hw, g1⟩ := h3.uncons
  obtain ⟨_, vs'', rfl, ⟨i, rfl, gi⟩, g2⟩ := g1.uncons
  obtain ⟨_, vs3, rfl, ⟨a, rfl, ha, hz⟩, g3⟩ := g2.uncons
  obtain ⟨j, j1, j2, j3, j4, j5, j6⟩ := ck_idx gi h0 hn
  obtain ⟨b, ws, rfl, hob⟩ := ck_obj h4 hw hv
  have hG : G a ≠ 0 := by rw [ha]; exact hz
  obtain ⟨l1, ht⟩ := h4.1.2.2 a hG
  rw [ha] at ht
  unfold ck_ty at ht
  rw [hτ] at ht
  obtain ⟨f, z1, z2⟩ := ht
  refine cw_sr0 hexec hb hK hci hob z1 j6 hd fun H' j' o1 o2 o3 => kk H' ls vs3 _ ⟨ρ, G, N, lv, h1, h2, g3, ?_, ?_, ?_, h7⟩
  · refine h4.putTy hG o2 o3 ?_ (fun i' d hi h3 hN => ?_)
    · rw [ha]
      unfold ck_ty
      rw [hτ]
      refine ⟨_, o1, fun j0 hj0 => ?_⟩
      rw [j2]
      unfold updV
      split
      · rename_i e0
        subst e0
        rw [ck_rd_ok hk j0 (by omega) (by omega)]
        exact (hw.le hle).plain hpl
      · exact z2 j0 hj0
    · exact hno i' d hi h3 (((h4.2.2.1 i' d a hi hN).foc h3).1.symm.trans ha)
  · exact h5.put o2 o3 (Or.inl ⟨hG, by rw [ha]; exact hwr⟩) (fun i c hi ho => ⟨c, hi, ho⟩)
  · intro q hq
    rcases List.mem_append.mp hq with z | z
    · exact h6 q z
    · rw [List.mem_singleton.mp z]; exact l1
/-- a reference into an array of one's own -/
theorem cw_srOwn (hexec : p.tables.exec = Jvm.exec) (hb : c.code = cc) (hK : va_K D ck_cl (ck_tys AC) s) {i ac j ci : Nat} {es : List ck_V} {q : ck_Q} {v : ck_V} (hi : T[i]? = some ((1, ac), es)) (h0 : q.1 = (j : Int)) (hn : q.2.1 = (j : Int)) (hj : j < es.length) (hci : ck_comp ac = some ci)
    (hv : (∃ τ ks, v = .inr (.inr (2, τ)) ∧ tab[τ]? = some (.inr (ci, ks))) ∨ (∃ i fs, v = .inr (.inr (1, i)) ∧ T[i]? = some ((0, ci), fs)) ∨ (∃ i τ ks fs, v = .inr (.inr (1, i)) ∧ T[i]? = some ((3, τ), fs) ∧ tab[τ]? = some (.inr (ci, ks)))) (hd : decode cc pc = .ok (.aastore, 1))
    (kk : ck_W p l e R s m args below meth c Q D AC S tab L nL ρ0 wr G0 N0 H0 (pc + 1) (A, st, T.set i ((1, ac), es.set j v)) cells slots) : ck_W p l e R s m args below meth c Q D AC S tab L nL ρ0 wr G0 N0 H0 pc (A, v :: .inl q :: .inr (.inr (1, i)) :: st, T) cells slots := by
  intro H ls vs locs h
  obtain ⟨ρ, G, N, lv, h1, h2, h3, h4, h5, h6, h7⟩ := h
  obtain ⟨w, vs', rfl, hw, g1⟩ := h3.uncons
  obtain ⟨_, vs'', rfl, ⟨x, rfl, gi⟩, g2⟩ := g1.uncons
  obtain ⟨_, vs3, rfl, ⟨a, ha, rfl⟩, g3⟩ := g2.uncons
  obtain ⟨j', j1, j2, j3, j4, j5, j6⟩ := ck_idx (n := es.length) gi (by omega) (by omega)
  have ej : j' = j := by omega
  subst ej
  obtain ⟨b, ws, rfl, hob⟩ := ck_obj h4 hw hv
  obtain ⟨l1, l2, f, z1, z2⟩ := h4.2.2.1 i _ a hi ha
  refine cw_sr0 hexec hb hK hci hob z1 j6 hd fun H' j9 o1 o2 o3 => kk H' ls vs3 _ ⟨ρ, G, N, lv, h1, h2, g3, ?_, ?_, ?_, h7⟩
  · refine h4.putOwn hi ha rfl rfl o2 o3 ⟨l1, l2, _, by rw [List.length_set]; exact o1, fun j0 v0 hv0 => ?_⟩
    rw [j2]
    unfold updV
    by_cases e0 : j' = j0
    · subst e0
      simp only [List.getElem?_set_self hj] at hv0
      cases hv0
      rw [if_pos rfl]
      exact hw
    · simp only [List.getElem?_set_ne e0] at hv0
      rw [if_neg (Ne.symm e0)]
      exact z2 j0 v0 hv0
  · exact h5.put o2 o3 (Or.inr ⟨l2, i, _, hi, ha, rfl⟩) (ck_set_own ⟨_, hi, fun _ => rfl⟩)
  · intro q hq
    rcases List.mem_append.mp hq with z | z
    · exact h6 q z
    · rw [List.mem_singleton.mp z]; exact l1
end CKR
end
section
/-! ===== new cells, System.arraycopy, getstatic ===== -/
def ck_d0 (ac : Nat) : ck_V := if ac == 1 then .inr (.inl (0, 0)) else if ac == 0 || ac == 2 then .inl (0, 0, none) else .inr (.inr (0, 0))
def ck_at (ac : Nat) : Option ArrayType := match ac with
  | 0 => some .int | 1 => some .long | 2 => some .boolean | _ => none
theorem ck_at_ok {ac : Nat} {t : ArrayType} (h : ck_at ac = some t) : ck_tyK ac = some (newarray.typeOf t) ∧ ∀ (S : Nat → Nat) (ρ : Nat → Int) (G : Nat → Nat) (N : List Nat), ck_R S ρ G N (ck_d0 ac) (defaultValue (newarray.typeOf t)) := by
  match ac, h with
  | 0, h => cases h; exact ⟨rfl, fun _ _ _ _ => ⟨0, rfl, by decide, by decide, fun g c q => by cases q⟩⟩
  | 1, h => cases h; exact ⟨rfl, fun _ _ _ _ => ⟨0, rfl, by decide, by decide⟩⟩
  | 2, h => cases h; exact ⟨rfl, fun _ _ _ _ => ⟨0, rfl, by decide, by decide, fun g c q => by cases q⟩⟩
  | n + 3, h => cases h
theorem ck_kat_all {P : ck_V → Prop} : ∀ {sg : List (Nat × ck_V)}, (∀ q ∈ sg, P q.2) → P (.inr (.inr (8, 0))) → ∀ j, P (ck_kat sg j)
  | [], _, h, _ => h
  | (n, k) :: t, h1, h2, j => by
    unfold ck_kat
    split
    · exact h1 (n, k) List.mem_cons_self
    · exact ck_kat_all (fun q hq => h1 q (List.mem_cons_of_mem _ hq)) h2 j
def ck_dk (ac : Nat) (sg : List (Nat × ck_V)) : Bool := sg.all (fun q => ck_le (ck_d0 ac) q.2 && ck_plain q.2)
def ck_dt : FieldType → ck_V
  | .int => .inl (0, 0, none)
  | .boolean => .inl (0, 0, none)
  | .long => .inr (.inl (0, 0))
  | .object _ => .inr (.inr (0, 0))
  | .array _ => .inr (.inr (0, 0))
  | _ => .inr (.inr (8, 0))
theorem ck_dt_ok (S : Nat → Nat) (ρ : Nat → Int) (G : Nat → Nat) (N : List Nat) (ty : FieldType) : ck_R S ρ G N (ck_dt ty) (defaultValue ty) := by
  cases ty <;> first | exact ⟨0, rfl, by decide, by decide, fun g c q => by cases q⟩ | exact ⟨0, rfl, by decide, by decide⟩ | exact rfl | exact trivial
def ck_words (st : List ck_V) : Nat := (st.map fun v => if ck_lng v then 2 else 1).sum
theorem ck_words_ok {S : Nat → Nat} {ρ : Nat → Int} {G : Nat → Nat} {N : List Nat} : ∀ {st : List ck_V} {vs : List Value}, ck_all (ck_R S ρ G N) st vs → st.all ck_kn = true → (vs.map fun v => v.category).sum = ck_words st
  | [], vs, h, _ => by
    have : vs = [] := by
      have := h.1
      cases vs with
      | nil => rfl
      | cons a b => simp at this
    subst this
    rfl
  | k :: t, vs, h, hk => by
    obtain ⟨v, vs', rfl, h1, h2⟩ := h.uncons
    simp only [List.all_cons, Bool.and_eq_true] at hk
    have ih := ck_words_ok h2 hk.2
    have hc := ck_cat h1 hk.1
    have h12 := lv_cat v
    unfold ck_words at ih ⊢
    rw [List.map_cons, List.map_cons, List.sum_cons, List.sum_cons, ih]
    congr 1
    rw [← hc]
    rcases h12 with z | z <;> rw [z] <;> rfl
theorem ck_F.new {wr : List Nat} {G0 G G' : Nat → Nat} {N0 N N' : List Nat} {T T' : List ck_C} {H0 H H' : Heap} (hF : ck_F wr G0 N0 H0 G N T H) (hs : H.size ≤ H'.size) (hq : ∀ q, q < H.size → H'[q]? = H[q]?) (hG : ∀ q, q < H.size → G' q = G q) (hN : ∃ M, N' = N ++ M) (hT : ∀ (i : Nat) (c : ck_C) (a : Nat), T'[i]? = some c → N'[i]? = some a → ck_own c = true → (∃ c', T[i]? = some c' ∧ N[i]? = some a ∧ ck_own c' = true) ∨ H.size ≤ a) : ck_F wr G0 N0 H0 G' N' T' H' := by
  obtain ⟨h1, h2, h3, h4, h5, h6⟩ := hF
  obtain ⟨M, rfl⟩ := hN
  refine ⟨by omega, fun q hl => by rw [hG q (by omega)]; exact h2 q hl, fun q hl hz => by rw [hq q (by omega)]; exact h3 q hl hz, by simp; omega, fun i hi => by rw [List.getElem?_append_left (by omega)]; exact h5 i hi, fun i c a hc ha ho hi => ?_⟩
  rcases hT i c a hc ha ho with ⟨c', e1, e2, e3⟩ | e
  · exact h6 i c' a e1 e2 e3 hi
  · omega
section CKN
variable {p : Program} {l : Launch} {e : Env} {R : Room} {s : State} {m : MethodId} {args : Array Value} {below : List Frame} {meth : Method} {c : Code} {cells slots : Nat} {Q : State → Prop}
variable {cc : ByteArray} {pc pc2 nL : Nat} {D : va_G} {AC : Nat → ClassId} {S : Nat → Nat} {tab : List ck_D} {L : Heap} {ρ0 : Nat → Int} {wr : List Nat} {G0 : Nat → Nat} {N0 : List Nat} {H0 : Heap}
variable {A : List (Nat × ck_V)} {st : List ck_V} {T : List ck_C} {own : String}
theorem ck_push_other (H : Heap) (x : Cell) : (H.push x)[H.size]? = some x ∧ (H.push x).size = H.size + 1 ∧ ∀ q, q < H.size → (H.push x)[q]? = H[q]? := ⟨by simp, by simp, fun q hq => by rw [Array.getElem?_push, if_neg (Nat.ne_of_lt hq)]⟩
theorem ck_all_grow {G G' : Nat → Nat} {ρ : Nat → Int} {N : List Nat} (hz : ∀ q, G q ≠ 0 → G' q = G q) {ks : List ck_V} {vs : List Value} (h : ck_all (ck_R S ρ G N) ks vs) : ck_all (ck_R S ρ G' N) ks vs := h.mono fun _ _ _ h => h.grow hz
theorem ck_allL_grow {G G' : Nat → Nat} {ρ : Nat → Int} {N : List Nat} (hz : ∀ q, G q ≠ 0 → G' q = G q) {ks : List (Nat × ck_V)} {vs : List (Nat × Value)} (h : ck_all (ck_RL S ρ G N) ks vs) : ck_all (ck_RL S ρ G' N) ks vs := h.mono fun _ _ _ h => ⟨h.1, h.2.grow hz⟩
theorem ck_all_ext {G : Nat → Nat} {ρ : Nat → Int} {N M : List Nat} {ks : List ck_V} {vs : List Value} (h : ck_all (ck_R S ρ G N) ks vs) : ck_all (ck_R S ρ G (N ++ M)) ks vs := h.mono fun _ _ _ h => h.ext M
theorem ck_allL_ext {G : Nat → Nat} {ρ : Nat → Int} {N M : List Nat} {ks : List (Nat × ck_V)} {vs : List (Nat × Value)} (h : ck_all (ck_RL S ρ G N) ks vs) : ck_all (ck_RL S ρ G (N ++ M)) ks vs := h.mono fun _ _ _ h => ⟨h.1, h.2.ext M⟩
/-- a new array of primitives, typed -/
theorem cw_newaTy (hexec : p.tables.exec = Jvm.exec) (hb : c.code = cc) (hK : va_K D ck_cl (ck_tys AC) s) {τ ac n : Nat} {sg : List (Nat × ck_V)} {q : ck_Q} {t : ArrayType} (harr : (Cond.arrayClass (newarray.typeOf t)).before args s = true) (hτ : tab[τ]? = some (.inl (ac, n, sg))) (hz : τ ≠ 0) (hat : ck_at ac = some t) (hq1 : q.1 = (n : Int)) (hq2 : q.2.1 = (n : Int)) (hn : n ≤ 60000) (hdk : ck_dk ac sg = true) (hc : cells + 1 ≤ R.cells) (hs : slots + n ≤ R.slots) (hd : decode cc pc = .ok (.newarray t, 2))
    (kk : ck_W p l e R s m args below meth c Q D AC S tab L nL ρ0 wr G0 N0 H0 (pc + 2) (A, .inr (.inr (2, τ)) :: st, T) (cells + 1) (slots + n)) : ck_W p l e R s m args below meth c Q D AC S tab L nL ρ0 wr G0 N0 H0 pc (A, .inl q :: st, T) cells slots := by
  intro H ls vs locs h
  obtain ⟨ρ, G, N, lv, h1, h2, h3, h4, h5, h6, h7⟩ := h
  obtain ⟨_, vs', rfl, ⟨x, rfl, gx⟩, g2⟩ := h3.uncons
  obtain ⟨x1, x2, -⟩ := gx
  have hx : x.toNatClampNeg = n := by show x.toInt.toNat = n; omega
  have hx0 : ¬ x < 0 := fun h => by have := Int32.lt_iff_toInt_lt.mp h; have e0 : (0 : Int32).toInt = 0 := rfl; omega
  obtain ⟨hty, hdef⟩ := ck_at_ok hat
  have hzz : ∀ q, G q ≠ 0 → ck_up G H.size τ q = G q := fun q hne => by
    unfold ck_up
    rw [if_neg (fun e => hne (by rw [e]; exact h4.zero (Nat.le_refl _)))]
  have hcb : componentBytes (newarray.typeOf t) ≤ 8 := by cases t <;> decide
  refine W.newa hexec hb harr rfl hd rfl hx0 (by rw [hx]; have := Nat.mul_le_mul hn hcb; omega) hc (by rw [hx]; exact hs) fun cA kA comp f1 f2 f3 => ?_
  have hAC : cA = AC ac := by
    match ac, hat with
    | 0, hat => cases hat; exact Option.some.inj (f1.symm.trans (hK.2 0 _ rfl).2)
    | 1, hat => cases hat; exact Option.some.inj (f1.symm.trans (hK.2 1 _ rfl).2)
    | 2, hat => cases hat; exact Option.some.inj (f1.symm.trans (hK.2 2 _ rfl).2)
    | n + 3, hat => cases hat
  subst hAC
  rw [hx]
  obtain ⟨p1, p2, p3⟩ := ck_push_other H { cls := AC ac, slots := Array.replicate n (defaultValue (newarray.typeOf t)), vm := .none }
  generalize H.push { cls := AC ac, slots := Array.replicate n (defaultValue (newarray.typeOf t)), vm := .none } = H' at p1 p2 p3
  refine kk H' ls _ locs ⟨ρ, ck_up G H.size τ, N, lv, h1, ck_allL_grow hzz h2, ck_all.cons ⟨H.size, rfl, by unfold ck_up; rw [if_pos rfl], hz⟩ (ck_all_grow hzz g2), h4.newTy p2 p3 ?_, h5.new (by omega) p3 (fun q hl => by unfold ck_up; rw [if_neg (by omega)]) ⟨[], by simp⟩ (fun i c a hc ha ho => Or.inl ⟨c, hc, ha, ho⟩), h6, h7⟩
  unfold ck_ty
  rw [hτ]
  refine ⟨fun _ => defaultValue (newarray.typeOf t), by rw [← arrV_new]; exact p1, fun j _ => ck_kat_all (P := fun k => ck_R S (fun _ => 0) (ck_up G H.size τ) [] k (defaultValue (newarray.typeOf t))) (fun q hq => ?_) trivial j⟩
  have := List.all_eq_true.mp hdk q hq
  simp only [Bool.and_eq_true] at this
  exact (hdef _ _ _ _).le this.1
/-- a new array of primitives of one's own -/
theorem cw_newaOwn (hexec : p.tables.exec = Jvm.exec) (hb : c.code = cc) (hK : va_K D ck_cl (ck_tys AC) s) {ac n : Nat} {q : ck_Q} {t : ArrayType} (harr : (Cond.arrayClass (newarray.typeOf t)).before args s = true) (hat : ck_at ac = some t) (hq1 : q.1 = (n : Int)) (hq2 : q.2.1 = (n : Int)) (hn : n ≤ 60000) (hc : cells + 1 ≤ R.cells) (hs : slots + n ≤ R.slots) (hd : decode cc pc = .ok (.newarray t, 2))
    (kk : ck_W p l e R s m args below meth c Q D AC S tab L nL ρ0 wr G0 N0 H0 (pc + 2) (A, .inr (.inr (1, T.length)) :: st, T ++ [((1, ac), List.replicate n (ck_d0 ac))]) (cells + 1) (slots + n)) : ck_W p l e R s m args below meth c Q D AC S tab L nL ρ0 wr G0 N0 H0 pc (A, .inl q :: st, T) cells slots := by
  intro H ls vs locs h
  obtain ⟨ρ, G, N, lv, h1, h2, h3, h4, h5, h6, h7⟩ := h
  obtain ⟨_, vs', rfl, ⟨x, rfl, gx⟩, g2⟩ := h3.uncons
  obtain ⟨x1, x2, -⟩ := gx
  have hx : x.toNatClampNeg = n := by show x.toInt.toNat = n; omega
  have hx0 : ¬ x < 0 := fun h => by have := Int32.lt_iff_toInt_lt.mp h; have e0 : (0 : Int32).toInt = 0 := rfl; omega
  obtain ⟨hty, hdef⟩ := ck_at_ok hat
  have hcb : componentBytes (newarray.typeOf t) ≤ 8 := by cases t <;> decide
  refine W.newa hexec hb harr rfl hd rfl hx0 (by rw [hx]; have := Nat.mul_le_mul hn hcb; omega) hc (by rw [hx]; exact hs) fun cA kA comp f1 f2 f3 => ?_
  have hAC : cA = AC ac := by
    match ac, hat with
    | 0, hat => cases hat; exact Option.some.inj (f1.symm.trans (hK.2 0 _ rfl).2)
    | 1, hat => cases hat; exact Option.some.inj (f1.symm.trans (hK.2 1 _ rfl).2)
    | 2, hat => cases hat; exact Option.some.inj (f1.symm.trans (hK.2 2 _ rfl).2)
    | n + 3, hat => cases hat
  subst hAC
  rw [hx]
  obtain ⟨p1, p2, p3⟩ := ck_push_other H { cls := AC ac, slots := Array.replicate n (defaultValue (newarray.typeOf t)), vm := .none }
  generalize H.push { cls := AC ac, slots := Array.replicate n (defaultValue (newarray.typeOf t)), vm := .none } = H' at p1 p2 p3
  have hlen : N.length = T.length := h4.2.1
  refine kk H' ls _ locs ⟨ρ, G, N ++ [H.size], lv, h1, ck_allL_ext h2, ck_all.cons ⟨H.size, by rw [← hlen]; simp, rfl⟩ (ck_all_ext g2), h4.newNm (by omega) p3 ⟨h4.1.1, h4.zero (Nat.le_refl _), fun _ => defaultValue (newarray.typeOf t), by rw [← arrV_new, List.length_replicate]; exact p1, fun j v hj => ?_⟩, h5.new (by omega) p3 (fun q hl => rfl) ⟨_, rfl⟩ (fun i c a hc ha ho => ?_), h6, h7⟩
  · have := List.eq_of_mem_replicate (List.mem_of_getElem? hj)
    subst this
    exact hdef _ _ _ _
  · by_cases hi : i < T.length
    · rw [List.getElem?_append_left hi] at hc
      rw [List.getElem?_append_left (by omega)] at ha
      exact Or.inl ⟨c, hc, ha, ho⟩
    · rw [List.getElem?_append_right (by omega)] at ha
      have := List.mem_of_getElem? ha
      simp at this
      exact Or.inr (by omega)
/-- a new array of references of one's own -/
theorem cw_anew (hexec : p.tables.exec = Jvm.exec) (hb : c.code = cc) (hown : s.vm.findClass own = some m.cls) (hK : va_K D ck_cl (ck_tys AC) s) {ac n idx : Nat} {q : ck_Q} {C : String} (hty : ck_tyK ac = some (.object C)) (hcl : (Cond.classLink own idx C).before args s = true) (hov : (Cond.arrayOver (.object C)).before args s = true) (hq1 : q.1 = (n : Int)) (hq2 : q.2.1 = (n : Int)) (hn : n ≤ 60000) (hc : cells + 1 ≤ R.cells) (hs : slots + n ≤ R.slots) (hd : decode cc pc = .ok (.anewarray idx, 3))
    (kk : ck_W p l e R s m args below meth c Q D AC S tab L nL ρ0 wr G0 N0 H0 (pc + 3) (A, .inr (.inr (1, T.length)) :: st, T ++ [((1, ac), List.replicate n (.inr (.inr (0, 0))))]) (cells + 1) (slots + n)) : ck_W p l e R s m args below meth c Q D AC S tab L nL ρ0 wr G0 N0 H0 pc (A, .inl q :: st, T) cells slots := by
  intro H ls vs locs h
  obtain ⟨ρ, G, N, lv, h1, h2, h3, h4, h5, h6, h7⟩ := h
  obtain ⟨_, vs', rfl, ⟨x, rfl, gx⟩, g2⟩ := h3.uncons
  obtain ⟨x1, x2, -⟩ := gx
  have hx : x.toNatClampNeg = n := by show x.toInt.toNat = n; omega
  have hx0 : ¬ x < 0 := fun h => by have := Int32.lt_iff_toInt_lt.mp h; have e0 : (0 : Int32).toInt = 0 := rfl; omega
  refine W.anew hexec hb hown hcl hov rfl hd rfl hx0 (by rw [hx]; omega) hc (by rw [hx]; exact hs) fun cA kA comp f1 f2 f3 f4 => ?_
  have hAC : cA = AC ac := by
    match ac, hty with
    | 3, hty => cases hty; obtain ⟨_, _, _, _, _, f⟩ := (hK.2 3 _ rfl).2; exact Option.some.inj (f1.symm.trans f)
    | 4, hty => cases hty; obtain ⟨_, _, _, _, _, f⟩ := (hK.2 4 _ rfl).2; exact Option.some.inj (f1.symm.trans f)
    | 5, hty => cases hty; obtain ⟨_, _, _, _, _, f⟩ := (hK.2 5 _ rfl).2; exact Option.some.inj (f1.symm.trans f)
    | 6, hty => cases hty; obtain ⟨_, _, _, _, _, f⟩ := (hK.2 6 _ rfl).2; exact Option.some.inj (f1.symm.trans f)
    | 0, hty => cases hty
    | 1, hty => cases hty
    | 2, hty => cases hty
    | 7, hty => cases hty
    | n + 8, hty => cases hty
  subst hAC
  rw [hx]
  obtain ⟨p1, p2, p3⟩ := ck_push_other H { cls := AC ac, slots := Array.replicate n .null, vm := .none }
  generalize H.push { cls := AC ac, slots := Array.replicate n .null, vm := .none } = H' at p1 p2 p3
  have hlen : N.length = T.length := h4.2.1
  refine kk H' ls _ locs ⟨ρ, G, N ++ [H.size], lv, h1, ck_allL_ext h2, ck_all.cons ⟨H.size, by rw [← hlen]; simp, rfl⟩ (ck_all_ext g2), h4.newNm (by omega) p3 ⟨h4.1.1, h4.zero (Nat.le_refl _), fun _ => .null, by rw [← arrV_new, List.length_replicate]; exact p1, fun j v hj => ?_⟩, h5.new (by omega) p3 (fun q hl => rfl) ⟨_, rfl⟩ (fun i c a hc ha ho => ?_), h6, h7⟩
  · have := List.eq_of_mem_replicate (List.mem_of_getElem? hj)
    subst this
    exact rfl
  · by_cases hi : i < T.length
    · rw [List.getElem?_append_left hi] at hc
      rw [List.getElem?_append_left (by omega)] at ha
      exact Or.inl ⟨c, hc, ha, ho⟩
    · rw [List.getElem?_append_right (by omega)] at ha
      have := List.mem_of_getElem? ha
      simp at this
      exact Or.inr (by omega)
/-- a new object of one's own -/
theorem cw_new (hexec : p.tables.exec = Jvm.exec) (hb : c.code = cc) (hown : s.vm.findClass own = some m.cls) (hK : va_K D ck_cl (ck_tys AC) s) (hts : ∀ w ∈ ck_tb, w.before args s = true) {ci n idx : Nat} {C : String} {TT : u_T} (hcl : ck_cl[ci]? = some (C, TT, n)) (hlk : Cond.classLink own idx C ∈ ck_tb) (hc : cells + 1 ≤ R.cells) (hs : slots + n ≤ R.slots) (hd : decode cc pc = .ok (.new idx, 3))
    (kk : ck_W p l e R s m args below meth c Q D AC S tab L nL ρ0 wr G0 N0 H0 (pc + 3) (A, .inr (.inr (1, T.length)) :: st, T ++ [((0, ci), (List.range n).map (fun k => ck_dt (ck_yy ci k)))]) (cells + 1) (slots + n)) : ck_W p l e R s m args below meth c Q D AC S tab L nL ρ0 wr G0 N0 H0 pc (A, st, T) cells slots := by
  intro H ls vs locs h
  obtain ⟨ρ, G, N, lv, h1, h2, h3, h4, h5, h6, h7⟩ := h
  obtain ⟨w1, w2, w3, w4, w5, w6⟩ := ck_cls hcl
  have hKn := hK.1 ci _ hcl
  refine W.newcK hexec hb hown (hts _ hlk) (hts _ w5) (hts _ w6) rfl hd hc hs hKn.2.1 rfl fun H' kC k1 k2 k3 k4 => ?_
  have hlen : N.length = T.length := h4.2.1
  have hob := u_born (ck_yy ci) hts w1 hKn k1 k2 w2
  refine kk H' ls _ locs ⟨ρ, G, N ++ [H.size], lv, h1, ck_allL_ext h2, ck_all.cons ⟨H.size, by rw [← hlen]; simp, rfl⟩ (ck_all_ext h3), h4.newNm (by omega) k4 ⟨h4.1.1, h4.zero (Nat.le_refl _), (List.range n).map (fun k => defaultValue (ck_yy ci k)), ⟨C, TT, by simpa using hcl, ?_⟩, ?_⟩, h5.new (by omega) k4 (fun q hl => rfl) ⟨_, rfl⟩ (fun i c a hc ha ho => ?_), h6, h7⟩
  · simp only [List.length_map, List.length_range]
    exact hob.to (fun k hk => by simp [vp_V, List.getD_eq_getElem?_getD, hk])
  · refine ⟨by simp, fun i a b ha hb => ?_⟩
    simp only [List.getElem?_map] at ha hb
    obtain ⟨z, hz, rfl⟩ := Option.map_eq_some_iff.mp ha
    rw [hz] at hb
    cases hb
    exact ck_dt_ok _ _ _ _ _
  · by_cases hi : i < T.length
    · rw [List.getElem?_append_left hi] at hc
      rw [List.getElem?_append_left (by omega)] at ha
      exact Or.inl ⟨c, hc, ha, ho⟩
    · rw [List.getElem?_append_right (by omega)] at ha
      have := List.mem_of_getElem? ha
      simp at this
      exact Or.inr (by omega)
/-! System.arraycopy -/
theorem ck_copied (cs : Cell) (c1 : ClassId) {n1 sp dp n : Nat} (g : Nat → Value) : (arrV c1 n1 g).storeRun dp (cs.stretch sp n) = arrV c1 n1 (fun k => if dp ≤ k ∧ k < dp + n then cs.slots.getD (sp + (k - dp)) .null else g k) := by
  rw [Cell.storeRun, va_pairs]
  congr 1
  funext k
  unfold Cell.stretch
  simp only [List.length_map, List.length_range, Nat.add_zero]
  by_cases h : dp ≤ k ∧ k < dp + n
  · rw [if_pos h, if_pos h, List.getD_eq_getElem?_getD, List.getElem?_map, List.getElem?_range (by omega)]
    rfl
  · rw [if_neg h, if_neg h]
theorem cw_copy0 (hexec : p.tables.exec = Jvm.exec) (hb : c.code = cc) (hown : s.vm.findClass own = some m.cls) (hK : va_K D ck_cl (ck_tys AC) s) {idx : Nat} (hlink : (Cond.methodLink own idx arraycopyName).before args s = true) (hnat : (Cond.native arraycopyName).before args s = true) (hstat : (Cond.static arraycopyName).before args s = true) (hini : (Cond.initialized "java/lang/System").before args s = true)
    {H : Heap} {locs : List Loc} {ls : Array Slot} {rest : List Value} (hml : c.maxLocals = ls.size) {ac n1 a0 a : Nat} {cs : Cell} {g : Nat → Value} {ty : FieldType} (hty : ck_tyK ac = some ty) (hpr : ac = 0 ∨ ac = 1) (hcs : H[a0]? = some cs) (hsa : s.isArrayOf cs ty) (hkn : cs.vm ≠ .unknown) (hcd : H[a]? = some (arrV (AC ac) n1 g))
    {sp dp n : Int32} {sp' dp' n' : Nat} (e1 : sp.toInt = (sp' : Int)) (e2 : dp.toInt = (dp' : Int)) (e3 : n.toInt = (n' : Int)) (b1 : sp' + n' ≤ cs.slots.size) (b2 : dp' + n' ≤ n1) (hfit : ∀ i, i < n' → fits ty (cs.slots.getD (sp' + i) .null) = true)
    (hframes : 1 ≤ R.frames) (hlocals : (rest.map fun v => v.category).sum + (nativeFrameWords "java/lang/System" "arraycopy" 5 + 11) ≤ R.locals) (hd : decode cc pc = .ok (.invokestatic idx, 3))
    (kk : ∀ (H' : Heap) (M : List Loc), (∀ q ∈ M, q.base = a) → H'[a]? = some (arrV (AC ac) n1 (fun k => if dp' ≤ k ∧ k < dp' + n' then cs.slots.getD (sp' + (k - dp')) .null else g k)) → H'.size = H.size → (∀ q, q ≠ a → H'[q]? = H[q]?) → W p l e R s m args below meth c H' (locs ++ M) cells slots Q (F0 m (pc + 3) ls rest)) : W p l e R s m args below meth c H locs cells slots Q (F0 m pc ls (.int n :: .int dp :: .ref a :: .int sp :: .ref a0 :: rest)) := by
  intro T hT X
  have z0 : (0 : Int32).toInt = 0 := rfl
  have c1 : sp.toNatClampNeg = sp' := by show sp.toInt.toNat = sp'; omega
  have c2 : dp.toNatClampNeg = dp' := by show dp.toInt.toNat = dp'; omega
  have c3 : n.toNatClampNeg = n' := by show n.toInt.toNat = n'; omega
  obtain ⟨s0, k0, hk0, cm0, hkk0⟩ := hsa
  obtain ⟨-, k1, hk1, cm1, hkk1⟩ := ck_arrK hK (ck_tyK_ok hty) n1 g
  have hrk : refKind ty = false := by rcases hpr with rfl | rfl <;> (cases hty; rfl)
  obtain ⟨vm', X', step⟩ := X.arraycopy hexec hown hlink hnat hstat hini (src := a0) (dst := a) (cs := cs) (cd := arrV (AC ac) n1 g) (srcPos := sp) (destPos := dp) (n := n) (by rw [hT]; exact hcs) (by rw [hT]; exact hcd)
    s0 (fun _ h => by cases h) hkn (fun h => by cases h) hk0 hk1 hkk0 hkk1 (by simp [hrk]) (fun h => by have := Int32.lt_iff_toInt_lt.mp h; omega) (fun h => by have := Int32.lt_iff_toInt_lt.mp h; omega) (fun h => by have := Int32.lt_iff_toInt_lt.mp h; omega)
    (by omega) (by rw [arrV_size]; omega)
    (fun vm₁ _ i hi => by
      rw [c1]
      rw [c3] at hi
      have hf := hfit i hi
      refine ⟨hf, ?_⟩
      generalize cs.slots.getD (sp' + i) .null = w at hf
      rcases hpr with rfl | rfl
      · cases hty
        cases w <;> first | exact trivial | (simp [fits] at hf)
      · cases hty
        cases w <;> first | exact trivial | (simp [fits] at hf))
    (g := F0 m pc ls (.int n :: .int dp :: .ref a :: .int sp :: .ref a0 :: rest)) rfl (by rw [hml]) (rest := rest) rfl (by rw [hb]; exact hd) hframes (by show 2 * 0 + _ + _ ≤ _; omega)
  have e9 : copied cs (arrV (AC ac) n1 g) sp dp n = arrV (AC ac) n1 (fun k => if dp' ≤ k ∧ k < dp' + n' then cs.slots.getD (sp' + (k - dp')) .null else g k) := by
    unfold copied
    rw [c1, c2, c3]
    exact ck_copied cs (AC ac) g
  rw [e9] at X' step
  have hl : a < H.size := (Array.getElem?_eq_some_iff.mp hcd).1
  generalize hnc : arrV (AC ac) n1 (fun k => if dp' ≤ k ∧ k < dp' + n' then cs.slots.getD (sp' + (k - dp')) .null else g k) = nc at X' step kk
  have hheap : ((T.setVm vm').setCell a nc).heap = H.setIfInBounds a nc := by rw [← hT]; rfl
  obtain ⟨t, a1, b1⟩ := kk (H.setIfInBounds a nc) _ (fun q hq => by obtain ⟨z, -, hz⟩ := List.mem_map.mp hq; rw [← hz]) (by simp [Array.getElem?_setIfInBounds, hl]) (by simp) (fun q hq => by simp [Array.getElem?_setIfInBounds, Ne.symm hq]) _ hheap X'
  exact ⟨t, step t a1, b1⟩
/-- copying into a typed array, out of a typed or a static one -/
theorem cw_copy (hexec : p.tables.exec = Jvm.exec) (hb : c.code = cc) (hown : s.vm.findClass own = some m.cls) (hK : va_K D ck_cl (ck_tys AC) s) {idx : Nat} (hlink : (Cond.methodLink own idx arraycopyName).before args s = true) (hnat : (Cond.native arraycopyName).before args s = true) (hstat : (Cond.static arraycopyName).before args s = true) (hini : (Cond.initialized "java/lang/System").before args s = true)
    (hml : c.maxLocals = nL) {v : ck_V} {τ ac n0 n1 sp dp n : Nat} {sg sg0 : List (Nat × ck_V)} {ty : FieldType} (hty : ck_tyK ac = some ty) (hpr : ac = 0 ∨ ac = 1) (hτ : tab[τ]? = some (.inl (ac, n1, sg))) (hcp : ∀ j, j < n → ck_plain (ck_kat sg0 (sp + j)) = true ∧ ck_prim ac (ck_kat sg0 (sp + j)) = true ∧ ck_le (ck_kat sg0 (sp + j)) (ck_kat sg (dp + j)) = true) (hwr : τ ∈ wr) (hno : ∀ (j : Nat) (d : ck_C), T[j]? = some d → ck_foc d → d.1.2 ≠ τ)
    (hv : (∃ σ, v = .inr (.inr (2, σ)) ∧ tab[σ]? = some (.inl (ac, n0, sg0))) ∨ (∃ j, v = .inr (.inr (3, j)) ∧ ac = 0 ∧ ck_sta S L s j n0 ∧ sg0 = [(n0, ck_full)]))
    (b1 : sp + n ≤ n0) (b2 : dp + n ≤ n1) {qs qd qn : ck_Q} (e1 : qs.1 = (sp : Int) ∧ qs.2.1 = (sp : Int)) (e2 : qd.1 = (dp : Int) ∧ qd.2.1 = (dp : Int)) (e3 : qn.1 = (n : Int) ∧ qn.2.1 = (n : Int))
    (hst : st.all ck_kn = true) (hframes : 1 ≤ R.frames) (hlocals : ck_words st + (nativeFrameWords "java/lang/System" "arraycopy" 5 + 11) ≤ R.locals) (hd : decode cc pc = .ok (.invokestatic idx, 3))
    (kk : ck_W p l e R s m args below meth c Q D AC S tab L nL ρ0 wr G0 N0 H0 (pc + 3) (A, st, T) cells slots) : ck_W p l e R s m args below meth c Q D AC S tab L nL ρ0 wr G0 N0 H0 pc (A, .inl qn :: .inl qd :: .inr (.inr (2, τ)) :: .inl qs :: v :: st, T) cells slots := by
  intro H ls vs locs h
  obtain ⟨ρ, G, N, lv, h1, h2, h3, h4, h5, h6, h7⟩ := h
  obtain ⟨_, _, rfl, ⟨xn, rfl, gn⟩, g1⟩ := h3.uncons
  obtain ⟨_, _, rfl, ⟨xd, rfl, gd⟩, g2⟩ := g1.uncons
  obtain ⟨_, _, rfl, ⟨a, rfl, ha, hz⟩, g3⟩ := g2.uncons
  obtain ⟨_, _, rfl, ⟨xs, rfl, gs⟩, g4⟩ := g3.uncons
  obtain ⟨w, vs', rfl, hw, g5⟩ := g4.uncons
  have hG : G a ≠ 0 := by rw [ha]; exact hz
  obtain ⟨l1, ht⟩ := h4.1.2.2 a hG
  rw [ha] at ht
  unfold ck_ty at ht
  rw [hτ] at ht
  obtain ⟨g, z1, z2⟩ := ht
  have key : ∃ (a0 : Nat) (cs : Cell), w = .ref a0 ∧ H[a0]? = some cs ∧ s.isArrayOf cs ty ∧ cs.vm ≠ .unknown ∧ cs.slots.size = n0 ∧ ∀ j, sp ≤ j → j < sp + n → ck_R S (fun _ => 0) G [] (ck_kat sg0 j) (cs.slots.getD j .null) := by
    rcases hv with ⟨σ, rfl, hσ⟩ | ⟨j, rfl, rfl, hs, rfl⟩
    · obtain ⟨a0, rfl, hb0, hz0⟩ := hw
      have ht := (h4.1.2.2 a0 (by rw [hb0]; exact hz0)).2
      rw [hb0] at ht
      unfold ck_ty at ht
      rw [hσ] at ht
      obtain ⟨f, y1, y2⟩ := ht
      refine ⟨a0, _, rfl, y1, ck_arrK hK (ck_tyK_ok hty) n0 f, (fun q => by cases q), arrV_size _ _ _, fun j j1 j2 => ?_⟩
      rw [Array.getD_eq_getD_getElem?, arrV_read _ _ (by omega)]
      exact y2 j (by omega)
    · cases hw
      obtain ⟨cell, c1, c2, c3, c4, c5, c6⟩ := hs
      cases hty
      refine ⟨S j, cell, rfl, by rw [h4.1.2.1 _ c2]; exact c1, c3, c4, c5, fun j' j1 j2 => ?_⟩
      obtain ⟨x, hx⟩ := c6 j' (by omega)
      rw [Array.getD_eq_getD_getElem?, hx]
      have e9 : ck_kat [(n0, ck_full)] j' = ck_full := by
        unfold ck_kat
        rw [if_pos (by omega)]
      rw [e9]
      exact ⟨x, rfl, (ck_i32 x).1, (ck_i32 x).2, fun g c q => by cases q⟩
  obtain ⟨a0, cs, rfl, k1, k2, k3, k4, k5⟩ := key
  refine cw_copy0 hexec hb hown hK hlink hnat hstat hini (by rw [hml]; exact h1.1.symm) hty hpr k1 k2 k3 z1 (sp' := sp) (dp' := dp) (n' := n) (by have := gs.1; have := gs.2.1; omega) (by have := gd.1; have := gd.2.1; omega) (by have := gn.1; have := gn.2.1; omega) (by omega) b2 (fun i hi => ?_) hframes (by rw [ck_words_ok g5 hst]; exact hlocals) hd fun H' M hM o1 o2 o3 => kk H' ls vs' _ ⟨ρ, G, N, lv, h1, h2, g5, ?_, ?_, ?_, h7⟩
  · have y := k5 (sp + i) (by omega) (by omega)
    have hpk := (hcp i hi).2.1
    generalize ck_kat sg0 (sp + i) = ks at hpk y
    rcases hpr with rfl | rfl
    · cases hty
      match ks, hpk, y with
      | .inl q, _, y => obtain ⟨x, hx, -⟩ := y; rw [hx]; rfl
    · cases hty
      match ks, hpk, y with
      | .inr (.inl q), _, y => obtain ⟨x, hx, -⟩ := y; rw [hx]; rfl
  · refine h4.putTy hG o2 o3 ?_ (fun i' d hi h3 hN => ?_)
    · rw [ha]
      unfold ck_ty
      rw [hτ]
      refine ⟨_, o1, fun j0 hj0 => ?_⟩
      split
      · rename_i hin
        have := (k5 (sp + (j0 - dp)) (by omega) (by omega)).le (hcp (j0 - dp) (by omega)).2.2
        rw [show dp + (j0 - dp) = j0 by omega] at this
        exact this
      · exact z2 j0 hj0
    · exact hno i' d hi h3 (((h4.2.2.1 i' d a hi hN).foc h3).1.symm.trans ha)
  · exact h5.put o2 o3 (Or.inl ⟨hG, by rw [ha]; exact hwr⟩) (fun i c hi ho => ⟨c, hi, ho⟩)
  · intro q hq
    rcases List.mem_append.mp hq with z | z
    · exact h6 q z
    · rw [hM q z]; exact l1
/-- a static field that holds a static array -/
theorem cw_gets (hexec : p.tables.exec = Jvm.exec) (hb : c.code = cc) (hown : s.vm.findClass own = some m.cls) {idx j : Nat} {C nm ds : String} (hZ : va_Z C nm ds (.ref (S j)) (fun q => L.size ≤ q) s L) (hlink : (Cond.fieldLink own idx C nm ds).before args s = true) (hd : decode cc pc = .ok (.getstatic idx, 3))
    (kk : ck_W p l e R s m args below meth c Q D AC S tab L nL ρ0 wr G0 N0 H0 (pc + 3) (A, .inr (.inr (3, j)) :: st, T) cells slots) : ck_W p l e R s m args below meth c Q D AC S tab L nL ρ0 wr G0 N0 H0 pc (A, st, T) cells slots := by
  intro H ls vs locs h
  obtain ⟨ρ, G, N, lv, h1, h2, h3, h4, h5, h6, h7⟩ := h
  obtain ⟨cf, kf, fi, f, a, cell, y1, y2, y3, y4, y5, y6, y7, y8⟩ := hZ
  have hal : a < L.size := by omega
  exact W.gets hexec hb hown hlink y1 y2 y3 y4 (by rw [h4.1.2.1 a hal]; exact y5) (fun e => by rw [e] at y6; cases y6) y7 rfl hd (kk H ls _ locs ⟨ρ, G, N, lv, h1, h2, ck_all.cons rfl h3, h4, h5, h6, h7⟩)
end CKN
end
section
/-! ===== an array of arrays; names given up to a type; a typed object named; ghosts ===== -/
section CKO
variable {p : Program} {l : Launch} {e : Env} {R : Room} {s : State} {m : MethodId} {args : Array Value} {below : List Frame} {meth : Method} {c : Code} {cells slots : Nat} {Q : State → Prop}
variable {cc : ByteArray} {pc pc2 nL : Nat} {D : va_G} {AC : Nat → ClassId} {S : Nat → Nat} {tab : List ck_D} {L : Heap} {ρ0 : Nat → Int} {wr : List Nat} {G0 : Nat → Nat} {N0 : List Nat} {H0 : Heap}
variable {A : List (Nat × ck_V)} {st : List ck_V} {T : List ck_C} {own : String}
/-- many new typed cells at once -/
theorem ck_H.newMany {ρ : Nat → Int} {G G' : Nat → Nat} {N : List Nat} {H H' : Heap} (h : ck_H D AC S tab L ρ G N T H) (hs : H.size ≤ H'.size) (hq : ∀ q, q < H.size → H'[q]? = H[q]?) (hG : ∀ q, q < H.size → G' q = G q) (hc : ∀ q, H.size ≤ q → G' q ≠ 0 → ck_ty D AC S tab G' (G' q) q H') : ck_H D AC S tab L ρ G' N T H' := by
  have hz : ∀ q, G q ≠ 0 → G' q = G q := fun q hne => by
    by_cases hl : q < H.size
    · exact hG q hl
    · exact absurd (h.zero (by omega)) hne
  have hnm := @ck_H.named D AC S tab L ρ G N T H h
  obtain ⟨⟨k1, k2, k3⟩, hlen, hT, hnd⟩ := h
  refine ⟨⟨by omega, fun q hl => by rw [hq q (by omega)]; exact k2 q hl, fun b hb => ?_⟩, hlen, fun j d b hj hb => ?_, hnd⟩
  · by_cases hl : b < H.size
    · have hb' : G b ≠ 0 := by rw [← hG b hl]; exact hb
      have := k3 b hb'
      refine ⟨this.1, ?_⟩
      rw [hG b hl]
      exact (this.2.grow hz).kept (hq b hl)
    · exact ⟨by omega, hc b (by omega) hb⟩
  · have hh := hT j d b hj hb
    have key : ck_own d = true ∨ ck_foc d → b < H.size := fun hk => hnm hj hb hk
    have h1 : ck_tc D AC S tab L ρ G' N H d b := by
      have := hh.mapV (ρ' := ρ) (G' := G') (N' := N) id (fun o => hG b (key (Or.inl o))) (fun o => hG b (key (Or.inr o))) (fun k v _ hv => hv.grow hz)
      simpa using this
    refine h1.kept fun hk => hq b (key ?_)
    rcases hk with z | z | z
    · exact Or.inl (by simp [ck_own, z])
    · exact Or.inl (by simp [ck_own, z])
    · exact Or.inr z
/-- new int[n][k], typed -/
theorem cw_multi (hexec : p.tables.exec = Jvm.exec) (hb : c.code = cc) (hown : s.vm.findClass own = some m.cls) (hK : va_K D ck_cl (ck_tys AC) s) {idx τo τi n k : Nat} {sgo sgi : List (Nat × ck_V)} {qn qk : ck_Q} (hclk : (Cond.classLink own idx "[[I").before args s = true) (hover : (Cond.arrayOver (.array .int)).before args s = true) (harr : (Cond.arrayClass .int).before args s = true)
    (ho : tab[τo]? = some (.inl (7, n, sgo))) (hi : tab[τi]? = some (.inl (0, k, sgi))) (zo : τo ≠ 0) (zi : τi ≠ 0) (hso : sgo.all (fun q => ck_le (.inr (.inr (2, τi))) q.2) = true) (hsi : ck_dk 0 sgi = true) (hn : qn.1 = (n : Int) ∧ qn.2.1 = (n : Int)) (hk : qk.1 = (k : Int) ∧ qk.2.1 = (k : Int)) (hn6 : n ≤ 60000) (hk6 : k ≤ 60000)
    (hc : cells + (1 + n) ≤ R.cells) (hs : slots + (n + n * k) ≤ R.slots) (hd : decode cc pc = .ok (.multianewarray idx 2, 4))
    (kk : ck_W p l e R s m args below meth c Q D AC S tab L nL ρ0 wr G0 N0 H0 (pc + 4) (A, .inr (.inr (2, τo)) :: st, T) (cells + 1 + n) (slots + n + n * k)) : ck_W p l e R s m args below meth c Q D AC S tab L nL ρ0 wr G0 N0 H0 pc (A, .inl qk :: .inl qn :: st, T) cells slots := by
  intro H ls vs locs h
  obtain ⟨ρ, G, N, lv, h1, h2, h3, h4, h5, h6, h7⟩ := h
  obtain ⟨_, _, rfl, ⟨xk, rfl, gk⟩, g1⟩ := h3.uncons
  obtain ⟨_, vs', rfl, ⟨xn, rfl, gn⟩, g2⟩ := g1.uncons
  have z0 : (0 : Int32).toInt = 0 := rfl
  have cn : xn.toNatClampNeg = n := by show xn.toInt.toNat = n; have := gn.1; have := gn.2.1; omega
  have ck : xk.toNatClampNeg = k := by show xk.toInt.toNat = k; have := gk.1; have := gk.2.1; omega
  intro U hU X
  obtain ⟨vm₁, cA, comp, -, fA, fC, hO, -, X', step⟩ := X.multianewarray2F hexec hown (ty := .int) hclk hover harr (g := F0 m pc ls (.int xk :: .int xn :: vs')) rfl (by rw [hb]; exact hd) rfl (fun h => by have := Int32.lt_iff_toInt_lt.mp h; have := gn.1; have := gn.2.1; omega) (fun h => by have := Int32.lt_iff_toInt_lt.mp h; have := gk.1; have := gk.2.1; omega) (by rw [cn]; omega) (by rw [ck]; show k * 4 ≤ _; omega) (by rw [ck]; omega) rfl rfl (by rw [cn]; exact hc) (by rw [cn, ck]; exact hs)
  have eI : comp = AC 0 := Option.some.inj (fC.symm.trans (hK.2 0 _ rfl).2)
  have eO : cA = AC 7 := Option.some.inj (fA.symm.trans (hK.2 7 _ rfl).2)
  subst eI
  subst eO
  rw [cn, ck] at X' step
  generalize hF : Jvm.Free.Multi.fill (U.setVm vm₁) (AC 7) (AC 0) n k (defaultValue .int) n = F at X' step
  have hTh : (U.setVm vm₁).heap = H := hU
  obtain ⟨f1, f2, -, -⟩ := Jvm.Free.Multi.fill_facts (U.setVm vm₁) (AC 7) (AC 0) n k (defaultValue .int) n
  rw [hF, hTh] at f1 f2
  have hold : ∀ x : Nat, x < H.size → F.heap[x]? = H[x]? := fun x hx => by
    have := Jvm.Free.Multi.fill_old (U.setVm vm₁) (AC 7) (AC 0) n k (defaultValue .int) (a := x) (by rw [hTh]; exact hx) n
    rw [hF, hTh] at this
    exact this
  have hrow : ∀ j : Nat, j < n → F.heap[H.size + 1 + j]? = some (arrV (AC 0) k (fun _ => .int 0)) := fun j hj => by
    have := Jvm.Free.Multi.fill_inner (U.setVm vm₁) (AC 7) (AC 0) n k (defaultValue .int) n j hj
    rw [hF, hTh] at this
    rw [this, ← arrV_new]
    rfl
  have hout : ∀ (N h0 i : Nat), Jvm.Free.Multi.outerC (AC 7) N h0 i = arrV (AC 7) N (fun j => if j < i then .ref (h0 + 1 + j) else .null) := by
    intro N h0 i
    induction i with
    | zero =>
      show ({ cls := AC 7, slots := Array.replicate N .null, vm := .none } : Cell) = _
      rw [arrV_new]
      exact congrArg (arrV (AC 7) N) (funext fun j => by simp)
    | succ i ih =>
      show (Jvm.Free.Multi.outerC (AC 7) N h0 i).setSlot i (.ref (h0 + 1 + i)) = _
      rw [ih, arrV_store]
      refine congrArg (arrV (AC 7) N) (funext fun j => ?_)
      by_cases e : j = i
      · subst e
        simp [updV]
      · by_cases h : j < i
        · simp [updV, e, h, Nat.lt_succ_of_lt h]
        · simp [updV, e, h, show ¬ j < i + 1 by omega]
  rw [hout] at f2
  have hG' : ∀ q, q < H.size → (fun q => if q = H.size then τo else if H.size < q ∧ q < H.size + 1 + n then τi else G q) q = G q := fun q hq => by
    show (if q = H.size then τo else if H.size < q ∧ q < H.size + 1 + n then τi else G q) = G q
    rw [if_neg (by omega), if_neg (by omega)]
  generalize hGe : (fun q => if q = H.size then τo else if H.size < q ∧ q < H.size + 1 + n then τi else G q) = G' at hG'
  have ge : ∀ q, G' q = if q = H.size then τo else if H.size < q ∧ q < H.size + 1 + n then τi else G q := fun q => by rw [← hGe]
  have hzz : ∀ q, G q ≠ 0 → G' q = G q := fun q hne => by
    by_cases hl : q < H.size
    · exact hG' q hl
    · exact absurd (h4.zero (by omega)) hne
  have hH : ck_H D AC S tab L ρ G' N T F.heap := by
    refine h4.newMany (by omega) hold hG' (fun q hq hne => ?_)
    by_cases e1 : q = H.size
    · subst e1
      have e2 : G' H.size = τo := by rw [ge, if_pos rfl]
      rw [e2]
      unfold ck_ty
      rw [ho]
      refine ⟨_, f2, fun j hj => ?_⟩
      rw [if_pos hj]
      refine ck_kat_all (P := fun kd => ck_R S (fun _ => 0) G' [] kd (.ref (H.size + 1 + j))) (fun q hq => ?_) trivial j
      have := List.all_eq_true.mp hso q hq
      refine ck_R.le this ⟨H.size + 1 + j, rfl, ?_, zi⟩
      rw [ge, if_neg (by omega), if_pos (by omega)]
    · by_cases e2 : H.size < q ∧ q < H.size + 1 + n
      · have e3 : G' q = τi := by rw [ge, if_neg e1, if_pos e2]
        rw [e3]
        unfold ck_ty
        rw [hi]
        have := hrow (q - H.size - 1) (by omega)
        rw [show H.size + 1 + (q - H.size - 1) = q by omega] at this
        refine ⟨_, this, fun j hj => ?_⟩
        refine ck_kat_all (P := fun kd => ck_R S (fun _ => 0) G' [] kd (.int 0)) (fun q hq => ?_) trivial j
        have := List.all_eq_true.mp hsi q hq
        simp only [Bool.and_eq_true] at this
        exact ck_R.le this.1 ⟨0, rfl, by decide, by decide, fun g c q => by cases q⟩
      · exfalso
        apply hne
        rw [ge, if_neg e1, if_neg e2]
        exact h4.zero hq
  obtain ⟨t, a1, b1⟩ := kk F.heap ls (.ref H.size :: vs') locs ⟨ρ, G', N, lv, h1, ck_allL_grow hzz h2, ck_all.cons ⟨H.size, rfl, by rw [ge, if_pos rfl], zo⟩ (ck_all_grow hzz g2), hH, h5.new (by omega) hold hG' ⟨[], by simp⟩ (fun i c a hc ha ho => Or.inl ⟨c, hc, ha, ho⟩), h6, h7⟩ F rfl X'
  refine ⟨t, step t ?_, b1⟩
  have e : U.heap.size = H.size := by rw [hU]
  rw [e]
  exact a1
/-! a cell of one's own is given up to a type -/
def ck_cv (i τ : Nat) : ck_V → ck_V
  | .inr (.inr (1, j)) => if i == j then .inr (.inr (2, τ)) else .inr (.inr (1, j))
  | x => x
def ck_clo (i τ : Nat) (A : ck_A) : ck_A := (A.1.map (fun q => (q.1, ck_cv i τ q.2)), A.2.1.map (ck_cv i τ), (A.2.2.set i ((2, 0), [])).map (fun c => (c.1, c.2.map (ck_cv i τ))))
theorem ck_cv_ok {i τ a : Nat} {ρ : Nat → Int} {G : Nat → Nat} {N : List Nat} {k : ck_V} {v : Value} (hi : N[i]? = some a) (ha : G a = 0) (hz : τ ≠ 0) (h : ck_R S ρ G N k v) : ck_R S ρ (ck_up G a τ) N (ck_cv i τ k) v := by
  have hg : ∀ q, G q ≠ 0 → ck_up G a τ q = G q := fun q hne => by
    unfold ck_up
    rw [if_neg (fun e => hne (by rw [e]; exact ha))]
  match k, h with
  | .inl q, h => exact h
  | .inr (.inl q), h => exact h
  | .inr (.inr (0, _)), h => exact h
  | .inr (.inr (1, j)), h =>
    obtain ⟨b, h1, h2⟩ := h
    show ck_R S ρ (ck_up G a τ) N (if i == j then .inr (.inr (2, τ)) else .inr (.inr (1, j))) v
    by_cases e : (i == j) = true
    · rw [if_pos e]
      have e : i = j := by simpa using e
      subst e
      cases hi.symm.trans h1
      exact ⟨a, h2, by unfold ck_up; rw [if_pos rfl], hz⟩
    · rw [if_neg e]
      exact ⟨b, h1, h2⟩
  | .inr (.inr (2, τ')), h => exact h.grow hg
  | .inr (.inr (3, j)), h => exact h
  | .inr (.inr (4, _)), h => exact h
  | .inr (.inr (n + 5, _)), h => exact h
/-- does a cell of one's own fit a type? -/
def ck_fitsT (tab : List ck_D) (i τ : Nat) (c : ck_C) : Bool := match tab[τ]?, c.1 with
  | some (.inr (ci, ks)), (0, cj) => ci == cj && ks.length == c.2.length && (ks.zip c.2).all (fun q => ck_le (ck_cv i τ q.2) q.1 && ck_plain q.1)
  | some (.inl (ac, n, sg)), (1, ad) => ac == ad && n == c.2.length && (c.2.zipIdx).all (fun q => ck_le (ck_cv i τ q.1) (ck_kat sg q.2) && ck_plain (ck_kat sg q.2))
  | _, _ => false
theorem ck_fitsT_ok {i τ a : Nat} {c : ck_C} {ρ : Nat → Int} {G : Nat → Nat} {N : List Nat} {H : Heap} (hf : ck_fitsT tab i τ c = true) (ht : ck_tc D AC S tab L ρ G N H c a) (hi : N[i]? = some a) (hz : τ ≠ 0) : ck_ty D AC S tab (ck_up G a τ) τ a H ∧ ck_own c = true := by
  unfold ck_fitsT at hf
  obtain ⟨⟨k, n⟩, fs⟩ := c
  split at hf
  · rename_i ci ks cj h1 h2
    cases h2
    obtain ⟨l1, l2, vs, z1, z2⟩ := ht
    simp only [Bool.and_eq_true, beq_iff_eq] at hf
    obtain ⟨⟨e1, e2⟩, e3⟩ := hf
    subst e1
    refine ⟨?_, rfl⟩
    unfold ck_ty
    rw [h1]
    refine ⟨vs, z1, by rw [e2]; exact z2.1, fun j kd v hk hv => ?_⟩
    have hj : j < fs.length := by rw [← e2]; exact (List.getElem?_eq_some_iff.mp hk).1
    have hfj : fs[j]? = some fs[j] := List.getElem?_eq_getElem hj
    have hm : (kd, fs[j]) ∈ ks.zip fs := List.mem_of_getElem? (i := j) (by rw [List.getElem?_zip_eq_some]; exact ⟨hk, hfj⟩)
    have := List.all_eq_true.mp e3 _ hm
    simp only [Bool.and_eq_true] at this
    exact ((ck_cv_ok hi l2 hz (z2.2 j _ _ hfj hv)).le this.1).plain this.2
  · rename_i ac n' sg ad h1 h2
    cases h2
    obtain ⟨l1, l2, f, z1, z2⟩ := ht
    simp only [Bool.and_eq_true, beq_iff_eq] at hf
    obtain ⟨⟨e1, e2⟩, e3⟩ := hf
    subst e1
    subst e2
    refine ⟨?_, rfl⟩
    unfold ck_ty
    rw [h1]
    refine ⟨f, z1, fun j hj => ?_⟩
    have hfj : fs[j]? = some fs[j] := List.getElem?_eq_getElem hj
    have hm : (fs[j], j) ∈ fs.zipIdx := List.mem_of_getElem? (i := j) (by rw [List.getElem?_zipIdx, hfj]; simp)
    have := List.all_eq_true.mp e3 _ hm
    simp only [Bool.and_eq_true] at this
    exact ((ck_cv_ok hi l2 hz (z2 j _ hfj)).le this.1).plain this.2
  · cases hf
theorem cw_close {B : ck_A} {i τ : Nat} {d : ck_C} (hi : B.2.2[i]? = some d) (hf : ck_fitsT tab i τ d = true) (hz : τ ≠ 0) (hn : N0.length ≤ i)
    (kk : ck_W p l e R s m args below meth c Q D AC S tab L nL ρ0 wr G0 N0 H0 pc (ck_clo i τ B) cells slots) : ck_W p l e R s m args below meth c Q D AC S tab L nL ρ0 wr G0 N0 H0 pc B cells slots := by
  intro H ls vs locs h
  obtain ⟨ρ, G, N, lv, h1, h2, h3, h4, h5, h6, h7⟩ := h
  obtain ⟨⟨k1, k2, k3⟩, hlen, hT, hnd⟩ := id h4
  have hil : i < B.2.2.length := (List.getElem?_eq_some_iff.mp hi).1
  have ha : N[i]? = some N[i] := List.getElem?_eq_getElem (by omega)
  generalize N[i] = a at ha
  have htc := hT i d a hi ha
  obtain ⟨hty, hod⟩ := ck_fitsT_ok hf htc ha hz
  obtain ⟨a1, a2, a3⟩ := htc.own hod
  have hzz : ∀ q, G q ≠ 0 → ck_up G a τ q = G q := fun q hne => by
    unfold ck_up
    rw [if_neg (fun e => hne (by rw [e]; exact a2))]
  have hdi : ∀ (j : Nat) (d' : ck_C) (b : Nat), (B.2.2.set i ((2, 0), []))[j]? = some d' → N[j]? = some b → (j = i ∧ d' = ((2, 0), [])) ∨ (j ≠ i ∧ B.2.2[j]? = some d' ∧ (ck_own d' = true ∨ ck_foc d' → b ≠ a)) := by
    intro j d' b hj hb
    by_cases ej : i = j
    · subst ej
      rw [List.getElem?_set_self hil] at hj
      cases hj
      exact Or.inl ⟨rfl, rfl⟩
    · rw [List.getElem?_set_ne ej] at hj
      refine Or.inr ⟨Ne.symm ej, hj, fun hk eb => ?_⟩
      subst eb
      rcases hk with o | o
      · exact ej (hnd i j d d' b hi hj hod o ha hb)
      · have := (hT j d' b hj hb).foc o
        exact this.2.1 (this.1.symm.trans a2)
  refine kk H ls vs locs ⟨ρ, ck_up G a τ, N, lv, h1, h2.map _ (fun q w hq => ⟨hq.1, ck_cv_ok ha a2 hz hq.2⟩), h3.map _ (fun q w hq => ck_cv_ok ha a2 hz hq), ⟨⟨k1, k2, fun b hb => ?_⟩, by simp [ck_clo, hlen], fun j d' b hj hb => ?_, fun j1 j2 d1 d2 b e1 e2 o1 o2 n1 n2 => ?_⟩, ?_, h6, h7⟩
  · by_cases e : b = a
    · subst e
      have : ck_up G b τ b = τ := by unfold ck_up; rw [if_pos rfl]
      rw [this]
      exact ⟨a1, hty⟩
    · have e2 : ck_up G a τ b = G b := by unfold ck_up; rw [if_neg e]
      rw [e2] at hb ⊢
      exact ⟨(k3 b hb).1, (k3 b hb).2.grow hzz⟩
  · simp only [ck_clo, List.getElem?_map] at hj
    obtain ⟨d0, hd0, rfl⟩ := Option.map_eq_some_iff.mp hj
    rcases hdi j d0 b hd0 hb with ⟨-, rfl⟩ | ⟨-, hj', hne⟩
    · exact trivial
    · exact (hT j d0 b hj' hb).mapV (ck_cv i τ) (fun o => by unfold ck_up; rw [if_neg (hne (Or.inl o))]) (fun o => by unfold ck_up; rw [if_neg (hne (Or.inr o))]) (fun k v _ hv => ck_cv_ok ha a2 hz hv)
  · simp only [ck_clo, List.getElem?_map] at e1 e2
    obtain ⟨d1', hd1, rfl⟩ := Option.map_eq_some_iff.mp e1
    obtain ⟨d2', hd2, rfl⟩ := Option.map_eq_some_iff.mp e2
    rcases hdi j1 d1' b hd1 n1 with ⟨-, rfl⟩ | ⟨-, x1, -⟩
    · simp [ck_own] at o1
    · rcases hdi j2 d2' b hd2 n2 with ⟨-, rfl⟩ | ⟨-, x2, -⟩
      · simp [ck_own] at o2
      · exact hnd j1 j2 d1' d2' b x1 x2 o1 o2 n1 n2
  · obtain ⟨f1, f2, f3, f4, f5, f6⟩ := h5
    have hia := f6 i d a hi ha hod hn
    refine ⟨f1, fun q hq => ?_, f3, f4, f5, fun j d' b hj hb ho hn' => ?_⟩
    · unfold ck_up
      rw [if_neg (by omega)]
      exact f2 q hq
    · simp only [ck_clo, List.getElem?_map] at hj
      obtain ⟨d0, hd0, rfl⟩ := Option.map_eq_some_iff.mp hj
      rcases hdi j d0 b hd0 hb with ⟨-, rfl⟩ | ⟨-, x1, -⟩
      · simp [ck_own] at ho
      · exact f6 j d0 b x1 hb ho hn'
/-! ghosts: one that nobody uses is set -/
def ck_ug (g : Nat) : ck_V → Bool
  | .inl (_, _, some (h, _)) => g == h
  | _ => false
def ck_ugA (g : Nat) (A : ck_A) : Bool := A.1.any (fun q => ck_ug g q.2) || A.2.1.any (ck_ug g) || A.2.2.any (fun c => c.2.any (ck_ug g))
theorem ck_R.ghost {ρ ρ' : Nat → Int} {G : Nat → Nat} {N : List Nat} {k : ck_V} {v : Value} {g : Nat} (hg : ∀ h, h ≠ g → ρ' h = ρ h) (hk : ck_ug g k = false) (h : ck_R S ρ G N k v) : ck_R S ρ' G N k v := by
  match k, hk, h with
  | .inl (a, b, none), _, h =>
    obtain ⟨x, e, x1, x2, -⟩ := h
    exact ⟨x, e, x1, x2, fun g c q => by cases q⟩
  | .inl (a, b, some (t, n)), hk, h =>
    obtain ⟨x, e, x1, x2, x3⟩ := h
    refine ⟨x, e, x1, x2, fun g' c' q => ?_⟩
    cases q
    have hne : ¬ g = t := by simpa [ck_ug] using hk
    rw [hg t (Ne.symm hne)]
    exact x3 t n rfl
  | .inr (.inl q), _, h => exact h
  | .inr (.inr (0, _)), _, h => exact h
  | .inr (.inr (1, i)), _, h => exact h
  | .inr (.inr (2, τ)), _, h => exact h
  | .inr (.inr (3, j)), _, h => exact h
  | .inr (.inr (4, _)), _, h => exact h
  | .inr (.inr (n + 5, _)), _, h => exact h
end CKO
end
section
/-! ===== what holds at every method's beginning; contracts ===== -/
theorem ck_AOA {A A' : Array Value} {t : FieldType} {u U : State} (hvm : u.vm.Alike U.vm) (h : (Cond.arrayOver (.array t)).before A u = true) : (Cond.arrayOver (.array t)).before A' U = true := by
  obtain ⟨comp, c, k, h1, h2, h3, h4, h5⟩ := arrayOverA_spec h
  obtain ⟨k', hk', he⟩ := hvm.2.2 _ _ h3
  have hi : (U.vm.classes.findIdx? fun (x : Class) => match x.kind with | .array component _ => component == comp | _ => false) = some c := by
    rw [hvm.findIdx?_eq _ (fun _ => rfl)]
    exact h2
  have hkind : k'.kind = .array comp (.array t) := by rw [he]; exact h4
  have f1 : U.vm.findClass (FieldType.array t).toString = some comp := by rw [hvm.findClass]; exact h1
  have f2 : U.vm.findClass ("[" ++ (FieldType.array t).toString) = some c := by rw [hvm.findClass]; exact h5
  unfold Cond.before Cond.holds
  simp only [Cond.value]
  rw [f1, Option.bind_some]
  refine (congrArg (fun o : Option Nat => (o.bind (fun c => (U.vm.classes[c]?).map fun (k : Class) => match k.kind with | .array _ ty => decide (ty = FieldType.array t) && decide (U.vm.findClass ("[" ++ (FieldType.array t).toString) = some c) | _ => false) == some true)) hi).trans ?_
  simp [hk', hkind, f2]
theorem ck_move {args args' : Array Value} {s U : State} {w : Cond} (hm : ck_mv w = true) (hW : s.WarmedH U.vm) (h : w.before args s = true) : w.before args' U = true := by
  unfold ck_mv at hm
  split at hm
  · exact va_Nw.use rfl (va_Nw.warmM hW (va_Nw.of rfl h))
  · exact word_at hW (Or.inr ⟨_, rfl⟩) h
  · exact va_AO.use (va_AO.moved hW.alike (va_AO.of h))
  · exact ck_AOA hW.alike h
  · simp only [Bool.and_eq_true, Bool.or_eq_true] at hm
    rcases hm.2 with k | k
    · exact word_at hW (Or.inl (by simp [hm.1, k])) h
    · have h1 := Cond.before_shiftedFace (args := args) (State.Shifted.of_warmed hW) _ k h
      exact va_tabs hm.1 (rfl : (s.setVm U.vm).vm = U.vm) h1
/-- a static field that holds a reference: all that is asked of it -/
def ck_ls (o n d : String) (L : Heap) (s : State) : Prop := ∃ (c : ClassId) (k : Class) (i : Nat) (f : Field) (a : Nat) (cell : Cell) (v : Value), s.vm.findClass o = some c ∧ s.fieldFound? o n d = some (c, k, i, f) ∧ f.isStatic = true ∧ k.statics = some a ∧ L[a]? = some cell ∧ cell.vm.isStatics = true ∧ cell.cls = c ∧ f.slot < cell.slots.size ∧ k.staticTypes[f.slot]? = some f.type ∧ cell.slots[f.slot]? = some v ∧ (v = .null ∨ ∃ t, v = .ref t)
theorem ck_ls.moved {o n d : String} {L : Heap} {u U : State} (hvm : u.vm.Alike U.vm) (h : ck_ls o n d L u) : ck_ls o n d L U := by
  obtain ⟨c, k, i, f, a, cell, v, h1, h2, h3, h4, h5, h6, h7, h8, h9, h10, h11⟩ := h
  obtain ⟨k', hi', he⟩ := State.fieldFound?_setVm hvm h2
  exact ⟨c, k', i, f, a, cell, v, by rw [hvm.findClass]; exact h1, hi', h3, by rw [he]; exact h4, h5, h6, h7, h8, by rw [he]; exact h9, h10, h11⟩
theorem ck_ls.of {o n d : String} {args : Array Value} {s : State} (hl : (Cond.laysStatic o n d).before args s = true) (hr : (Cond.isRef (.static o n d)).before args s = true) : ck_ls o n d s.heap s := by
  obtain ⟨c, k, i, f, a, cell, h1, h2, h3, h4, h5, h6, h7, h8, h9⟩ := Cond.laysStatic_spec hl
  cases hv : (Term.static o n d).eval args s none [] s with
  | none => simp [Cond.before, Cond.holds, Cond.value, hv] at hr
  | some w =>
    obtain ⟨-, a', cell', ha', hcell', -, hslot⟩ := Term.static_spec h2 hv
    cases h4.symm.trans ha'
    cases h5.symm.trans hcell'
    refine ⟨c, k, i, f, a, cell, w, h1, h2, h3, h4, h5, h6, h7, h8, h9, hslot, ?_⟩
    simp only [Cond.before, Cond.holds, Cond.value, hv] at hr
    cases w with
    | null => exact Or.inl rfl
    | ref t => exact Or.inr ⟨t, rfl⟩
    | _ => simp at hr
theorem ck_ls.lays {o n d : String} {L : Heap} {args : Array Value} {s : State} (h : ck_ls o n d L s) (hq : ∀ q, q < L.size → s.heap[q]? = L[q]?) : (Cond.laysStatic o n d).before args s = true := by
  obtain ⟨c, k, i, f, a, cell, v, h1, h2, h3, h4, h5, h6, h7, h8, h9, h10, h11⟩ := h
  have h5' : s.heap[a]? = some cell := by rw [hq a (Array.getElem?_eq_some_iff.mp h5).1]; exact h5
  simp [Cond.before, Cond.holds, Cond.value, h1, h2, h3, h4, h5', h6, h7, h8, h9]
theorem ck_ls.isref {o n d : String} {L : Heap} {args : Array Value} {s : State} (h : ck_ls o n d L s) (hq : ∀ q, q < L.size → s.heap[q]? = L[q]?) : (Cond.isRef (.static o n d)).before args s = true := by
  obtain ⟨c, k, i, f, a, cell, v, h1, h2, h3, h4, h5, h6, h7, h8, h9, h10, h11⟩ := h
  have h5' : s.heap[a]? = some cell := by rw [hq a (Array.getElem?_eq_some_iff.mp h5).1]; exact h5
  have hn : s.fieldNamed? o n d true = some (c, k, f.slot) := by
    unfold State.fieldNamed?
    simp [h2, h3]
  have hev : (Term.static o n d).eval args s none [] s = some v := by
    simp [Term.eval, hn, h4, h5', h6, h10]
  rcases h11 with rfl | ⟨t, rfl⟩ <;> simp [Cond.before, Cond.holds, Cond.value, hev]
def ck_strs : List (String × Nat × String) := [("RatchetDesk", 274, "there is no such thing"), ("RatchetDesk", 279, "there is no room for one more"), ("RatchetDesk", 132, "nobody begins with himself"), ("RatchetDesk", 189, "not a byte")]
def ck_xn (x : Nat) : String := if x == 0 then "java/lang/IndexOutOfBoundsException" else if x == 1 then "java/lang/IllegalStateException" else "java/lang/IllegalArgumentException"
def ck_tN : String := "java/lang/Throwable"
def ck_Kf (D : va_G) (AC : Nat → ClassId) (S : Nat → Nat) (L : Heap) (s : State) (nS : Nat) : Prop :=
  va_K D ck_cl (ck_tys AC) s ∧ (∀ w ∈ ck_tb, w.before #[] s = true) ∧ va_Z "RatchetDesk$Hash" "SQUARE_ROOTS" "[I" (.ref (S 0)) (fun q => L.size ≤ q) s L ∧ ck_sta S L s 0 8 ∧ va_Z "RatchetDesk$Hash" "CUBE_ROOTS" "[I" (.ref (S 1)) (fun q => L.size ≤ q) s L ∧ ck_sta S L s 1 64 ∧ ck_sta S L s 2 nS ∧
  ck_ls "java/lang/Throwable" "UNASSIGNED_STACK" "[Ljava/lang/StackTraceElement;" L s ∧ ck_ls "java/lang/Throwable" "SUPPRESSED_SENTINEL" "Ljava/util/List;" L s ∧ (∀ q ∈ ck_strs, ∃ a, vk_R q.1 q.2.1 q.2.2 a s) ∧ ∀ x y : Nat, x < 3 → y < 3 → x ≠ y → va_Nc (ck_xn x) (ck_xn y) s
theorem ck_sta.moved {S : Nat → Nat} {L : Heap} {u U : State} {j n : Nat} (hvm : u.vm.Alike U.vm) (h : ck_sta S L u j n) : ck_sta S L U j n := by
  obtain ⟨cell, h1, h2, h3, h4⟩ := h
  exact ⟨cell, h1, h2, State.isArrayOf_alike hvm h3, h4⟩
theorem ck_Kf.moved {D : va_G} {AC : Nat → ClassId} {S : Nat → Nat} {L : Heap} {s U : State} {nS : Nat} (hW : s.WarmedH U.vm) (h : ck_Kf D AC S L s nS) : ck_Kf D AC S L U nS := by
  obtain ⟨h1, h2, h3, h4, h5, h6, h7, h8, h9, h10, h11⟩ := h
  exact ⟨h1.moved hW.alike, fun w hw => ck_move (List.mem_filter.mp hw).2 hW (h2 w hw), h3.moved hW.alike, h4.moved hW.alike, h5.moved hW.alike, h6.moved hW.alike, h7.moved hW.alike, h8.moved hW.alike, h9.moved hW.alike, fun q hq => by
    obtain ⟨a, ha⟩ := h10 q hq
    exact ⟨a, ha.warm hW⟩, fun x y hx hy hne => (h11 x y hx hy hne).moved hW.alike⟩
theorem ck_Kf.ts {D : va_G} {AC : Nat → ClassId} {S : Nat → Nat} {L : Heap} {s : State} {nS : Nat} (h : ck_Kf D AC S L s nS) {args : Array Value} : ∀ w ∈ ck_tb, w.before args s = true := fun w hw => ck_move (List.mem_filter.mp hw).2 (State.WarmedH.refl s) (h.2.1 w hw)
/-! contracts: arguments; named cells before and behind; the answer, or the exception; frames, words, cells, slots -/
abbrev ck_Ct : Type := List ck_V × List ck_C × List ck_C × (Option ck_V ⊕ Nat) × (Nat × Nat × Nat × Nat)
/-- a contract of several endings, and the types that may be written -/
abbrev ck_Kt : Type := ck_Ct × List (List ck_C × (Option ck_V ⊕ Nat)) × List Nat
def ck_alt (K : ck_Ct) (a : List ck_C × (Option ck_V ⊕ Nat)) : ck_Ct := (K.1, K.2.1, a.1, a.2, K.2.2.2.2)
abbrev ck_M : Type := MethodName × ByteArray × Nat × Option FieldType × List (Nat × Nat × Nat × Nat)
def ck_tagF (b : Nat) : List ck_V → Nat → List ck_V
  | [], _ => []
  | .inl (lo, hi, _) :: t, k => .inl (lo, hi, some (b + k, 0)) :: ck_tagF b t (k + 1)
  | x :: t, k => x :: ck_tagF b t (k + 1)
def ck_etag : List ck_C → List ck_C
  | [] => []
  | (h, fs) :: t => (h, ck_tagF 100 fs 0) :: t
def ck_Ps (D : va_G) (AC : Nat → ClassId) (S : Nat → Nat) (tab : List ck_D) (L : Heap) (ρ0 : Nat → Int) (wr : List Nat) (G0 : Nat → Nat) (N0 : List Nat) (H0 : Heap) (s : State) (K : ck_Ct) (o : Outcome) (H : Heap) : Prop :=
  ∃ (ρ : Nat → Int) (G : Nat → Nat) (N : List Nat), ck_H D AC S tab L ρ G N K.2.2.1 H ∧ ck_F wr G0 N0 H0 G N K.2.2.1 H ∧ (∀ g, 100 ≤ g → g < 200 → ρ g = ρ0 g) ∧ match K.2.2.2.1 with
    | .inl none => o = .returned none
    | .inl (some k) => ∃ w, o = .returned (some w) ∧ ck_R S ρ G N k w
    | .inr x => ∃ (a : Nat) (cell : Cell), o = .threw a ∧ H[a]? = some cell ∧ cell.vm.isStatics = false ∧ s.vm.findClass (ck_xn x) = some cell.cls
def ck_Fin (D : va_G) (AC : Nat → ClassId) (S : Nat → Nat) (tab : List ck_D) (L : Heap) (ρ0 : Nat → Int) (wr : List Nat) (G0 : Nat → Nat) (N0 : List Nat) (K : ck_Ct) (below : List Frame) (s : State) : State → Prop := fun t =>
  ∃ o, t.status = .running ∧ Ended t below o ∧ s.WarmedH t.vm ∧ (∃ Ls : List Loc, s.sameButNew ({ t with vm := s.vm } : State) Ls K.2.2.2.2.2.2.1 K.2.2.2.2.2.2.2 ∧ ∀ q ∈ Ls, L.size ≤ q.base) ∧ ck_Ps D AC S tab L ρ0 wr G0 N0 s.heap s K o t.heap
def ck_B (p : Program) (s : State) (m : MethodId) (meth : Method) (c : Code) (M : ck_M) : Prop :=
  p.tables.exec = Jvm.exec ∧ c.code = M.2.1 ∧ c.maxLocals = M.2.2.1 ∧ meth.sig.returnType = M.2.2.2.1 ∧ meth.locks = false ∧ s.vm.findClass M.1.cls = some m.cls ∧ c.exceptionTable.toList.map (fun h => (h.startPc, h.endPc, h.handlerPc, h.catchType)) = M.2.2.2.2 ∧ meth.name = M.1.name
def ck_Ok (l : Launch) (tab : List ck_D) (nb : Nat × Nat) (M : ck_M) (X : ck_Kt) : Prop :=
  ∀ (p : Program) (e : Env) (R : Room) (s : State) (m : MethodId) (args : Array Value) (below : List Frame) (meth : Method) (c : Code) (D : va_G) (AC : Nat → ClassId) (S : Nat → Nat) (L : Heap) (ρ0 : Nat → Int) (G0 : Nat → Nat) (N0 : List Nat) (vs : List Value) (n : Nat), nb.1 ≤ n → n ≤ nb.2 →
    ck_B p s m meth c M → e.platform.stackTraces = false → X.1.2.2.2.2.1 ≤ R.frames → X.1.2.2.2.2.2.1 ≤ R.locals → X.1.2.2.2.2.2.2.1 ≤ R.cells → X.1.2.2.2.2.2.2.2 ≤ R.slots → ck_Kf D AC S L s n → args = vs.toArray → ck_all (ck_R S ρ0 G0 N0) X.1.1 vs → ck_H D AC S tab L ρ0 G0 N0 (ck_etag X.1.2.1) s.heap →
    W p l e R s m args below meth c s.heap [] 0 0 (fun t => ∃ a ∈ X.2.1, ck_Fin D AC S tab L ρ0 X.2.2 G0 N0 (ck_alt X.1 a) below s t) (entryFrame m args M.2.2.1)
/-! entering and leaving a called method -/
theorem ck_weaken {tb : Tables} {e : Env} {mid below : List Frame} {a b : State} (h : Steps tb e (mid ++ below) a b) : Steps tb e below a b := by
  obtain ⟨n, h1, h2⟩ := h
  exact ⟨n, h1, fun k hk => (h2 k hk).weaken⟩
section CKI
variable {p : Program} {l : Launch} {e : Env} {R : Room} {s : State} {m : MethodId} {args : Array Value} {below : List Frame} {meth : Method} {c : Code} {T : State} {locs : List Loc} {cells slots : Nat}
def ck_Inv (p : Program) (l : Launch) (e : Env) (R : Room) (s : State) (m : MethodId) (args : Array Value) (below : List Frame) (meth : Method) (c : Code) (locs : List Loc) (cells slots : Nat) (T : State) (y : MethodName) (g : JFrame) (rest : List Value) (a : Array Value) : Prop :=
  ∃ (vm₁ : Vm) (mk : MethodId), s.WarmedH vm₁ ∧ Stand p l e R s m args below meth c (T.setVm vm₁) locs cells slots ∧ s.methodNamed? y = some mk ∧ ∀ target, Steps p.tables e below (doInvoke e ((T.setVm vm₁).setTop { g with stack := rest }) [] mk a).1 target → Steps p.tables e below (T.setTop g) target
/-- a method is called, and either comes back, or its exception does -/
theorem ck_call {tab : List ck_D} {nb : Nat × Nat} {nS : Nat} {M : ck_M} {X : ck_Kt} (hO : ck_Ok l tab nb M X) (hn1 : nb.1 ≤ nS) (hn2 : nS ≤ nb.2) {g : JFrame} {rest : List Value} {a : Array Value} (hinv : ck_Inv p l e R s m args below meth c locs cells slots T M.1 g rest a) (hexec : p.tables.exec = Jvm.exec) (hg : g.method = m) (hsize : g.locals.size = c.maxLocals) {ig : Instr} (hdg : decode c.code g.pc = .ok (ig, 3))
    (hcode : (Cond.codeWith M.1 M.2.1 M.2.2.1 M.2.2.2.1 M.2.2.2.2).before args s = true) (hplain : plainName M.1.cls = true) (htr : e.platform.stackTraces = false) (hfr : X.1.2.2.2.2.1 + 1 ≤ R.frames) (hlo : 2 * g.monitorRoom + (rest.map fun v => v.category).sum + (M.2.2.1 + 11) + X.1.2.2.2.2.2.1 ≤ R.locals) (hce : cells + X.1.2.2.2.2.2.2.1 ≤ R.cells) (hsl : slots + X.1.2.2.2.2.2.2.2 ≤ R.slots)
    {D : va_G} {AC : Nat → ClassId} {S : Nat → Nat} {L : Heap} {ρ0 : Nat → Int} {G0 : Nat → Nat} {N0 : List Nat} {vs : List Value} (hK : ck_Kf D AC S L s nS) (ha : a = vs.toArray) (hv : ck_all (ck_R S ρ0 G0 N0) X.1.1 vs) (hH : ck_H D AC S tab L ρ0 G0 N0 (ck_etag X.1.2.1) T.heap) :
    ∃ (T' : State) (Ls : List Loc) (o : Outcome) (U : State) (al : List ck_C × (Option ck_V ⊕ Nat)), al ∈ X.2.1 ∧ Stand p l e R s m args below meth c T' (locs ++ Ls) (cells + X.1.2.2.2.2.2.2.1) (slots + X.1.2.2.2.2.2.2.2) ∧ (∀ q ∈ Ls, L.size ≤ q.base) ∧ s.WarmedH U.vm ∧ ck_Ps D AC S tab L ρ0 X.2.2 G0 N0 T.heap U (ck_alt X.1 al) o T'.heap ∧
      (∀ v, o = .returned v → ∀ target, Steps p.tables e below (T'.setTop { g with pc := g.pc + 3, stack := v.toList ++ rest }) target → Steps p.tables e below (T.setTop g) target) ∧
      (∀ x, o = .threw x → ∀ target, Steps p.tables e below ((T'.setTop { g with stack := rest }).pushFrame (.throwing x)) target → Steps p.tables e below (T.setTop g) target) := by
  obtain ⟨vm₁, mk, hW₁, Y0, hn, hstep⟩ := hinv
  obtain ⟨m9, methk, ck, hn9, hm9, hc9, hb9, hl9, ht9, hr9, hk9, -⟩ := Cond.codeWith_spec hcode
  cases hn.symm.trans hn9
  have hmk : (T.setVm vm₁).vm.method? mk = some methk := by
    show vm₁.method? mk = some methk
    rw [hW₁.alike.method?]; exact hm9
  have hnT : (T.setVm vm₁).methodNamed? M.1 = some mk := Y0.named hn
  have hpk : (T.setVm vm₁).plainMethod mk := State.plainMethod.of_name (fun k hk => by
    obtain ⟨k', hk', hnm⟩ := className_of_methodNamed hnT
    cases hk.symm.trans hk'
    rw [hnm]; exact hplain)
  obtain ⟨Y, hent⟩ := Y0.into (g := { g with stack := rest }) hg hsize hdg a (R' := { frames := X.1.2.2.2.2.1, locals := X.1.2.2.2.2.2.1, cells := X.1.2.2.2.2.2.2.1, slots := X.1.2.2.2.2.2.2.2 }) hmk hc9 hk9 hpk hfr (by rw [hl9]; exact hlo) hce hsl
  have hclass : ((T.setVm vm₁).calling { g with stack := rest } mk a).vm.findClass M.1.cls = some mk.cls := findClass_of_methodNamed (s := (T.setVm vm₁)) hnT
  have hname : methk.name = M.1.name := (name_of_methodNamed hn hm9).1
  have hWc : s.WarmedH ((T.setVm vm₁).calling { g with stack := rest } mk a).vm := hW₁
  have w := hO p e { frames := X.1.2.2.2.2.1, locals := X.1.2.2.2.2.2.1, cells := X.1.2.2.2.2.2.2.1, slots := X.1.2.2.2.2.2.2.2 } ((T.setVm vm₁).calling { g with stack := rest } mk a) mk a (.java { g with stack := rest } :: below) methk ck D AC S L ρ0 G0 N0 vs nS hn1 hn2 ⟨hexec, hb9, hl9, hr9, hk9, hclass, ht9, hname⟩ htr (Nat.le_refl _) (Nat.le_refl _) (Nat.le_refl _) (Nat.le_refl _) (hK.moved hWc) ha hv hH
  obtain ⟨t, st, al, hal, o, hrun, hend, hWt, ⟨Ls, hsame, hLs⟩, hps⟩ := w (((T.setVm vm₁).setTop { g with stack := rest }).pushFrame (.java (entryFrame mk a ck.maxLocals))) rfl Y
  have st2 : Steps p.tables e below (doInvoke e ((T.setVm vm₁).setTop { g with stack := rest }) [] mk a).1 t := by
    rw [hent []]
    rw [hl9] at st ⊢
    exact ck_weaken (mid := [.java { g with stack := rest }]) st
  cases o with
  | returned v =>
    obtain ⟨T', X', hWT, hsm, et⟩ := Y0.outOf (g := { g with stack := rest }) hg hdg hend hWt hsame
    refine ⟨T', Ls, .returned v, (T.setVm vm₁).calling { g with stack := rest } mk a, al, hal, X', hLs, hWc, ?_, ?_, ?_⟩
    · have : t.heap = T'.heap := by rw [et]; rfl
      rw [← this]
      exact hps
    · intro v' hv' target htg
      cases hv'
      refine hstep target (st2.trans ?_)
      rw [et]
      exact htg
    · intro x hx
      cases hx
  | threw x =>
    obtain ⟨T', X', hWT, hsm, et⟩ := Y0.outOfThrown (g := { g with stack := rest }) hg hend hWt hsame
    refine ⟨T', Ls, .threw x, (T.setVm vm₁).calling { g with stack := rest } mk a, al, hal, X', hLs, hWc, ?_, ?_, ?_⟩
    · have : t.heap = T'.heap := by rw [et]; rfl
      rw [← this]
      exact hps
    · intro v' hv'
      cases hv'
    · intro x' hx target htg
      cases hx
      refine hstep target (st2.trans ?_)
      rw [et]
      exact htg
end CKI
end
section
/-! ===== a call, abstractly: what the called one asks, what it leaves ===== -/
def ck_unf (T : List ck_C) : ck_V → ck_V
  | .inr (.inr (1, i)) => match T[i]? with
    | some ((3, τ), _) => .inr (.inr (2, τ))
    | some ((_ + 7, τ), _) => .inr (.inr (2, τ))
    | _ => .inr (.inr (1, i))
  | x => x
def ck_la (T : List ck_C) (μ : List Nat) (k : ck_V) : ck_V → Bool
  | .inr (.inr (1, j)) => match μ[j]? with
    | some i => decide (k = .inr (.inr (1, i)))
    | none => false
  | k' => ck_le (ck_unf T k) k' && ck_plain k'
def ck_lc (T : List ck_C) (μ : List Nat) (c c' : ck_C) : Bool := c.1 == c'.1 && (c.1.1 == 0 || c.1.1 == 1 || c.1.1 == 5 || c.1.1 == 3 || decide (7 ≤ c.1.1)) && c.2.length == c'.2.length && (c.2.zip c'.2).all (fun q => ck_la T μ q.1 q.2)
def ck_cpre (T : List ck_C) (μ : List Nat) (pre : List ck_C) : Bool := μ.length == pre.length && (μ.zip pre).all (fun q => match T[q.1]? with
    | some c => ck_lc T μ c q.2
    | none => false) && decide μ.Nodup
/-- between two more bounds -/
def ck_isc (lo hi : Int) : ck_V → ck_V
  | .inl (a, b, t) => .inl (ck_max lo a, ck_min hi b, t)
  | x => x
def ck_pv (f0 : List ck_V) (μ : List Nat) : ck_V → ck_V
  | .inl (lo, hi, some (g, d)) => if 100 ≤ g ∧ g < 200 then (match f0[g - 100]? with
    | some (.inl q) => ck_isc lo hi (ck_add q (d, d, none))
    | _ => .inl (lo, hi, none)) else .inl (lo, hi, none)
  | .inr (.inr (1, j)) => match μ[j]? with
    | some i => .inr (.inr (1, i))
    | none => .inr (.inr (8, 0))
  | x => x
def ck_rst (tab : List ck_D) (wr : List Nat) (c : ck_C) : ck_C := match c.1 with
  | (3, τ) => if wr.contains τ then (match tab[τ]? with
    | some (.inr (_, ks)) => if ks.all ck_plain then ((3, τ), ks) else ((2, 0), [])
    | _ => ((2, 0), [])) else c
  | (k + 7, τ) => if wr.contains τ then ((2, 0), []) else c
  | _ => c
def ck_f0 (T : List ck_C) (μ : List Nat) : List ck_V := match μ with
  | [] => []
  | i :: _ => match T[i]? with
    | some c => c.2
    | none => []
def ck_mu (T : List ck_C) (μ : List Nat) (post : List ck_C) : List Nat := μ ++ (List.range (post.length - μ.length)).map (fun k => T.length + k)
def ck_cp1 (tab : List ck_D) (wr : List Nat) (f0 : List ck_V) (μ μ' : List Nat) (post : List ck_C) (i : Nat) (c : ck_C) : ck_C := match μ.findIdx? (fun k => k == i) with
  | some j => match post[j]? with
    | some d => (d.1, d.2.map (ck_pv f0 μ'))
    | none => ((2, 0), [])
  | none => ck_rst tab wr c
def ck_cpost (tab : List ck_D) (wr : List Nat) (T : List ck_C) (μ : List Nat) (post : List ck_C) : List ck_C :=
  (T.mapIdx (fun i c => ck_cp1 tab wr (ck_f0 T μ) μ (ck_mu T μ post) post i c)) ++ (post.drop μ.length).map (fun d => (d.1, d.2.map (ck_pv (ck_f0 T μ) (ck_mu T μ post))))
section CKC
variable {D : va_G} {AC : Nat → ClassId} {S : Nat → Nat} {tab : List ck_D} {L : Heap} {ρ : Nat → Int} {G : Nat → Nat} {N : List Nat} {T : List ck_C} {H H' : Heap}
theorem ck_unf_ok (h4 : ck_H D AC S tab L ρ G N T H) {k : ck_V} {v : Value} (h : ck_R S ρ G N k v) : ck_R S ρ G N (ck_unf T k) v := by
  match k, h with
  | .inl q, h => exact h
  | .inr (.inl q), h => exact h
  | .inr (.inr (0, _)), h => exact h
  | .inr (.inr (1, i)), h =>
    show ck_R S ρ G N (match T[i]? with | some ((3, τ), _) => .inr (.inr (2, τ)) | some ((_ + 7, τ), _) => .inr (.inr (2, τ)) | _ => .inr (.inr (1, i))) v
    split
    · rename_i τ fs hi
      obtain ⟨a, ha, rfl⟩ := h
      obtain ⟨e1, e2, -⟩ := h4.2.2.1 i _ a hi ha
      exact ⟨a, rfl, e1, e2⟩
    · rename_i k7 τ fs hi
      obtain ⟨a, ha, rfl⟩ := h
      obtain ⟨e1, e2, -⟩ := h4.2.2.1 i _ a hi ha
      exact ⟨a, rfl, e1, e2⟩
    · exact h
  | .inr (.inr (2, τ)), h => exact h
  | .inr (.inr (3, j)), h => exact h
  | .inr (.inr (4, _)), h => exact h
  | .inr (.inr (n + 5, _)), h => exact h
/-- an argument, or a field, as the called one sees it -/
theorem ck_la_ok (h4 : ck_H D AC S tab L ρ G N T H) {μ : List Nat} {ρ0 : Nat → Int} {N0 : List Nat} (hN : ∀ (j i : Nat), μ[j]? = some i → N0[j]? = N[i]?) {k k' : ck_V} {v : Value} (hl : ck_la T μ k k' = true) (h : ck_R S ρ G N k v) : ck_R S ρ0 G N0 k' v := by
  have key : ∀ k' : ck_V, (ck_le (ck_unf T k) k' && ck_plain k') = true → ck_R S ρ0 G N0 k' v := by
    intro k' hl
    simp only [Bool.and_eq_true] at hl
    exact ((ck_unf_ok h4 h).le hl.1).plain hl.2
  match k', hl with
  | .inl q, hl => exact key _ hl
  | .inr (.inl q), hl => exact key _ hl
  | .inr (.inr (0, n)), hl => exact key _ hl
  | .inr (.inr (1, j)), hl =>
    have hl : (match μ[j]? with | some i => decide (k = .inr (.inr (1, i))) | none => false) = true := hl
    split at hl
    · rename_i i hi
      have e : k = .inr (.inr (1, i)) := by simpa using hl
      subst e
      obtain ⟨a, ha, rfl⟩ := h
      exact ⟨a, by rw [hN j i hi]; exact ha, rfl⟩
    · cases hl
  | .inr (.inr (2, τ)), hl => exact key _ hl
  | .inr (.inr (3, n)), hl => exact key _ hl
  | .inr (.inr (4, n)), hl => exact key _ hl
  | .inr (.inr (n + 5, n')), hl => exact key _ hl
theorem ck_tagF_get (b : Nat) : ∀ (fs : List ck_V) (k0 k : Nat), (ck_tagF b fs k0)[k]? = (fs[k]?).map (fun v => match v with | .inl (lo, hi, _) => .inl (lo, hi, some (b + (k0 + k), 0)) | x => x)
  | [], k0, k => by simp [ck_tagF]
  | .inl (lo, hi, t) :: r, k0, k => by
    cases k with
    | zero => simp [ck_tagF]
    | succ k =>
      show (ck_tagF b r (k0 + 1))[k]? = _
      rw [ck_tagF_get b r (k0 + 1) k]
      simp [Nat.add_comm, Nat.add_left_comm]
  | .inr x :: r, k0, k => by
    cases k with
    | zero => simp [ck_tagF]
    | succ k =>
      show (ck_tagF b r (k0 + 1))[k]? = _
      rw [ck_tagF_get b r (k0 + 1) k]
      simp [Nat.add_comm, Nat.add_left_comm]
theorem ck_tagF_len (b : Nat) : ∀ (fs : List ck_V) (k0 : Nat), (ck_tagF b fs k0).length = fs.length
  | [], _ => rfl
  | .inl (lo, hi, t) :: r, k0 => by simp [ck_tagF, ck_tagF_len b r]
  | .inr x :: r, k0 => by simp [ck_tagF, ck_tagF_len b r]
def ck_iv (v : Option Value) : Int := match v with
  | some (.int x) => x.toInt
  | _ => 0
/-- the values of a cell's fields -/
theorem ck_vals {c : ck_C} {a : Nat} (h : ck_tc D AC S tab L ρ G N H c a) (hk : c.1.1 = 0 ∨ c.1.1 = 1 ∨ c.1.1 = 5 ∨ ck_foc c) : ∃ f : Nat → Value, (∀ (j : Nat) (v : ck_V), c.2[j]? = some v → ck_R S ρ G N v (f j)) ∧ ∀ (ρ' : Nat → Int) (N' : List Nat) (c' : ck_C), c'.1 = c.1 → c'.2.length = c.2.length → (∀ (j : Nat) (v : ck_V), c'.2[j]? = some v → ck_R S ρ' G N' v (f j)) → ck_tc D AC S tab L ρ' G N' H c' a := by
  obtain ⟨⟨k, n⟩, fs⟩ := c
  unfold ck_foc at hk
  dsimp only at hk
  rcases hk with rfl | rfl | rfl | rfl | h7
  · obtain ⟨l1, l2, vs, z1, z2⟩ := h
    refine ⟨fun j => vs.getD j .null, fun j v hj => ?_, fun ρ' N' c' e1 e2 hc => ?_⟩
    · obtain ⟨b, y1, y2⟩ := z2.get hj
      show ck_R S ρ G N v (vs.getD j .null)
      rw [List.getD_eq_getElem?_getD, y1]
      exact y2
    · obtain ⟨⟨k', n'⟩, fs'⟩ := c'
      cases e1
      refine ⟨l1, l2, vs, z1, by rw [e2]; exact z2.1, fun j x y hx hy => ?_⟩
      have : ck_R S ρ' G N' x (vs.getD j .null) := hc j x hx
      rw [List.getD_eq_getElem?_getD, hy] at this
      exact this
  · obtain ⟨l1, l2, f, z1, z2⟩ := h
    refine ⟨f, z2, fun ρ' N' c' e1 e2 hc => ?_⟩
    obtain ⟨⟨k', n'⟩, fs'⟩ := c'
    cases e1
    exact ⟨l1, l2, f, by rw [e2]; exact z1, hc⟩
  · obtain ⟨l1, cell, l2, l3, z2⟩ := h
    refine ⟨fun j => cell.slots.getD j .null, fun j v hj => ?_, fun ρ' N' c' e1 e2 hc => ?_⟩
    · obtain ⟨w, y1, y2⟩ := z2 j v hj
      show ck_R S ρ G N v (cell.slots.getD j .null)
      rw [Array.getD_eq_getD_getElem?, y1]
      exact y2
    · obtain ⟨⟨k', n'⟩, fs'⟩ := c'
      cases e1
      refine ⟨l1, cell, l2, l3, fun j v hj => ?_⟩
      have h9 : j < fs.length := by rw [← e2]; exact (List.getElem?_eq_some_iff.mp hj).1
      obtain ⟨w, y1, -⟩ := z2 j _ (List.getElem?_eq_getElem h9)
      have : ck_R S ρ' G N' v (cell.slots.getD j .null) := hc j v hj
      rw [Array.getD_eq_getD_getElem?, y1] at this
      exact ⟨w, y1, this⟩
  · obtain ⟨l1, l2, ci, ks, vs, z0, z1, z2⟩ := h
    dsimp only at z2
    refine ⟨fun j => vs.getD j .null, fun j v hj => ?_, fun ρ' N' c' e1 e2 hc => ?_⟩
    · obtain ⟨b, y1, y2⟩ := z2.get hj
      show ck_R S ρ G N v (vs.getD j .null)
      rw [List.getD_eq_getElem?_getD, y1]
      exact y2
    · obtain ⟨⟨k', n'⟩, fs'⟩ := c'
      cases e1
      refine ⟨l1, l2, ci, ks, vs, z0, z1, by dsimp only at e2 ⊢; rw [e2]; exact z2.1, fun j x y hx hy => ?_⟩
      have : ck_R S ρ' G N' x (vs.getD j .null) := hc j x hx
      rw [List.getD_eq_getElem?_getD, hy] at this
      exact this
  · obtain ⟨k', rfl⟩ : ∃ k', k = k' + 7 := ⟨k - 7, by omega⟩
    obtain ⟨l1, l2, ac, n0, sg, f, z0, z1, z2, z3⟩ := h
    refine ⟨fun j => f (k' + j), z3, fun ρ' N' c' e1 e2 hc => ?_⟩
    obtain ⟨⟨k9, n9⟩, fs'⟩ := c'
    cases e1
    exact ⟨l1, l2, ac, n0, sg, f, z0, z1, by dsimp only at e2 z2 ⊢; omega, hc⟩
theorem ck_lc_ok {T : List ck_C} {μ : List Nat} {c c' : ck_C} (h : ck_lc T μ c c' = true) : c.1 = c'.1 ∧ (c.1.1 = 0 ∨ c.1.1 = 1 ∨ c.1.1 = 5 ∨ ck_foc c) ∧ c.2.length = c'.2.length ∧ (c.2.zip c'.2).all (fun q => ck_la T μ q.1 q.2) = true := by
  unfold ck_lc at h
  simp only [Bool.and_eq_true, Bool.or_eq_true, beq_iff_eq, decide_eq_true_eq] at h
  obtain ⟨⟨⟨e1, k⟩, e2⟩, e3⟩ := h
  refine ⟨e1, ?_, e2, e3⟩
  rcases k with (((k | k) | k) | k) | k
  · exact Or.inl k
  · exact Or.inr (Or.inl k)
  · exact Or.inr (Or.inr (Or.inl k))
  · exact Or.inr (Or.inr (Or.inr (Or.inl k)))
  · exact Or.inr (Or.inr (Or.inr (Or.inr k)))
/-- what the called one asks of the heap -/
theorem ck_H.pre (h4 : ck_H D AC S tab L ρ G N T H) {μ : List Nat} {pre : List ck_C} (hp : ck_cpre T μ pre = true) :
    ∃ (ρ0 : Nat → Int) (N0 : List Nat), (∀ (j i : Nat), μ[j]? = some i → N0[j]? = N[i]? ∧ ∃ a, N[i]? = some a) ∧ N0.length = μ.length ∧ ck_H D AC S tab L ρ0 G N0 (ck_etag pre) H ∧ (∀ (k : Nat) (v : ck_V), (ck_f0 T μ)[k]? = some v → k < 100 → ∃ w : Value, ck_R S ρ G N v w ∧ ρ0 (100 + k) = ck_iv (some w)) ∧ μ.Nodup ∧ (∀ i ∈ μ, ∃ c, T[i]? = some c ∧ (ck_own c = true ∨ c.1.1 = 5 ∨ ck_foc c)) := by
  unfold ck_cpre at hp
  simp only [Bool.and_eq_true, beq_iff_eq, decide_eq_true_eq] at hp
  obtain ⟨⟨hl, hz⟩, hnd⟩ := hp
  have hcell : ∀ (j i : Nat), μ[j]? = some i → ∃ c c' a, T[i]? = some c ∧ pre[j]? = some c' ∧ N[i]? = some a ∧ ck_lc T μ c c' = true := by
    intro j i hj
    have hjp : j < pre.length := by rw [← hl]; exact (List.getElem?_eq_some_iff.mp hj).1
    have hm : (i, pre[j]) ∈ μ.zip pre := List.mem_of_getElem? (i := j) (by rw [List.getElem?_zip_eq_some]; exact ⟨hj, List.getElem?_eq_getElem hjp⟩)
    have := List.all_eq_true.mp hz _ hm
    dsimp only at this
    split at this
    · rename_i c hc
      have hil : i < T.length := (List.getElem?_eq_some_iff.mp hc).1
      exact ⟨c, pre[j], N[i]'(by rw [h4.2.1]; exact hil), hc, List.getElem?_eq_getElem hjp, List.getElem?_eq_getElem _, this⟩
    · cases this
  have hN0 : ∀ (j i : Nat), μ[j]? = some i → (μ.map (fun i => N.getD i 0))[j]? = N[i]? := by
    intro j i hj
    obtain ⟨c, c', a, -, -, ha, -⟩ := hcell j i hj
    rw [List.getElem?_map, hj, ha]
    simp [List.getD_eq_getElem?_getD, ha]
  have hval : ∃ f : Nat → Value, ∀ i, μ[0]? = some i → ∀ c, T[i]? = some c → (∀ (j : Nat) (v : ck_V), c.2[j]? = some v → ck_R S ρ G N v (f j)) ∧ ∀ a, N[i]? = some a → ∀ (ρ' : Nat → Int) (N' : List Nat) (c' : ck_C), c'.1 = c.1 → c'.2.length = c.2.length → (∀ (j : Nat) (v : ck_V), c'.2[j]? = some v → ck_R S ρ' G N' v (f j)) → ck_tc D AC S tab L ρ' G N' H c' a := by
    cases hμ : μ[0]? with
    | none => exact ⟨fun _ => .null, fun i hi => by cases hi⟩
    | some i =>
      obtain ⟨c, c', a, h1, h2, h3, h5⟩ := hcell 0 i hμ
      have hk := (ck_lc_ok h5).2.1
      obtain ⟨f, f1, f2⟩ := ck_vals (h4.2.2.1 i c a h1 h3) hk
      refine ⟨f, fun i' hi' c0 hc0 => ?_⟩
      cases hi'
      cases h1.symm.trans hc0
      refine ⟨f1, fun a' ha' => ?_⟩
      cases h3.symm.trans ha'
      exact f2
  obtain ⟨f, hf⟩ := hval
  refine ⟨fun g => ck_iv (some (f (g - 100))), μ.map (fun i => N.getD i 0), fun j i hj => ⟨hN0 j i hj, ?_⟩, by simp, ⟨h4.1, ?_, fun j d b hj hb => ?_, ?_⟩, fun k v hv hk => ?_, hnd, fun i hi => ?_⟩
  · obtain ⟨c, c', a, -, -, ha, -⟩ := hcell j i hj
    exact ⟨a, ha⟩
  · cases pre with
    | nil => simp [ck_etag, hl]
    | cons x t => simp [ck_etag, hl]
  · have hjμ : j < μ.length := by
      have := (List.getElem?_eq_some_iff.mp hb).1
      simpa using this
    have hji : μ[j]? = some μ[j] := List.getElem?_eq_getElem hjμ
    obtain ⟨c, c', a, h1, h2, h3, h5⟩ := hcell j _ hji
    have eb : b = a := by
      rw [hN0 j _ hji, h3] at hb
      exact (Option.some.inj hb).symm
    subst eb
    obtain ⟨e1, hk, e2, e3⟩ := ck_lc_ok h5
    have hfld : ∀ (q : Nat) (v' : ck_V), c'.2[q]? = some v' → ∃ v, c.2[q]? = some v ∧ ck_la T μ v v' = true := by
      intro q v' hq
      have hql : q < c.2.length := by rw [e2]; exact (List.getElem?_eq_some_iff.mp hq).1
      refine ⟨c.2[q], List.getElem?_eq_getElem hql, ?_⟩
      exact List.all_eq_true.mp e3 (c.2[q], v') (List.mem_of_getElem? (i := q) (by rw [List.getElem?_zip_eq_some]; exact ⟨List.getElem?_eq_getElem hql, hq⟩))
    cases j with
    | zero =>
      obtain ⟨f1, f2⟩ := hf _ hji c h1
      cases pre with
      | nil => simp at h2
      | cons x t =>
        simp at h2
        subst h2
        simp only [ck_etag, List.getElem?_cons_zero, Option.some.injEq] at hj
        subst hj
        refine f2 _ h3 _ _ _ e1.symm (by rw [ck_tagF_len]; exact e2.symm) (fun q v hq => ?_)
        rw [ck_tagF_get] at hq
        obtain ⟨v', hv', rfl⟩ := Option.map_eq_some_iff.mp hq
        obtain ⟨v0, hv0, hla⟩ := hfld q v' hv'
        have hr := ck_la_ok (ρ0 := fun g => ck_iv (some (f (g - 100)))) (N0 := μ.map (fun i => N.getD i 0)) h4 hN0 hla (f1 q v0 hv0)
        match v', hr with
        | .inl (lo, hi, t'), hr =>
          obtain ⟨x', ex, x1, x2, -⟩ := hr
          refine ⟨x', ex, x1, x2, fun g c9 hg => ?_⟩
          cases hg
          show x'.toInt = ck_iv (some (f (100 + (0 + q) - 100))) + 0
          rw [show 100 + (0 + q) - 100 = q by omega, ex]
          show x'.toInt = x'.toInt + 0
          omega
        | .inr z, hr => exact hr
    | succ j =>
      cases pre with
      | nil => simp at h2
      | cons x t =>
        simp only [List.getElem?_cons_succ] at h2
        simp only [ck_etag, List.getElem?_cons_succ] at hj
        cases h2.symm.trans hj
        obtain ⟨f', f1, f2⟩ := ck_vals (h4.2.2.1 _ c b h1 h3) hk
        refine f2 _ _ _ e1.symm e2.symm (fun q v hq => ?_)
        obtain ⟨v0, hv0, hla⟩ := hfld q v hq
        exact ck_la_ok h4 hN0 hla (f1 q v0 hv0)
  · intro j1 j2 d1 d2 b h1 h2 o1 o2 n1 n2
    have key : ∀ (j : Nat) (d : ck_C), (ck_etag pre)[j]? = some d → ck_own d = true → (μ.map (fun i => N.getD i 0))[j]? = some b → ∃ i c, μ[j]? = some i ∧ T[i]? = some c ∧ ck_own c = true ∧ N[i]? = some b := by
      intro j d hd ho hb
      have hjμ : j < μ.length := by
        have := (List.getElem?_eq_some_iff.mp hb).1
        simpa using this
      have hji : μ[j]? = some μ[j] := List.getElem?_eq_getElem hjμ
      obtain ⟨c, c', a, k1, k2, k3, k5⟩ := hcell j _ hji
      refine ⟨_, c, hji, k1, ?_, by rw [← hN0 j _ hji]; exact hb⟩
      have e1 := (ck_lc_ok k5).1
      have ed : d.1 = c'.1 := by
        cases pre with
        | nil => simp at k2
        | cons x t =>
          cases j with
          | zero => simp [ck_etag] at hd k2; rw [← hd, k2]
          | succ j => simp [ck_etag] at hd k2; rw [hd] at k2; cases k2; rfl
      unfold ck_own at ho ⊢
      rw [e1, ← ed]
      exact ho
    obtain ⟨i1, c1, x1, x2, x3, x4⟩ := key j1 d1 h1 o1 n1
    obtain ⟨i2, c2, y1, y2, y3, y4⟩ := key j2 d2 h2 o2 n2
    have ei := h4.2.2.2 i1 i2 c1 c2 b x2 y2 x3 y3 x4 y4
    subst ei
    have hl1 := (List.getElem?_eq_some_iff.mp x1).1
    have hl2 := (List.getElem?_eq_some_iff.mp y1).1
    exact (List.getElem?_inj hl1 hnd).mp (x1.trans y1.symm)
  · cases hμ : μ with
    | nil => rw [hμ] at hv; simp [ck_f0] at hv
    | cons i t =>
      rw [hμ] at hv
      have h0 : μ[0]? = some i := by rw [hμ]; rfl
      obtain ⟨c, c', a, k1, k2, k3, k5⟩ := hcell 0 i h0
      simp only [ck_f0, k1] at hv
      obtain ⟨f1, -⟩ := hf i h0 c k1
      exact ⟨f k, f1 k v hv, by show ck_iv (some (f (100 + k - 100))) = _; rw [show 100 + k - 100 = k by omega]⟩
  · obtain ⟨j, hj⟩ := List.getElem?_of_mem hi
    obtain ⟨c, c', a, k1, k2, k3, k5⟩ := hcell j i hj
    refine ⟨c, k1, ?_⟩
    rcases (ck_lc_ok k5).2.1 with k | k | k
    · exact Or.inl (by simp [ck_own, k])
    · exact Or.inl (by simp [ck_own, k])
    · exact Or.inr k
end CKC
end
section
/-! ===== behind a call: the caller's state again ===== -/
section CKP
variable {D : va_G} {AC : Nat → ClassId} {S : Nat → Nat} {tab : List ck_D} {L : Heap} {ρ : Nat → Int} {G : Nat → Nat} {N : List Nat} {T : List ck_C} {H H' : Heap}
theorem ck_mu_lo {T : List ck_C} {μ : List Nat} {post : List ck_C} {j i : Nat} (h : μ[j]? = some i) : (ck_mu T μ post)[j]? = some i := by
  unfold ck_mu
  rw [List.getElem?_append_left (List.getElem?_eq_some_iff.mp h).1]
  exact h
theorem ck_mu_hi {T : List ck_C} {μ : List Nat} {post : List ck_C} {j : Nat} (h1 : μ.length ≤ j) (h2 : j < post.length) : (ck_mu T μ post)[j]? = some (T.length + (j - μ.length)) := by
  unfold ck_mu
  rw [List.getElem?_append_right h1, List.getElem?_map, List.getElem?_range (by omega)]
  rfl
theorem ck_isc_ok {G1 : Nat → Nat} {N' : List Nat} {lo hi : Int} {k : ck_V} {x : Int32} (h1 : lo ≤ x.toInt) (h2 : x.toInt ≤ hi) (h : ck_R S ρ G1 N' k (.int x)) : ck_R S ρ G1 N' (ck_isc lo hi k) (.int x) := by
  match k, h with
  | .inl (a, b, t), h =>
    obtain ⟨y, e, y1, y2, y3⟩ := h
    cases e
    exact ⟨x, rfl, ck_max_le h1 y1, ck_le_min h2 y2, y3⟩
  | .inr z, h => exact h
/-- a value that the called one leaves, as the caller sees it -/
theorem ck_pv_ok {ρ1 : Nat → Int} {G1 : Nat → Nat} {N1 N' : List Nat} {f0 : List ck_V} {μ : List Nat} (hN : ∀ (j a : Nat), N1[j]? = some a → ∃ i, μ[j]? = some i ∧ N'[i]? = some a) (hf : ∀ (k : Nat) (v : ck_V), f0[k]? = some v → k < 100 → ∃ w : Value, ck_R S ρ G N v w ∧ ρ1 (100 + k) = ck_iv (some w)) {k : ck_V} {v : Value} (h : ck_R S ρ1 G1 N1 k v) : ck_R S ρ G1 N' (ck_pv f0 μ k) v := by
  match k, h with
  | .inl (lo, hi, none), h => exact ck_R.plain (ρ := ρ1) (N := N1) rfl h
  | .inl (lo, hi, some (g, d)), h =>
    have hs : ck_R S ρ G1 N' (.inl (lo, hi, none)) v := ck_R.plain (ρ := ρ1) (N := N1) rfl (ck_R.strip h)
    show ck_R S ρ G1 N' (if 100 ≤ g ∧ g < 200 then (match f0[g - 100]? with | some (.inl q) => ck_isc lo hi (ck_add q (d, d, none)) | _ => .inl (lo, hi, none)) else .inl (lo, hi, none)) v
    split
    · rename_i hg
      split
      · rename_i q hq
        obtain ⟨x, rfl, x1, x2, x3⟩ := h
        obtain ⟨w, ⟨y, rfl, y1, y2, y3⟩, hw2⟩ := hf (g - 100) _ hq (by omega)
        have e := x3 g d rfl
        rw [show 100 + (g - 100) = g by omega] at hw2
        have hw2 : ρ1 g = y.toInt := hw2
        have hx := ck_i32 x
        refine ck_isc_ok x1 x2 ?_
        unfold ck_add
        split
        · rename_i hok
          obtain ⟨o1, o2⟩ := ck_iok_of hok
          refine ⟨x, rfl, by dsimp only at o1 o2 ⊢; omega, by dsimp only at o1 o2 ⊢; omega, fun g' c' hg' => ?_⟩
          have hg' : ck_tagA q (d, d, none) = some (g', c') := hg'
          unfold ck_tagA at hg'
          split at hg'
          · rename_i g1 k1 hq1
            simp at hg'
            obtain ⟨rfl, rfl⟩ := hg'
            have := y3 g1 k1 hq1
            omega
          · cases hg'
        · exact ⟨x, rfl, hx.1, hx.2, fun g c q => by cases q⟩
      · exact hs
    · exact hs
  | .inr (.inl q), h => exact h
  | .inr (.inr (0, _)), h => exact h
  | .inr (.inr (1, j)), h =>
    obtain ⟨a, ha, rfl⟩ := h
    obtain ⟨i, hi, hN'⟩ := hN j a ha
    show ck_R S ρ G1 N' (match μ[j]? with | some i => .inr (.inr (1, i)) | none => .inr (.inr (8, 0))) (.ref a)
    rw [hi]
    exact ⟨a, hN', rfl⟩
  | .inr (.inr (2, τ)), h => exact h
  | .inr (.inr (3, j)), h => exact h
  | .inr (.inr (4, _)), h => exact h
  | .inr (.inr (n + 5, _)), h => exact h
theorem ck_find_some {μ : List Nat} {i j : Nat} (h : μ.findIdx? (fun k => k == i) = some j) : μ[j]? = some i := by
  obtain ⟨hl, hp, -⟩ := List.findIdx?_eq_some_iff_getElem.mp h
  rw [List.getElem?_eq_getElem hl]
  simpa using hp
theorem ck_find_none {μ : List Nat} {i : Nat} (h : μ.findIdx? (fun k => k == i) = none) : i ∉ μ := by
  intro hm
  have := List.findIdx?_eq_none_iff.mp h i hm
  simp at this
/-- all of the caller's side behind a call -/
theorem ck_H.post {wk : List Nat} {μ : List Nat} {post : List ck_C} {ρ0 ρ1 : Nat → Int} {G1 : Nat → Nat} {N0 N1 : List Nat} (h4 : ck_H D AC S tab L ρ G N T H) (hN0 : ∀ (j i : Nat), μ[j]? = some i → N0[j]? = N[i]? ∧ ∃ a, N[i]? = some a) (hlen0 : N0.length = μ.length) (hnd : μ.Nodup) (hμT : ∀ i ∈ μ, ∃ c, T[i]? = some c ∧ (ck_own c = true ∨ c.1.1 = 5 ∨ ck_foc c))
    (hf : ∀ (k : Nat) (v : ck_V), (ck_f0 T μ)[k]? = some v → k < 100 → ∃ w : Value, ck_R S ρ G N v w ∧ ρ0 (100 + k) = ck_iv (some w)) (hρ : ∀ g, 100 ≤ g → g < 200 → ρ1 g = ρ0 g)
    (h1 : ck_H D AC S tab L ρ1 G1 N1 post H') (hF : ck_F wk G N0 H G1 N1 post H') :
    ∃ N', (∃ M, N' = N ++ M) ∧ (∀ q, G q ≠ 0 → G1 q = G q) ∧ ck_H D AC S tab L ρ G1 N' (ck_cpost tab wk T μ post) H' ∧ (∀ (k : ck_V) (v : Value), ck_R S ρ1 G1 N1 k v → ck_R S ρ G1 N' (ck_pv (ck_f0 T μ) (ck_mu T μ post) k) v) ∧
      ∀ {wr : List Nat} {G00 : Nat → Nat} {N00 : List Nat} {H00 : Heap}, (∀ τ ∈ wk, τ ∈ wr) → ck_F wr G00 N00 H00 G N T H → ck_F wr G00 N00 H00 G1 N' (ck_cpost tab wk T μ post) H' := by
  obtain ⟨f1, f2, f3, f4, f5, f6⟩ := hF
  have hgrow : ∀ q, G q ≠ 0 → G1 q = G q := fun q hne => by
    by_cases hl : q < H.size
    · exact f2 q hl
    · exact absurd (h4.zero (by omega)) hne
  have hlp : N1.length = post.length := h1.2.1
  have hlN : N.length = T.length := h4.2.1
  have hmp : μ.length ≤ post.length := by omega
  have hN' : ∀ (j a : Nat), N1[j]? = some a → ∃ i, (ck_mu T μ post)[j]? = some i ∧ (N ++ N1.drop μ.length)[i]? = some a := by
    intro j a ha
    have hjl : j < N1.length := (List.getElem?_eq_some_iff.mp ha).1
    by_cases hj : j < μ.length
    · have hji : μ[j]? = some μ[j] := List.getElem?_eq_getElem hj
      refine ⟨_, ck_mu_lo hji, ?_⟩
      obtain ⟨e1, a', e2⟩ := hN0 j _ hji
      have hil : μ[j] < N.length := (List.getElem?_eq_some_iff.mp e2).1
      rw [List.getElem?_append_left hil, ← e1, ← f5 j (by omega)]
      exact ha
    · refine ⟨_, ck_mu_hi (by omega) (by omega), ?_⟩
      rw [← hlN, List.getElem?_append_right (by omega), List.getElem?_drop]
      rw [show μ.length + (N.length + (j - μ.length) - N.length) = j by omega]
      exact ha
  have hpv : ∀ (k : ck_V) (v : Value), ck_R S ρ1 G1 N1 k v → ck_R S ρ G1 (N ++ N1.drop μ.length) (ck_pv (ck_f0 T μ) (ck_mu T μ post) k) v := fun k v h =>
    ck_pv_ok (ρ := ρ) (G := G) (N := N) hN' (fun k v hv hk => by
      obtain ⟨w, w1, w2⟩ := hf k v hv hk
      exact ⟨w, w1, by rw [hρ _ (by omega) (by omega)]; exact w2⟩) h
  -- the cells behind the call, by their places
  have hcell : ∀ (i : Nat) (d : ck_C) (a : Nat), (ck_cpost tab wk T μ post)[i]? = some d → (N ++ N1.drop μ.length)[i]? = some a →
      (∃ (j : Nat) (x : ck_C), post[j]? = some x ∧ d = (x.1, x.2.map (ck_pv (ck_f0 T μ) (ck_mu T μ post))) ∧ N1[j]? = some a ∧ ((j < μ.length ∧ μ[j]? = some i) ∨ (μ.length ≤ j ∧ i = T.length + (j - μ.length)))) ∨ (∃ c, T[i]? = some c ∧ N[i]? = some a ∧ d = ck_rst tab wk c ∧ i ∉ μ) := by
    intro i d a hd ha
    unfold ck_cpost at hd
    by_cases hi : i < T.length
    · rw [List.getElem?_append_left (by simpa using hi), List.getElem?_mapIdx, List.getElem?_eq_getElem hi] at hd
      rw [List.getElem?_append_left (by omega)] at ha
      simp only [Option.map_some, Option.some.injEq] at hd
      unfold ck_cp1 at hd
      split at hd
      · rename_i j hj
        have hji := ck_find_some hj
        have hjl : j < μ.length := (List.getElem?_eq_some_iff.mp hji).1
        split at hd
        · rename_i x hx
          refine Or.inl ⟨j, x, hx, hd.symm, ?_, Or.inl ⟨hjl, hji⟩⟩
          rw [f5 j (by omega), (hN0 j i hji).1]
          exact ha
        · rename_i hx
          rw [List.getElem?_eq_getElem (by omega)] at hx
          cases hx
      · rename_i hj
        exact Or.inr ⟨T[i], List.getElem?_eq_getElem hi, ha, hd.symm, ck_find_none hj⟩
    · rw [List.getElem?_append_right (by simpa using hi)] at hd
      rw [List.getElem?_append_right (by omega), List.getElem?_drop] at ha
      simp only [List.length_mapIdx, List.getElem?_map, List.getElem?_drop] at hd
      obtain ⟨x, hx, rfl⟩ := Option.map_eq_some_iff.mp hd
      rw [hlN] at ha
      exact Or.inl ⟨μ.length + (i - T.length), x, hx, rfl, ha, Or.inr ⟨by omega, by omega⟩⟩
  have hrstown : ∀ c, ck_own (ck_rst tab wk c) = true → ck_own c = true ∧ ck_rst tab wk c = c := by
    intro c ho
    obtain ⟨⟨k, n⟩, fs⟩ := c
    unfold ck_rst at ho ⊢
    split at ho
    · split at ho
      · split at ho
        · split at ho
          · simp [ck_own] at ho
          · simp [ck_own] at ho
        · simp [ck_own] at ho
      · rename_i e _
        cases e
        simp [ck_own] at ho
    · split at ho
      · simp [ck_own] at ho
      · rename_i e _
        cases e
        simp [ck_own] at ho
    · exact ⟨ho, rfl⟩
  refine ⟨N ++ N1.drop μ.length, ⟨_, rfl⟩, hgrow, ⟨h1.1, ?_, fun i d a hd ha => ?_, fun i1 i2 d1 d2 a k1 k2 o1 o2 n1 n2 => ?_⟩, hpv, ?_⟩
  · simp [ck_cpost, hlN, hlp]
  · rcases hcell i d a hd ha with ⟨j, x, hx, rfl, hN1, -⟩ | ⟨c, hc, hNa, rfl, hμ⟩
    · exact (h1.2.2.1 j x a hx hN1).mapV _ (fun _ => rfl) (fun _ => rfl) (fun k v _ h => hpv k v h)
    · have htc := h4.2.2.1 i c a hc hNa
      have foc_keep : ck_foc c → c.1.2 ∉ wk → ck_tc D AC S tab L ρ G1 (N ++ N1.drop μ.length) H' c a := by
        intro hfo hnw
        obtain ⟨e1, e2, e3⟩ := htc.foc hfo
        have hG1 : G1 a = G a := hgrow a (by rw [e1]; exact e2)
        have base := htc.mapV (ρ' := ρ) (G' := G1) (N' := N ++ N1.drop μ.length) id (fun o => f2 a (htc.own o).2.2) (fun _ => hG1) (fun k v _ h => (h.grow hgrow).ext _)
        have base : ck_tc D AC S tab L ρ G1 (N ++ N1.drop μ.length) H c a := by simpa using base
        refine base.kept fun _ => f3 a e3 (Or.inr ⟨by rw [e1]; exact e2, by rw [e1]; exact hnw⟩)
      obtain ⟨⟨k, n⟩, fs⟩ := c
      unfold ck_rst
      split
      · rename_i τ heq
        dsimp only at heq
        cases heq
        split
        · obtain ⟨e1, e2, ci, ks, vs, e3, e4, e5⟩ := htc
          split
          · rename_i ci' ks' hτ
            rw [e3] at hτ
            cases hτ
            split
            · rename_i hpl
              have hG1 : G1 a = n := by rw [hgrow a (by rw [e1]; exact e2)]; exact e1
              have hty := (h1.1.2.2 a (by rw [hG1]; exact e2)).2
              rw [hG1] at hty
              unfold ck_ty at hty
              rw [e3] at hty
              obtain ⟨vs', y1, y2⟩ := hty
              exact ⟨hG1, e2, ci, ks, vs', e3, y1, y2.mono fun k v hk h => ck_R.plain (List.all_eq_true.mp hpl k hk) h⟩
            · exact trivial
          · exact trivial
        · rename_i hnw
          exact foc_keep (Or.inl rfl) (by simpa using hnw)
      · rename_i k7 τ heq
        dsimp only at heq
        cases heq
        split
        · exact trivial
        · rename_i hnw
          exact foc_keep (Or.inr (Nat.le_add_left 7 k7)) (by simpa using hnw)
      · rename_i hne3 hne7
        have hnf : ¬ ck_foc ((k, n), fs) := fun hf => by
          rcases hf with e | e
          · dsimp only at e
            exact hne3 n (by rw [e])
          · dsimp only at e
            exact hne7 (k - 7) n (by show (k, n) = (k - 7 + 7, n); rw [show k - 7 + 7 = k by omega])
        have base : ck_tc D AC S tab L ρ G1 (N ++ N1.drop μ.length) H ((k, n), fs) a := by
          have := htc.mapV (ρ' := ρ) (G' := G1) (N' := N ++ N1.drop μ.length) id (fun o => f2 a (htc.own o).2.2) (fun o => absurd o hnf) (fun k v _ h => (h.grow hgrow).ext _)
          simpa using this
        refine base.kept fun hk => ?_
        have ho : ck_own ((k, n), fs) = true := by
          rcases hk with z | z | z
          · dsimp only at z; simp [ck_own, z]
          · dsimp only at z; simp [ck_own, z]
          · exact absurd z hnf
        obtain ⟨a1, a2, a3⟩ := htc.own ho
        refine f3 a a3 (Or.inl ⟨a2, fun hm => ?_⟩)
        obtain ⟨j, hj⟩ := List.getElem?_of_mem hm
        have hjl : j < μ.length := by have := (List.getElem?_eq_some_iff.mp hj).1; omega
        have hji : μ[j]? = some μ[j] := List.getElem?_eq_getElem hjl
        rw [(hN0 j _ hji).1] at hj
        obtain ⟨cj, hdj, hoj⟩ := hμT _ (List.getElem_mem hjl)
        have this : ck_own cj = true := by
          rcases hoj with o | o | o
          · exact o
          · exfalso
            have ht2 := h4.2.2.1 _ _ a hdj hj
            unfold ck_tc at ht2
            obtain ⟨⟨k', n'⟩, fs'⟩ := cj
            dsimp only at o
            subst o
            obtain ⟨-, cell, -, h9, -⟩ := ht2
            omega
          · exfalso
            have ht2 := (h4.2.2.1 _ _ a hdj hj).foc o
            exact ht2.2.1 (ht2.1.symm.trans a2)
        have ei := h4.2.2.2 i μ[j] _ _ a hc hdj ho this hNa hj
        exact hμ (by rw [ei]; exact List.getElem_mem hjl)
  · -- apart
    have key : ∀ (i : Nat) (d : ck_C), (ck_cpost tab wk T μ post)[i]? = some d → ck_own d = true → (N ++ N1.drop μ.length)[i]? = some a → (∃ (j : Nat) (x : ck_C), post[j]? = some x ∧ ck_own x = true ∧ N1[j]? = some a ∧ ((j < μ.length ∧ μ[j]? = some i) ∨ (μ.length ≤ j ∧ i = T.length + (j - μ.length)))) ∨ (∃ c, T[i]? = some c ∧ ck_own c = true ∧ N[i]? = some a ∧ i ∉ μ) := by
      intro i d hd ho ha
      rcases hcell i d a hd ha with ⟨j, x, hx, rfl, hN1, hj⟩ | ⟨c, hc, hNa, rfl, hμ⟩
      · exact Or.inl ⟨j, x, hx, ho, hN1, hj⟩
      · exact Or.inr ⟨c, hc, (hrstown c ho).1, hNa, hμ⟩
    have mixed : ∀ (i i' j : Nat) (x c : ck_C), post[j]? = some x → ck_own x = true → N1[j]? = some a → ((j < μ.length ∧ μ[j]? = some i) ∨ (μ.length ≤ j ∧ i = T.length + (j - μ.length))) → T[i']? = some c → ck_own c = true → N[i']? = some a → i' ∉ μ → False := by
      intro i i' j x c hx ho hN1 hj hc hoc hNa hμ
      have hlt := h4.named hc hNa (Or.inl hoc)
      rcases hj with ⟨j1, j2⟩ | ⟨j1, j2⟩
      · obtain ⟨cj, hdj, hoj⟩ := hμT i (List.mem_of_getElem? j2)
        have hNi : N[i]? = some a := by rw [← (hN0 j i j2).1, ← f5 j (by omega)]; exact hN1
        have this : ck_own cj = true := by
          rcases hoj with o | o | o
          · exact o
          · exfalso
            have ht2 := h4.2.2.1 _ _ a hdj hNi
            have l9 := ((h4.2.2.1 _ _ a hc hNa).own hoc).1
            unfold ck_tc at ht2
            obtain ⟨⟨k', n'⟩, fs'⟩ := cj
            dsimp only at o
            subst o
            obtain ⟨-, cell, -, h9, -⟩ := ht2
            omega
          · exfalso
            have ht2 := (h4.2.2.1 _ _ a hdj hNi).foc o
            exact ht2.2.1 (ht2.1.symm.trans ((h4.2.2.1 _ _ a hc hNa).own hoc).2.1)
        have ei := h4.2.2.2 i i' cj c a hdj hc this hoc hNi hNa
        exact hμ (by rw [← ei]; exact List.mem_of_getElem? j2)
      · have := f6 j x a hx hN1 ho (by omega)
        omega
    rcases key i1 d1 k1 o1 n1 with ⟨j1, x1, p1, p2, p3, p4⟩ | ⟨c1, p1, p2, p3, p4⟩ <;> rcases key i2 d2 k2 o2 n2 with ⟨j2, x2, q1, q2, q3, q4⟩ | ⟨c2, q1, q2, q3, q4⟩
    · have ej := h1.2.2.2 j1 j2 x1 x2 a p1 q1 p2 q2 p3 q3
      subst ej
      rcases p4 with ⟨u1, u2⟩ | ⟨u1, u2⟩ <;> rcases q4 with ⟨v1, v2⟩ | ⟨v1, v2⟩
      · exact Option.some.inj (u2.symm.trans v2)
      · omega
      · omega
      · omega
    · exact (mixed i1 i2 j1 x1 c2 p1 p2 p3 p4 q1 q2 q3 q4).elim
    · exact (mixed i2 i1 j2 x2 c1 q1 q2 q3 q4 p1 p2 p3 p4).elim
    · exact h4.2.2.2 i1 i2 c1 c2 a p1 q1 p2 q2 p3 q3
  · intro wr G00 N00 H00 hsub hF0
    obtain ⟨g1, g2, g3, g4, g5, g6⟩ := hF0
    refine ⟨by omega, fun q hq => by rw [f2 q (by omega)]; exact g2 q hq, fun q hq hks => ?_, by simp; omega, fun i hi => by rw [List.getElem?_append_left (by omega)]; exact g5 i hi, fun i d a hd ha ho hi => ?_⟩
    · by_cases hL : q < L.size
      · rw [h1.1.2.1 q hL, ← h4.1.2.1 q hL]
        exact g3 q hq hks
      rcases id hks with ⟨hz, hn⟩ | ⟨hz, hn⟩
      rotate_left
      · rw [f3 q (by omega) (Or.inr ⟨by rw [g2 q hq]; exact hz, fun hm => hn (hsub _ (by rw [← g2 q hq]; exact hm))⟩)]
        exact g3 q hq hks
      rw [f3 q (by omega) (Or.inl ⟨by rw [g2 q hq]; exact hz, fun hm => ?_⟩)]
      · exact g3 q hq hks
      · obtain ⟨j, hj⟩ := List.getElem?_of_mem hm
        have hjl : j < μ.length := by have := (List.getElem?_eq_some_iff.mp hj).1; omega
        have hji : μ[j]? = some μ[j] := List.getElem?_eq_getElem hjl
        rw [(hN0 j _ hji).1] at hj
        obtain ⟨cj, hdj, hoj⟩ := hμT _ (List.getElem_mem hjl)
        by_cases hlt : μ[j] < N00.length
        · rw [g5 _ hlt] at hj
          exact hn (List.mem_of_getElem? hj)
        · rcases hoj with o | o | o
          · have := g6 _ cj q hdj hj o (by omega)
            omega
          · have ht2 := h4.2.2.1 _ _ q hdj hj
            unfold ck_tc at ht2
            obtain ⟨⟨k', n'⟩, fs'⟩ := cj
            dsimp only at o
            subst o
            obtain ⟨-, cell, -, h9, -⟩ := ht2
            exact hL h9
          · have ht2 := (h4.2.2.1 _ _ q hdj hj).foc o
            exact ht2.2.1 (ht2.1.symm.trans ((g2 q hq).trans hz))
    · rcases hcell i d a hd ha with ⟨j, x, hx, rfl, hN1, hj⟩ | ⟨c, hc, hNa, rfl, hμ⟩
      · rcases hj with ⟨j1, j2⟩ | ⟨j1, j2⟩
        · obtain ⟨cj, hdj, hoj⟩ := hμT i (List.mem_of_getElem? j2)
          have hNi : N[i]? = some a := by rw [← (hN0 j i j2).1, ← f5 j (by omega)]; exact hN1
          rcases hoj with o | o | o
          · exact g6 i cj a hdj hNi o hi
          rotate_left
          · exfalso
            have ht2 := (h4.2.2.1 _ _ a hdj hNi).foc o
            have l9 := ((h1.2.2.1 j x a hx hN1).own ho).2.1
            rw [hgrow a (by rw [ht2.1]; exact ht2.2.1), ht2.1] at l9
            exact ht2.2.1 l9
          · exfalso
            have l9 := ((h1.2.2.1 j x a hx hN1).own ho).1
            have ht2 := h4.2.2.1 _ _ a hdj hNi
            unfold ck_tc at ht2
            obtain ⟨⟨k', n'⟩, fs'⟩ := cj
            dsimp only at o
            subst o
            obtain ⟨-, cell, -, h9, -⟩ := ht2
            omega
        · have := f6 j x a hx hN1 ho (by omega)
          omega
      · exact g6 i c a hc hNa (hrstown c ho).1 hi
end CKP
end
section
/-! ===== returns; calls that come back; calls that throw ===== -/
def ck_leC (c c' : ck_C) : Bool := c'.1.1 == 2 || (decide (c.1 = c'.1) && c.2.length == c'.2.length && (c.2.zip c'.2).all (fun q => ck_le q.1 q.2))
def ck_leT (T T' : List ck_C) : Bool := T.length == T'.length && (T.zip T').all (fun q => ck_leC q.1 q.2)
section CKT
variable {D : va_G} {AC : Nat → ClassId} {S : Nat → Nat} {tab : List ck_D} {L : Heap} {ρ : Nat → Int} {G : Nat → Nat} {N : List Nat} {T T' : List ck_C} {H : Heap}
theorem ck_leT_get (h : ck_leT T T' = true) {i : Nat} {c' : ck_C} (hi : T'[i]? = some c') : ∃ c, T[i]? = some c ∧ ck_leC c c' = true := by
  unfold ck_leT at h
  simp only [Bool.and_eq_true, beq_iff_eq] at h
  have hil : i < T.length := by rw [h.1]; exact (List.getElem?_eq_some_iff.mp hi).1
  exact ⟨T[i], List.getElem?_eq_getElem hil, List.all_eq_true.mp h.2 (T[i], c') (List.mem_of_getElem? (i := i) (by rw [List.getElem?_zip_eq_some]; exact ⟨List.getElem?_eq_getElem hil, hi⟩))⟩
theorem ck_leC_own {c c' : ck_C} (h : ck_leC c c' = true) (ho : ck_own c' = true) : ck_own c = true := by
  unfold ck_leC at h
  simp only [Bool.or_eq_true, Bool.and_eq_true, decide_eq_true_eq, beq_iff_eq] at h
  unfold ck_own at ho ⊢
  rcases h with k | ⟨⟨k, -⟩, -⟩
  · rw [k] at ho; simp at ho
  · rw [k]; exact ho
theorem ck_tc.leC {c c' : ck_C} {a : Nat} (h : ck_leC c c' = true) (ht : ck_tc D AC S tab L ρ G N H c a) : ck_tc D AC S tab L ρ G N H c' a := by
  unfold ck_leC at h
  simp only [Bool.or_eq_true, Bool.and_eq_true, decide_eq_true_eq, beq_iff_eq] at h
  rcases h with k | ⟨⟨k, e2⟩, e3⟩
  · obtain ⟨⟨k', n'⟩, fs'⟩ := c'
    dsimp only at k
    subst k
    exact trivial
  · have hfld : ∀ (q : Nat) (v' : ck_V), c'.2[q]? = some v' → ∃ v, c.2[q]? = some v ∧ ck_le v v' = true := by
      intro q v' hq
      have hql : q < c.2.length := by rw [e2]; exact (List.getElem?_eq_some_iff.mp hq).1
      exact ⟨c.2[q], List.getElem?_eq_getElem hql, List.all_eq_true.mp e3 (c.2[q], v') (List.mem_of_getElem? (i := q) (by rw [List.getElem?_zip_eq_some]; exact ⟨List.getElem?_eq_getElem hql, hq⟩))⟩
    have hall : ∀ {vs : List Value}, ck_all (ck_R S ρ G N) c.2 vs → ck_all (ck_R S ρ G N) c'.2 vs := by
      intro vs hv
      refine ⟨by rw [← e2]; exact hv.1, fun q x y hx hy => ?_⟩
      obtain ⟨v, h1, h2⟩ := hfld q x hx
      exact (hv.2 q v y h1 hy).le h2
    obtain ⟨⟨k1, n1⟩, fs⟩ := c
    obtain ⟨⟨k2, n2⟩, fs'⟩ := c'
    cases k
    unfold ck_tc at ht ⊢
    match k1, ht with
    | 0, ht => obtain ⟨h1, h2, vs, h3, h4⟩ := ht; exact ⟨h1, h2, vs, h3, hall h4⟩
    | 1, ht =>
      obtain ⟨h1, h2, f, h3, h4⟩ := ht
      refine ⟨h1, h2, f, by dsimp only at e2 h3 ⊢; rw [← e2]; exact h3, fun j v hj => ?_⟩
      obtain ⟨v0, y1, y2⟩ := hfld j v hj
      exact (h4 j v0 y1).le y2
    | 2, ht => exact trivial
    | 3, ht => obtain ⟨h1, h2, ci, ks, vs, h3, h4, h5⟩ := ht; exact ⟨h1, h2, ci, ks, vs, h3, h4, hall h5⟩
    | 4, ht => exact trivial
    | 5, ht =>
      obtain ⟨h1, cell, h2, h3, h4⟩ := ht
      refine ⟨h1, cell, h2, h3, fun j v hj => ?_⟩
      obtain ⟨v0, y1, y2⟩ := hfld j v hj
      obtain ⟨w, w1, w2⟩ := h4 j v0 y1
      exact ⟨w, w1, w2.le y2⟩
    | 6, ht =>
      obtain ⟨h1, cell, h2, h3, h4⟩ := ht
      refine ⟨h1, cell, h2, h3, fun j v hj => ?_⟩
      obtain ⟨v0, y1, y2⟩ := hfld j v hj
      obtain ⟨w, w1, w2⟩ := h4 j v0 y1
      exact ⟨w, w1, w2.le y2⟩
    | k7 + 7, ht =>
      obtain ⟨h1, h2, ac, n0, sg, f, h3, h4, h5, h6⟩ := ht
      refine ⟨h1, h2, ac, n0, sg, f, h3, h4, by dsimp only at e2 h5 ⊢; omega, fun j v hj => ?_⟩
      obtain ⟨v0, y1, y2⟩ := hfld j v hj
      exact (h6 j v0 y1).le y2
theorem ck_H.leT (h : ck_H D AC S tab L ρ G N T H) (hl : ck_leT T T' = true) : ck_H D AC S tab L ρ G N T' H := by
  obtain ⟨h1, h2, h3, h4⟩ := h
  refine ⟨h1, ?_, fun i c' a hi ha => ?_, fun i j c d a hi hj o1 o2 n1 n2 => ?_⟩
  · unfold ck_leT at hl
    simp only [Bool.and_eq_true, beq_iff_eq] at hl
    rw [h2, hl.1]
  · obtain ⟨c, e1, e2⟩ := ck_leT_get hl hi
    exact (h3 i c a e1 ha).leC e2
  · obtain ⟨c0, e1, e2⟩ := ck_leT_get hl hi
    obtain ⟨d0, e3, e4⟩ := ck_leT_get hl hj
    exact h4 i j c0 d0 a e1 e3 (ck_leC_own e2 o1) (ck_leC_own e4 o2) n1 n2
/-- names behind the first n are given up -/
def ck_unn (n : Nat) (T : List ck_C) : ck_V → ck_V
  | .inr (.inr (1, i)) => if i < n then .inr (.inr (1, i)) else ck_unf T (.inr (.inr (1, i)))
  | x => x
def ck_nrf (n : Nat) : ck_V → Bool
  | .inr (.inr (1, i)) => decide (i < n)
  | _ => true
def ck_dr (n : Nat) (T : List ck_C) : List ck_C := (T.map (fun c => (c.1, c.2.map (ck_unn n T)))).take n
def ck_leD (np : Nat) (T T' : List ck_C) : Bool := decide (np ≤ T'.length) && decide (T'.length ≤ T.length) && (ck_dr T'.length T).all (fun c => c.2.all (ck_nrf T'.length)) && ck_leT (ck_dr T'.length T) T'
theorem ck_R.take {n : Nat} {k : ck_V} {v : Value} (hk : ck_nrf n k = true) (h : ck_R S ρ G N k v) : ck_R S ρ G (N.take n) k v := by
  match k, h with
  | .inl q, h => exact h
  | .inr (.inl q), h => exact h
  | .inr (.inr (0, _)), h => exact h
  | .inr (.inr (1, i)), h =>
    obtain ⟨a, h1, h2⟩ := h
    have hi : i < n := of_decide_eq_true hk
    exact ⟨a, by rw [List.getElem?_take, if_pos hi]; exact h1, h2⟩
  | .inr (.inr (2, τ)), h => exact h
  | .inr (.inr (3, j)), h => exact h
  | .inr (.inr (4, _)), h => exact h
  | .inr (.inr (n + 5, _)), h => exact trivial
theorem ck_unn_ok {n : Nat} (h4 : ck_H D AC S tab L ρ G N T H) {k : ck_V} {v : Value} (h : ck_R S ρ G N k v) : ck_R S ρ G N (ck_unn n T k) v := by
  match k, h with
  | .inl q, h => exact h
  | .inr (.inl q), h => exact h
  | .inr (.inr (0, _)), h => exact h
  | .inr (.inr (1, i)), h =>
    show ck_R S ρ G N (if i < n then .inr (.inr (1, i)) else ck_unf T (.inr (.inr (1, i)))) v
    split
    · exact h
    · exact ck_unf_ok h4 h
  | .inr (.inr (2, τ)), h => exact h
  | .inr (.inr (3, j)), h => exact h
  | .inr (.inr (4, _)), h => exact h
  | .inr (.inr (n + 5, _)), h => exact h
theorem ck_H.dr {n : Nat} (h4 : ck_H D AC S tab L ρ G N T H) (hr : (ck_dr n T).all (fun c => c.2.all (ck_nrf n)) = true) : ck_H D AC S tab L ρ G (N.take n) (ck_dr n T) H := by
  have g4 := h4.mapV (ρ' := ρ) (ck_unn n T) (fun k v hv => ck_unn_ok h4 hv)
  have hget : ∀ (i : Nat) (d : ck_C), (ck_dr n T)[i]? = some d → (T.map (fun c => (c.1, c.2.map (ck_unn n T))))[i]? = some d := by
    intro i d hi
    unfold ck_dr at hi
    rw [List.getElem?_take] at hi
    split at hi
    · exact hi
    · cases hi
  have hN : ∀ (i a : Nat), (N.take n)[i]? = some a → N[i]? = some a := by
    intro i a hi
    rw [List.getElem?_take] at hi
    split at hi
    · exact hi
    · cases hi
  refine ⟨g4.1, by simp [ck_dr, h4.2.1], fun i d a hi ha => ?_, fun i j c1 c2 a e1 e2 o1 o2 n1 n2 => ?_⟩
  · have htc := g4.2.2.1 i d a (hget i d hi) (hN i a ha)
    have := htc.mapV (ρ' := ρ) (G' := G) (N' := N.take n) id (fun _ => rfl) (fun _ => rfl) (fun k v hk hv => hv.take (List.all_eq_true.mp (List.all_eq_true.mp hr d (List.mem_of_getElem? hi)) k hk))
    simpa using this
  · exact g4.2.2.2 i j c1 c2 a (hget i c1 e1) (hget j c2 e2) o1 o2 (hN i a n1) (hN j a n2)
theorem ck_F.dr {n : Nat} {wr : List Nat} {G0 : Nat → Nat} {N0 : List Nat} {H0 : Heap} (h : ck_F wr G0 N0 H0 G N T H) (hn : N0.length ≤ n) : ck_F wr G0 N0 H0 G (N.take n) (ck_dr n T) H := by
  obtain ⟨f1, f2, f3, f4, f5, f6⟩ := h
  refine ⟨f1, f2, f3, by simp; omega, fun i hi => by rw [List.getElem?_take, if_pos (by omega)]; exact f5 i hi, fun i d b hd hb ho hn' => ?_⟩
  unfold ck_dr at hd
  rw [List.getElem?_take] at hd hb
  split at hd
  · rename_i hlt
    rw [if_pos hlt] at hb
    rw [List.getElem?_map] at hd
    obtain ⟨d0, hd0, rfl⟩ := Option.map_eq_some_iff.mp hd
    exact f6 i d0 b hd0 hb ho hn'
  · cases hd
theorem ck_F.leT {wr : List Nat} {G0 : Nat → Nat} {N0 : List Nat} {H0 : Heap} (h : ck_F wr G0 N0 H0 G N T H) (hl : ck_leT T T' = true) : ck_F wr G0 N0 H0 G N T' H := by
  obtain ⟨h1, h2, h3, h4, h5, h6⟩ := h
  refine ⟨h1, h2, h3, h4, h5, fun i c' a hi ha ho hn => ?_⟩
  obtain ⟨c, e1, e2⟩ := ck_leT_get hl hi
  exact h6 i c a e1 ha (ck_leC_own e2 ho) hn
end CKT
theorem ck_all.split {α β : Type} {P : α → β → Prop} {l1 l2 : List α} {m : List β} (h : ck_all P (l1 ++ l2) m) : ∃ m1 m2, m = m1 ++ m2 ∧ ck_all P l1 m1 ∧ ck_all P l2 m2 := by
  induction l1 generalizing m with
  | nil => exact ⟨[], m, rfl, ck_all.nil, h⟩
  | cons a t ih =>
    obtain ⟨b, m', rfl, h1, h2⟩ := ck_all.uncons h
    obtain ⟨m1, m2, rfl, h3, h4⟩ := ih h2
    exact ⟨b :: m1, m2, rfl, ck_all.cons h1 h3, h4⟩
theorem ck_all.rev {α β : Type} {P : α → β → Prop} {l : List α} {m : List β} (h : ck_all P l.reverse m) : ck_all P l m.reverse := by
  refine ⟨by simpa using h.1, fun i a b ha hb => ?_⟩
  have hil : i < l.length := (List.getElem?_eq_some_iff.mp ha).1
  have hml : m.length = l.length := by simpa using h.1.symm
  refine h.2 (l.length - 1 - i) a b ?_ ?_
  · rw [List.getElem?_reverse (by omega), show l.length - 1 - (l.length - 1 - i) = i by omega]
    exact ha
  · rw [List.getElem?_reverse (by omega)] at hb
    rw [← hml]
    exact hb
section CKL
variable {p : Program} {l : Launch} {e : Env} {R : Room} {s : State} {m : MethodId} {args : Array Value} {below : List Frame} {meth : Method} {c : Code} {cells slots : Nat}
variable {cc : ByteArray} {pc pc2 nL : Nat} {D : va_G} {AC : Nat → ClassId} {S : Nat → Nat} {tab : List ck_D} {L : Heap} {ρ0 : Nat → Int} {wr : List Nat} {G0 : Nat → Nat} {N0 : List Nat}
variable {A : List (Nat × ck_V)} {st : List ck_V} {T : List ck_C} {K : ck_Ct}
theorem ck_mono {Q Q' : State → Prop} {H : Heap} {locs : List Loc} {g : JFrame} (h : ∀ t, Q t → Q' t) (w : W p l e R s m args below meth c H locs cells slots Q g) : W p l e R s m args below meth c H locs cells slots Q' g := fun U hU X => by
  obtain ⟨t, a, b⟩ := w U hU X
  exact ⟨t, a, h t b⟩
theorem ck_MQ {t : State} (h : MQ below (fun _ s o t => ck_Ps D AC S tab L ρ0 wr G0 N0 s.heap s K o t.heap) args s K.2.2.2.2.2.2.1 K.2.2.2.2.2.2.2 (fun q => L.size ≤ q) t) : ck_Fin D AC S tab L ρ0 wr G0 N0 K below s t := by
  obtain ⟨o, h1, h2, h3, Ls, ⟨h4, h5, h6⟩, h7⟩ := h
  exact ⟨o, h1, h2, h5, ⟨Ls, h6, h7⟩, h3⟩
/-- the method returns nothing -/
theorem cw_vret (hexec : p.tables.exec = Jvm.exec) (hb : c.code = cc) (hlk : meth.locks = false) (hr : meth.sig.returnType = none) (hK : K.2.2.2.1 = .inl none) (hnp : N0.length = K.2.1.length) (hT : ck_leD K.2.1.length T K.2.2.1 = true) (hc : cells ≤ K.2.2.2.2.2.2.1) (hs : slots ≤ K.2.2.2.2.2.2.2) (hd : decode cc pc = .ok (.return_, 1)) : ck_W p l e R s m args below meth c (ck_Fin D AC S tab L ρ0 wr G0 N0 K below s) D AC S tab L nL ρ0 wr G0 N0 s.heap pc (A, [], T) cells slots := by
  unfold ck_leD at hT
  simp only [Bool.and_eq_true, decide_eq_true_eq] at hT
  obtain ⟨⟨⟨hT1, hT2⟩, hT3⟩, hT⟩ := hT
  intro H ls vs locs h
  obtain ⟨ρ, G, N, lv, h1, h2, h3, h4, h5, h6, h7⟩ := h
  have : vs = [] := by
    have := h3.1
    cases vs with
    | nil => rfl
    | cons a b => simp at this
  subst this
  refine W.widen hc hs (ck_mono (fun t => ck_MQ (args := args)) (W.vret hexec hb hr (fun t ht hW => ?_) h6 hd hlk))
  refine ⟨ρ, G, N.take K.2.2.1.length, by rw [ht]; exact (h4.dr hT3).leT hT, by rw [ht]; exact (h5.dr (by omega)).leT hT, h7, ?_⟩
  rw [hK]
/-- the method returns an int -/
theorem cw_iret (hexec : p.tables.exec = Jvm.exec) (hb : c.code = cc) (hlk : meth.locks = false) {q : ck_Q} {r : ck_V} {ty : FieldType} (hr : meth.sig.returnType = some ty) (hty : ck_fit ty (.inl q) = true) (hK : K.2.2.2.1 = .inl (some r)) (hle : ck_le (.inl q) r = true) (hnr : ck_nrf K.2.2.1.length r = true) (hnp : N0.length = K.2.1.length) (hT : ck_leD K.2.1.length T K.2.2.1 = true) (hc : cells ≤ K.2.2.2.2.2.2.1) (hs : slots ≤ K.2.2.2.2.2.2.2) (hd : decode cc pc = .ok (.ireturn, 1)) : ck_W p l e R s m args below meth c (ck_Fin D AC S tab L ρ0 wr G0 N0 K below s) D AC S tab L nL ρ0 wr G0 N0 s.heap pc (A, [.inl q], T) cells slots := by
  unfold ck_leD at hT
  simp only [Bool.and_eq_true, decide_eq_true_eq] at hT
  obtain ⟨⟨⟨hT1, hT2⟩, hT3⟩, hT⟩ := hT
  intro H ls vs locs h
  obtain ⟨ρ, G, N, lv, h1, h2, h3, h4, h5, h6, h7⟩ := h
  obtain ⟨_, vs', rfl, hx, g2⟩ := h3.uncons
  have hn := (ck_fit_ok hty hx).1
  obtain ⟨x, rfl, gx⟩ := id hx
  have : vs' = [] := by
    have := g2.1
    cases vs' with
    | nil => rfl
    | cons a b => simp at this
  subst this
  refine W.widen hc hs (ck_mono (fun t => ck_MQ (args := args)) (W.zret hexec hb hr hn (fun t ht hW => ?_) h6 hd hlk))
  refine ⟨ρ, G, N.take K.2.2.1.length, by rw [ht]; exact (h4.dr hT3).leT hT, by rw [ht]; exact (h5.dr (by omega)).leT hT, h7, ?_⟩
  rw [hK]
  exact ⟨_, rfl, (hx.le hle).take hnr⟩
/-- the method returns a long -/
theorem cw_lret (hexec : p.tables.exec = Jvm.exec) (hb : c.code = cc) (hlk : meth.locks = false) {q : Int × Int} {r : ck_V} (hr : meth.sig.returnType = some .long) (hK : K.2.2.2.1 = .inl (some r)) (hle : ck_le (.inr (.inl q)) r = true) (hnr : ck_nrf K.2.2.1.length r = true) (hnp : N0.length = K.2.1.length) (hT : ck_leD K.2.1.length T K.2.2.1 = true) (hc : cells ≤ K.2.2.2.2.2.2.1) (hs : slots ≤ K.2.2.2.2.2.2.2) (hd : decode cc pc = .ok (.lreturn, 1)) : ck_W p l e R s m args below meth c (ck_Fin D AC S tab L ρ0 wr G0 N0 K below s) D AC S tab L nL ρ0 wr G0 N0 s.heap pc (A, [.inr (.inl q)], T) cells slots := by
  unfold ck_leD at hT
  simp only [Bool.and_eq_true, decide_eq_true_eq] at hT
  obtain ⟨⟨⟨hT1, hT2⟩, hT3⟩, hT⟩ := hT
  intro H ls vs locs h
  obtain ⟨ρ, G, N, lv, h1, h2, h3, h4, h5, h6, h7⟩ := h
  obtain ⟨_, vs', rfl, hx, g2⟩ := h3.uncons
  obtain ⟨x, rfl, gx⟩ := id hx
  have : vs' = [] := by
    have := g2.1
    cases vs' with
    | nil => rfl
    | cons a b => simp at this
  subst this
  refine W.widen hc hs (ck_mono (fun t => ck_MQ (args := args)) (W.lret hexec hb hr (fun t ht hW => ?_) h6 hd hlk))
  refine ⟨ρ, G, N.take K.2.2.1.length, by rw [ht]; exact (h4.dr hT3).leT hT, by rw [ht]; exact (h5.dr (by omega)).leT hT, h7, ?_⟩
  rw [hK]
  exact ⟨_, rfl, (hx.le hle).take hnr⟩
/-- the method returns a reference -/
theorem cw_aret (hexec : p.tables.exec = Jvm.exec) (hb : c.code = cc) (hlk : meth.locks = false) {v r : ck_V} {ty : FieldType} (hr : meth.sig.returnType = some ty) (hrt : (∃ n, ty = .object n) ∨ ∃ t, ty = .array t) (hv : ck_fit (.object "") v = true) (hK : K.2.2.2.1 = .inl (some r)) (hle : ck_le (ck_unf T v) r = true) (hnr : ck_nrf K.2.2.1.length r = true) (hnp : N0.length = K.2.1.length) (hT : ck_leD K.2.1.length T K.2.2.1 = true) (hc : cells ≤ K.2.2.2.2.2.2.1) (hs : slots ≤ K.2.2.2.2.2.2.2) (hd : decode cc pc = .ok (.areturn, 1)) : ck_W p l e R s m args below meth c (ck_Fin D AC S tab L ρ0 wr G0 N0 K below s) D AC S tab L nL ρ0 wr G0 N0 s.heap pc (A, [v], T) cells slots := by
  unfold ck_leD at hT
  simp only [Bool.and_eq_true, decide_eq_true_eq] at hT
  obtain ⟨⟨⟨hT1, hT2⟩, hT3⟩, hT⟩ := hT
  intro H ls vs locs h
  obtain ⟨ρ, G, N, lv, h1, h2, h3, h4, h5, h6, h7⟩ := h
  obtain ⟨w, vs', rfl, hx, g2⟩ := h3.uncons
  have : vs' = [] := by
    have := g2.1
    cases vs' with
    | nil => rfl
    | cons a b => simp at this
  subst this
  have hQ : ∀ t : State, t.heap = H → s.WarmedH t.vm → ck_Ps D AC S tab L ρ0 wr G0 N0 s.heap s K (.returned (some w)) t.heap := fun t ht hW => by
    refine ⟨ρ, G, N.take K.2.2.1.length, by rw [ht]; exact (h4.dr hT3).leT hT, by rw [ht]; exact (h5.dr (by omega)).leT hT, h7, ?_⟩
    rw [hK]
    exact ⟨_, rfl, ((ck_unf_ok h4 hx).le hle).take hnr⟩
  have hw : w = .null ∨ ∃ a, w = .ref a := by
    match v, hv, hx with
    | .inl _, hv, _ => cases hv
    | .inr (.inl _), hv, _ => cases hv
    | .inr (.inr (n, k)), hv, hx =>
      simp only [ck_fit, decide_eq_true_eq] at hv
      exact ck_isRef hx hv
  exact W.widen hc hs (ck_mono (fun t => ck_MQ (args := args)) (W.aret hexec hb hr hrt hw hQ h6 hd hlk))
end CKL
end
section
/-! ===== invocations ===== -/
section CKV
variable {p : Program} {l : Launch} {e : Env} {R : Room} {s : State} {m : MethodId} {args : Array Value} {below : List Frame} {meth : Method} {c : Code} {T : State} {locs : List Loc} {cells slots : Nat}
theorem ck_codeW {A : Array Value} {s : State} {y : MethodName} {cc : ByteArray} {n : Nat} {ret : Option FieldType} (h : (Cond.code y cc n ret).before A s = true) : (Cond.codeWith y cc n ret []).before A s = true := by
  unfold Cond.before Cond.holds at h ⊢
  rw [← Cond.code_iff_codeWith_nil]
  exact h
theorem ck_invS (X : Stand p l e R s m args below meth c T locs cells slots) (hexec : p.tables.exec = Jvm.exec) {own : String} {index : Nat} {M : ck_M} (hown : s.vm.findClass own = some m.cls) (hcode : (Cond.codeWith M.1 M.2.1 M.2.2.1 M.2.2.2.1 M.2.2.2.2).before args s = true)
    (hlink : (Cond.methodLink own index M.1).before args s = true ∨ ∃ host, (Cond.methodLinkNest own index M.1 host).before args s = true) (hstat : (Cond.static M.1).before args s = true) (hinit : (Cond.initialized M.1.cls).before args s = true) (hy : M.1.cls ≠ "java/lang/invoke/MethodHandle" ∧ M.1.cls ≠ "java/lang/invoke/VarHandle")
    {g : JFrame} (hg : g.method = m) {argsL rest : List Value} {n : Nat} (hn : (parseMethodDescriptor M.1.desc).map (fun d => d.parameters.length) = some n) (hlen : argsL.length = n) (hstack : g.stack = argsL.reverse ++ rest) (hdg : decode c.code g.pc = .ok (.invokestatic index, 3)) :
    ck_Inv p l e R s m args below meth c locs cells slots T M.1 g rest argsL.toArray := by
  obtain ⟨mk, methM, cM, hnamed, hmethM, -, -, -, -, -, -, hsig⟩ := Cond.codeWith_spec hcode
  have hstatic : methM.isStatic = true := Cond.static_spec hnamed hmethM hstat
  obtain ⟨kP, hkP, -⟩ := className_of_methodNamed hnamed
  have hinitP : kP.init = .initialized := Cond.initialized_spec (findClass_of_methodNamed hnamed) hkP hinit
  have hl : argsL.length = methM.sig.parameters.length := by
    rw [hsig] at hn
    simp at hn
    omega
  rcases hlink with hlink | ⟨host, hlink⟩
  · obtain ⟨vm₁, X₁, hstep₁⟩ := X.invokestatic hexec hown hlink hnamed hmethM hstatic hkP hinitP hy (g := g) hg (argsL := argsL) (rest := rest) hl hstack hdg
    exact ⟨vm₁, mk, X₁.warmed, X₁, hnamed, fun target h => hstep₁ _ fun acts => by rw [doInvoke_state]; exact h⟩
  · obtain ⟨vm₁, X₁, hstep₁⟩ := X.invokestaticNest hexec hown hlink hnamed hmethM hstatic hkP hinitP hy (g := g) hg (argsL := argsL) (rest := rest) hl hstack hdg
    exact ⟨vm₁, mk, X₁.warmed, X₁, hnamed, fun target h => hstep₁ _ fun acts => by rw [doInvoke_state]; exact h⟩
theorem ck_invV (X : Stand p l e R s m args below meth c T locs cells slots) (hexec : p.tables.exec = Jvm.exec) {own : String} {index : Nat} {M : ck_M} (hown : s.vm.findClass own = some m.cls) (hcode : (Cond.codeWith M.1 M.2.1 M.2.2.1 M.2.2.2.1 M.2.2.2.2).before args s = true)
    (hlink : (Cond.methodLink own index M.1).before args s = true ∨ ∃ host, (Cond.methodLinkNest own index M.1 host).before args s = true) (hinst : (Cond.instanceMethod M.1).before args s = true) (hsel : (Cond.selects M.1.cls M.1 M.1).before args s = true) (hy : M.1.cls ≠ "java/lang/invoke/MethodHandle" ∧ M.1.cls ≠ "java/lang/invoke/VarHandle")
    {b : Addr} {cellB : Cell} (hcell : T.heap[b]? = some cellB) (hobj : cellB.vm.isStatics = false) (hcls : s.vm.findClass M.1.cls = some cellB.cls)
    {g : JFrame} (hg : g.method = m) {argsL rest : List Value} {n : Nat} (hn : (parseMethodDescriptor M.1.desc).map (fun d => d.parameters.length) = some n) (hlen : argsL.length = n) (hstack : g.stack = argsL.reverse ++ .ref b :: rest) (hdg : decode c.code g.pc = .ok (.invokevirtual index, 3)) :
    ck_Inv p l e R s m args below meth c locs cells slots T M.1 g rest (Value.ref b :: argsL).toArray := by
  obtain ⟨mk, methM, hnamed, hmethM, hstM, habM⟩ := Cond.instanceMethod_spec hinst
  obtain ⟨mk', methM', cM, hnamed', hmethM', -, -, -, -, -, -, hsig⟩ := Cond.codeWith_spec hcode
  cases hnamed.symm.trans hnamed'
  cases hmethM.symm.trans hmethM'
  have hl : argsL.length = methM.sig.parameters.length := by
    rw [hsig] at hn
    simp at hn
    omega
  obtain ⟨c2, r2, m2, q1, q2, q3, q4, kP, hkP, hkPi⟩ := Cond.selects_spec hsel
  cases hcls.symm.trans q1
  cases (State.methodFound?_of_named hnamed hy).symm.trans q2
  cases hnamed.symm.trans q3
  have hselP : selectMethod e.platform s.vm cellB.cls mk = .method mk := by rw [Launch.admits_selectMethod X.admits]; exact q4
  rcases hlink with hlink | ⟨host, hlink⟩
  · obtain ⟨vm₁, X₁, hstep₁⟩ := X.invokevirtual hexec hown hlink hnamed hmethM hstM hkP hkPi hy (a := b) (cell := cellB) hcell
      (fun z h => by rw [h] at hobj; cases hobj) hselP hmethM habM hkP hkPi (g := g) hg (argsL := argsL) (rest := rest) hl hstack hdg
    exact ⟨vm₁, mk, X₁.warmed, X₁, hnamed, fun target h => hstep₁ _ fun acts => by rw [doInvoke_state]; exact h⟩
  · obtain ⟨vm₁, X₁, hstep₁⟩ := X.invokevirtualNest hexec hown hlink hnamed hmethM hstM hkP hkPi hy (a := b) (cell := cellB) hcell
      (fun z h => by rw [h] at hobj; cases hobj) hselP hmethM habM hkP hkPi (g := g) hg (argsL := argsL) (rest := rest) hl hstack hdg
    exact ⟨vm₁, mk, X₁.warmed, X₁, hnamed, fun target h => hstep₁ _ fun acts => by rw [doInvoke_state]; exact h⟩
theorem ck_invI (X : Stand p l e R s m args below meth c T locs cells slots) (hexec : p.tables.exec = Jvm.exec) {own : String} {index : Nat} {M : ck_M} (hown : s.vm.findClass own = some m.cls) (hcode : (Cond.code M.1 M.2.1 M.2.2.1 none).before args s = true)
    (hlink : (Cond.methodLink own index M.1).before args s = true ∨ ∃ host, (Cond.methodLinkNest own index M.1 host).before args s = true) (hinst : (Cond.instanceMethod M.1).before args s = true) (hy1 : M.1.name = "<init>") (hy : M.1.cls ≠ "java/lang/invoke/MethodHandle" ∧ M.1.cls ≠ "java/lang/invoke/VarHandle")
    {b : Addr} {g : JFrame} (hg : g.method = m) {argsL rest : List Value} {n : Nat} (hn : (parseMethodDescriptor M.1.desc).map (fun d => d.parameters.length) = some n) (hlen : argsL.length = n) (hstack : g.stack = argsL.reverse ++ .ref b :: rest) (hdg : decode c.code g.pc = .ok (.invokespecial index, 3)) :
    ck_Inv p l e R s m args below meth c locs cells slots T M.1 g rest (Value.ref b :: argsL).toArray := by
  subst hg
  have hl : ∀ sig, parseMethodDescriptor M.1.desc = some sig → argsL.length = sig.parameters.length := fun sig h => by
    rw [h] at hn
    simp at hn
    omega
  have hpl : e.platform.magicAccessors = ({} : Platform).magicAccessors := by rw [X.admits.platform]
  rcases hlink with hlink | ⟨host, hlink⟩
  · obtain ⟨mk, methM, cM, kP, vm₁, hnamed, hmethM, hcodeM, -, hlocalsM, -, hkP, -, hW₁, hstep₁⟩ := Steps.initColdArgs (e := e) X.here hexec X.warmed hpl hown hy1 hy hlink hinst hcode (f := g) rfl hl hstack hdg
    exact ⟨vm₁, mk, hW₁, X.noted hW₁, hnamed, fun target h => hstep₁ _ fun acts => by rw [doInvoke_state]; exact h⟩
  · obtain ⟨mk, methM, cM, kP, vm₁, hnamed, hmethM, hcodeM, -, hlocalsM, -, hkP, -, hW₁, hstep₁⟩ := Steps.initColdArgsNest (e := e) X.here hexec X.warmed hpl hown hy1 hy hlink hinst hcode (f := g) rfl hl hstack hdg
    exact ⟨vm₁, mk, hW₁, X.noted hW₁, hnamed, fun target h => hstep₁ _ fun acts => by rw [doInvoke_state]; exact h⟩
end CKV
section CKX
variable {p : Program} {l : Launch} {e : Env} {R : Room} {s : State} {m : MethodId} {args : Array Value} {below : List Frame} {meth : Method} {c : Code} {cells slots : Nat} {Q : State → Prop}
variable {cc : ByteArray} {pc pc2 nL nS : Nat} {D : va_G} {AC : Nat → ClassId} {S : Nat → Nat} {tab : List ck_D} {L : Heap} {ρ0 : Nat → Int} {wr : List Nat} {G0 : Nat → Nat} {N0 : List Nat} {H0 : Heap}
variable {A : List (Nat × ck_V)} {st ks : List ck_V} {T : List ck_C} {K : ck_Ct} {M : ck_M} {μ : List Nat}
def ck_cargs (T : List ck_C) (μ : List Nat) (ks ks' : List ck_V) : Bool := ks.length == ks'.length && (ks.zip ks').all (fun q => ck_la T μ q.1 q.2)
theorem ck_cargs_ok {ρ ρ1 : Nat → Int} {G : Nat → Nat} {N N1 : List Nat} {H : Heap} (h4 : ck_H D AC S tab L ρ G N T H) (hN : ∀ (j i : Nat), μ[j]? = some i → N1[j]? = N[i]?) {ks' : List ck_V} {vs : List Value} (h : ck_cargs T μ ks ks' = true) (hv : ck_all (ck_R S ρ G N) ks vs) : ck_all (ck_R S ρ1 G N1) ks' vs := by
  unfold ck_cargs at h
  simp only [Bool.and_eq_true, beq_iff_eq] at h
  refine ⟨by rw [← h.1]; exact hv.1, fun i k v hk hv' => ?_⟩
  have hil : i < ks.length := by rw [h.1]; exact (List.getElem?_eq_some_iff.mp hk).1
  have hz := List.all_eq_true.mp h.2 (ks[i], k) (List.mem_of_getElem? (i := i) (by rw [List.getElem?_zip_eq_some]; exact ⟨List.getElem?_eq_getElem hil, hk⟩))
  exact ck_la_ok h4 hN hz (hv.2 i _ v (List.getElem?_eq_getElem hil) hv')
def ck_push (f0 : List ck_V) (μ : List Nat) (r : Option ck_V) (st : List ck_V) : List ck_V := match r with
  | none => st
  | some k => ck_pv f0 μ k :: st
end CKX
end
section
/-! ===== throwing and catching ===== -/
section CKTH
variable {p : Program} {l : Launch} {e : Env} {R : Room} {s : State} {m : MethodId} {args : Array Value} {below : List Frame} {meth : Method} {c : Code} {T : State} {locs : List Loc} {cells slots : Nat}
/-- a walk, seen as begun where it stands -/
theorem ck_rebase (X : Stand p l e R s m args below meth c T locs cells slots) (hc : cells ≤ R.cells) (hs : slots ≤ R.slots) : Stand p l e { R with cells := R.cells - cells, slots := R.slots - slots } (T.setFrames (.invoking m args :: below)) m args below meth c T [] 0 0 := by
  obtain ⟨g₀, hfr⟩ := X.frames_eq
  have hcurT : T.cur < T.threads.size := State.cur_lt_of_frames hfr
  have hF : (T.setFrames (.invoking m args :: below)).frames = .invoking m args :: below := State.frames_setFrames _ hcurT
  obtain ⟨t, ht, -⟩ := State.frames_cons hF
  have hcur' : (T.setFrames (.invoking m args :: below)).cur < (T.setFrames (.invoking m args :: below)).threads.size := State.cur_lt_of_frames hF
  have eT : T = ({ s.setFrames T.frames with heap := T.heap, slotsUsed := T.slotsUsed } : State).setVm T.vm := by
    have h1 : T.setVm s.vm = ({ s.setFrames T.frames with heap := T.heap, slotsUsed := T.slotsUsed } : State) := X.same.1
    have h3 : (T.setVm s.vm).setVm T.vm = ({ s.setFrames T.frames with heap := T.heap, slotsUsed := T.slotsUsed } : State).setVm T.vm := by rw [h1]
    exact h3
  have es : T.setFrames (.invoking m args :: below) = ({ s.setFrames (.invoking m args :: below) with heap := T.heap, slotsUsed := T.slotsUsed } : State).setVm T.vm := by
    rw [← State.setFrames_setFrames (s := s) (fs := T.frames)]
    conv => lhs; rw [eT]
    rfl
  have es2 : s.setFrames (.invoking m args :: below) = s := by
    obtain ⟨t0, ht0, -⟩ := State.frames_cons X.frames
    rw [← X.frames]
    exact State.setFrames_self ht0
  rw [es2] at es
  have hroom : (T.setFrames (.invoking m args :: below)).hasRoom e.platform { R with cells := R.cells - cells, slots := R.slots - slots } = true := by
    have h := X.room
    have hh := X.heapSize
    have hu := X.used
    have hb := X.book
    have hli : (T.setFrames (.invoking m args :: below)).localsInUse = s.localsInUse := by
      unfold State.localsInUse
      rw [hF, X.frames]
      show _ + ((((T.vm.method? m).bind (·.code)).map (·.maxLocals)).getD 0 + 11) = _
      rw [X.warmed.alike.method?]
    rw [es] at hli
    rw [es]
    simp only [State.hasRoom, Bool.and_eq_true, decide_eq_true_eq] at h ⊢
    obtain ⟨⟨⟨⟨h1, h2⟩, h3⟩, h4⟩, h5⟩ := h
    rw [hli]
    refine ⟨⟨⟨⟨h1, h2⟩, ?_⟩, ?_⟩, ?_⟩
    · show T.heap.size + (R.cells - cells) ≤ _
      omega
    · show T.slotsUsed + (R.slots - slots) ≤ _
      omega
    · exact hb
  refine ⟨X.admits, X.cas, X.clock, hF, hroom, ?_, X.method', X.code, X.here, X.tail, State.WarmedH.refl _, by rw [State.stackLimits_setFrames], by rw [State.stackBytes_setFrames], ?_⟩
  · have h := X.hears
    have hal := X.warmed.alike
    unfold State.hears at h ⊢
    split
    · rename_i g r
      simp only at h
      have e1 : (T.setFrames (.invoking m args :: .java g :: r)).code? g.method = s.code? g.method := by
        rw [State.code?_eq, State.code?_eq]
        show (T.vm.method? _).bind _ = _
        rw [hal.method?]
      rw [e1]
      exact h
    · rfl
    · rfl
    · rename_i h1 h2 h3
      split at h
      · exact absurd rfl (h1 _ _)
      · exact absurd rfl (h2 _ _)
      · exact absurd rfl (h3 _ _)
      · show (T.vm.method? m).any _ = true
        rw [hal.method?]
        exact h
  · have h := (State.sameButNew.refl (T.setFrames (.invoking m args :: below)) ht).setFrames T.frames hcur'
    have e9 : (T.setFrames (.invoking m args :: below)).setFrames T.frames = T := by
      obtain ⟨t0, ht0, -⟩ := State.frames_cons hfr
      rw [State.setFrames_setFrames]
      exact State.setFrames_self ht0
    rw [e9] at h
    exact h
end CKTH

def ck_up2 : List String := ["java/lang/RuntimeException", "java/lang/Exception"]
def ck_4 : List Cond := [.laysStatic "java/lang/Throwable" "UNASSIGNED_STACK" "[Ljava/lang/StackTraceElement;", .laysStatic "java/lang/Throwable" "SUPPRESSED_SENTINEL" "Ljava/util/List;", .isRef (.static "java/lang/Throwable" "UNASSIGNED_STACK" "[Ljava/lang/StackTraceElement;"), .isRef (.static "java/lang/Throwable" "SUPPRESSED_SENTINEL" "Ljava/util/List;")]
section CKTN
variable {p : Program} {l : Launch} {e : Env} {R : Room} {s : State} {m : MethodId} {args : Array Value} {below : List Frame} {meth : Method} {c : Code} {cells slots : Nat} {Q : State → Prop}
variable {cc : ByteArray} {pc pc2 nL nS : Nat} {D : va_G} {AC : Nat → ClassId} {S : Nat → Nat} {tab : List ck_D} {L : Heap} {ρ0 : Nat → Int} {wr : List Nat} {G0 : Nat → Nat} {N0 : List Nat} {H0 : Heap}
variable {A : List (Nat × ck_V)} {st ks : List ck_V} {T : List ck_C} {K Km : ck_Ct} {M : ck_M} {μ : List Nat} {own : String}
theorem ck_ldcs (hexec : p.tables.exec = Jvm.exec) (hb : c.code = cc) {tx : String} {index q ll : Nat} {H : Heap} {locs : List Loc} {ls : Array Slot} {rest : List Value} (hown : s.vm.findClass own = some m.cls) (hZ : vk_R own index tx q s) (hdg : (decode cc pc = .ok (.ldc index, 2) ∧ ll = 2) ∨ (decode cc pc = .ok (.ldc_w index, 3) ∧ ll = 3))
    (k : W p l e R s m args below meth c H locs cells slots Q (F0 m (pc + ll) ls (.ref q :: rest))) : W p l e R s m args below meth c H locs cells slots Q (F0 m pc ls rest) := by
  rcases hdg with ⟨hd, rfl⟩ | ⟨hd, rfl⟩
  · exact va_ldcS hexec hb hown hZ hd k
  · intro T hT X
    obtain ⟨t, a1, b1⟩ := k T hT X
    exact ⟨t, X.ldcStringW hexec hown (text := tx) (a := q) hZ.1 hZ.2 (g := F0 m pc ls rest) rfl (by rw [hb]; exact hd) t a1, b1⟩
/-- throw new X(".."), which nobody here catches -/
theorem cw_throw {x idx ic si ll : Nat} {tx : String} (hexec : p.tables.exec = Jvm.exec) (hb : c.code = cc) (hml : c.maxLocals = nL) (hlk : meth.locks = false) (hown : s.vm.findClass own = some m.cls) (hKf : ck_Kf D AC S L s nS) (htr : e.platform.stackTraces = false)
    (hfit : Jvm.Bundle.fit (ck_xn x) = true) (hclk : Cond.classLink own idx (ck_xn x) ∈ ck_tb) (hini : Cond.initialized (ck_xn x) ∈ ck_tb) (hins : Cond.instantiable (ck_xn x) 6 ∈ ck_tb) (hstr : (own, si, tx) ∈ ck_strs) (hat : ∀ w ∈ Jvm.Bundle.ownAtoms own ic (ck_xn x) ck_up2, w ∈ ck_tb ∨ w ∈ ck_4)
    (hd0 : decode cc pc = .ok (.new idx, 3)) (hd1 : decode cc (pc + 3) = .ok (.dup, 1)) (hd2 : (decode cc (pc + 4) = .ok (.ldc si, 2) ∧ ll = 2) ∨ (decode cc (pc + 4) = .ok (.ldc_w si, 3) ∧ ll = 3)) (hd3 : decode cc (pc + 4 + ll) = .ok (.invokespecial ic, 3)) (hd4 : decode cc (pc + 4 + ll + 3) = .ok (.athrow, 1))
    (hhd : c.exceptionTable.toList = []) (hKm : Km.2.2.2.1 = .inr x) (hnp : N0.length = Km.2.1.length) (hle : ck_leD Km.2.1.length T Km.2.2.1 = true) (hc : cells + 1 ≤ Km.2.2.2.2.2.2.1) (hs : slots + 6 ≤ Km.2.2.2.2.2.2.2) (hRc : Km.2.2.2.2.2.2.1 ≤ R.cells) (hRs : Km.2.2.2.2.2.2.2 ≤ R.slots) (hRf : 6 ≤ R.frames) (hst : st.all ck_kn = true) (hRl : ck_words st + 82 ≤ R.locals) :
    ck_W p l e R s m args below meth c (ck_Fin D AC S tab L ρ0 wr G0 N0 Km below s) D AC S tab L nL ρ0 wr G0 N0 s.heap pc (A, st, T) cells slots := by
  unfold ck_leD at hle
  simp only [Bool.and_eq_true, decide_eq_true_eq] at hle
  obtain ⟨⟨⟨hT1, hT2⟩, hT3⟩, hle⟩ := hle
  intro H ls vs locs h U hU X
  obtain ⟨ρ, G, N, lv, h1, h2, h3, h4, h5, h6, h7⟩ := h
  have Y := ck_rebase X (by omega) (by omega)
  have hWs : s.WarmedH (U.setFrames (.invoking m args :: below)).vm := X.warmed
  have hK' := hKf.moved hWs
  have hown' : (U.setFrames (.invoking m args :: below)).vm.findClass own = some m.cls := by
    show U.vm.findClass own = some m.cls
    rw [X.warmed.alike.findClass]; exact hown
  have hts' : ∀ w ∈ ck_tb, w.before args (U.setFrames (.invoking m args :: below)) = true := hK'.ts
  have hlow : ∀ q, q < L.size → (U.setFrames (.invoking m args :: below)).heap[q]? = L[q]? := fun q hq => by
    show U.heap[q]? = L[q]?
    rw [hU]; exact h4.1.2.1 q hq
  obtain ⟨sa, hsa⟩ := hK'.2.2.2.2.2.2.2.2.2.1 _ hstr
  have hatoms : ∀ w ∈ Jvm.Bundle.ownAtoms own ic (ck_xn x) ck_up2, w.before args (U.setFrames (.invoking m args :: below)) = true := by
    intro w hw
    rcases hat w hw with z | z
    · exact hts' w z
    · have l1 := hK'.2.2.2.2.2.2.2.1
      have l2 := hK'.2.2.2.2.2.2.2.2.1
      simp only [ck_4, List.mem_cons, List.not_mem_nil, or_false] at z
      rcases z with rfl | rfl | rfl | rfl
      · exact l1.lays hlow
      · exact l2.lays hlow
      · exact l1.isref hlow
      · exact l2.isref hlow
  have w : W p l e { R with cells := R.cells - cells, slots := R.slots - slots } (U.setFrames (.invoking m args :: below)) m args below meth c H [] 0 0 (fun t => t.status = .running ∧ Ended t below (.threw H.size) ∧ (U.setFrames (.invoking m args :: below)).WarmedH t.vm ∧ (U.setFrames (.invoking m args :: below)).sameButNew ({ t with vm := (U.setFrames (.invoking m args :: below)).vm } : State) [] 1 6 ∧ ∃ ce, t.heap[H.size]? = some ce ∧ ce.vm.isStatics = false ∧ (U.setFrames (.invoking m args :: below)).vm.findClass (ck_xn x) = some ce.cls) (F0 m pc ls vs) := by
    refine W.newc hexec hb hown' (hts' _ hclk) (hts' _ hins) (hts' _ hini) rfl hd0 (by show 0 + 1 ≤ R.cells - cells; omega) (by show 0 + 6 ≤ R.slots - slots; omega) fun cC kC f1 f2 f3 f4 => ?_
    refine lv_dup hexec hb hd1 rfl ?_
    refine ck_ldcs hexec hb hown' hsa hd2 ?_
    intro V hV XV
    obtain ⟨p1, p2, p3⟩ := ck_push_other H { cls := cC, slots := kC.instanceTypes.map defaultValue, vm := .none }
    obtain ⟨t, t1, t2, t3, t4, t5, ce, t6, t7⟩ := XV.ctorThrowS hexec htr (own := own) (cls := ck_xn x) (names := ck_up2) (ic := ic) hown' hfit (by decide +kernel) hatoms (fun y hy => by cases hy) f1 f2 (a := H.size) (by rw [hV]; exact p1) (by show U.heap.size ≤ H.size; rw [hU]; exact Nat.le_refl _) (msg := .ref sa) rfl
      (g := F0 m (pc + 3 + 1 + ll) ls (.ref sa :: .ref H.size :: .ref H.size :: vs)) rfl (by rw [hml]; exact h1.1) rfl rfl (rest := vs) rfl (by rw [hb]; exact hd3) (by rw [hb]; exact hd4) (by rw [hhd]; intro y hy; cases hy) (by show 2 + 3 < R.frames; omega) (by
        show 2 * 0 + (1 + (vs.map fun v => v.category).sum) + (13 * (2 + 1) + 42) ≤ R.locals
        rw [ck_words_ok (st := st) h3 hst]
        omega) hlk
    exact ⟨t, t1, t2, t3, t4, t5, ce, t6, by rw [t7.vm]; rfl, t7.cls⟩
  obtain ⟨t, t1, t2, t3, t4, t5, ce, t6, t7, t8⟩ := w U hU Y
  have hUt : U.sameButNew ({ t with vm := U.vm } : State) [] 1 6 := by
    obtain ⟨e1, e2⟩ := t5
    refine ⟨?_, e2⟩
    rw [State.setFrames_setFrames] at e1
    exact e1
  have hsm : s.sameButNew ({ t with vm := s.vm } : State) (locs ++ []) (cells + 1) (slots + 6) := X.same.trans (hUt.setVm s.vm)
  have hold : ∀ q, q < H.size → t.heap[q]? = H[q]? := by
    intro q hq
    have hcq : (U.setFrames (.invoking m args :: below)).heap[q]? = some H[q] := by
      show U.heap[q]? = _
      rw [hU]; exact Array.getElem?_eq_getElem hq
    obtain ⟨c', d1, d2, d3, d4⟩ := t5.2.2.2.2.2 q H[q] hcq
    have d1 : t.heap[q]? = some c' := d1
    have : c'.slots = H[q].slots := by
      apply Array.ext_getElem? fun i => ?_
      exact d4 i (by simp)
    rw [d1, d2, this, Array.getElem?_eq_getElem hq]
  have hsz : H.size ≤ t.heap.size := by
    have := (Array.getElem?_eq_some_iff.mp t6).1
    omega
  refine ⟨t, t1, .threw H.size, t2, t3, State.WarmedH.trans X.warmed t4, ⟨locs, (by rw [List.append_nil] at hsm; exact hsm.weaken (fun y hy _ => hy) hc hs), h6⟩, ρ, G, N.take Km.2.2.1.length, ((h4.newMany hsz hold (fun _ _ => rfl) (fun q hq hne => absurd (h4.zero hq) hne)).dr hT3).leT hle, ((h5.new hsz hold (fun _ _ => rfl) ⟨[], by simp⟩ (fun i c a hc ha ho => Or.inl ⟨c, hc, ha, ho⟩)).dr (by omega)).leT hle, h7, ?_⟩
  rw [hKm]
  exact ⟨H.size, ce, rfl, t6, t7, by rw [← hWs.alike.findClass]; exact t8⟩
end CKTN
end
section
/-! ===== a call that throws, and is caught here; the method's beginning ===== -/
def ck_lk {α : Type} : List (Nat × α) → Nat → Option α
  | [], _ => none
  | (i, v) :: t, j => if i == j then some v else ck_lk t j
theorem ck_lk_mem {α : Type} : ∀ {t : List (Nat × α)} {j : Nat} {v : α}, ck_lk t j = some v → (j, v) ∈ t
  | [], _, _, h => by cases h
  | (i, w) :: t, j, v, h => by
    unfold ck_lk at h
    split at h
    · rename_i hi
      cases h
      have e : i = j := by simpa using hi
      rw [e]; exact List.mem_cons_self
    · exact List.mem_cons_of_mem _ (ck_lk_mem h)
def ck_fh (xl : List (Nat × Nat)) (pc x : Nat) : List (Nat × Nat × Nat × Nat) → Option Nat
  | [] => none
  | (s, e, h, ty) :: t => if decide (s ≤ pc) && decide (pc < e) then (match ck_lk xl ty with
    | some y => if y == x then some h else ck_fh xl pc x t
    | none => none) else ck_fh xl pc x t
section CKCA
variable {p : Program} {l : Launch} {e : Env} {R : Room} {s : State} {m : MethodId} {args : Array Value} {below : List Frame} {meth : Method} {c : Code} {cells slots : Nat} {Q : State → Prop}
variable {cc : ByteArray} {pc pc2 nL nS : Nat} {D : va_G} {AC : Nat → ClassId} {S : Nat → Nat} {tab : List ck_D} {L : Heap} {ρ0 : Nat → Int} {wr : List Nat} {G0 : Nat → Nat} {N0 : List Nat} {H0 : Heap}
variable {A : List (Nat × ck_V)} {st ks : List ck_V} {T : List ck_C} {K Km : ck_Ct} {M : ck_M} {μ : List Nat} {own : String}
theorem ck_fh_ok (hpl : e.platform.magicAccessors = ({} : Platform).magicAccessors) (hown : s.vm.findClass own = some m.cls) (hKf : ck_Kf D AC S L s nS) {xl : List (Nat × Nat)} (hxl : ∀ q ∈ xl, Cond.classLink own q.1 (ck_xn q.2) ∈ ck_tb ∧ q.2 < 3 ∧ q.1 ≠ 0) {x : Nat} (hx3 : x < 3) {cx : ClassId} (hcx : s.vm.findClass (ck_xn x) = some cx) (hass : s.vm.assignable cx cx = true) {pc h : Nat} :
    ∀ (tbl : List ExceptionTableEntry), ck_fh xl pc x (tbl.map (fun h => (h.startPc, h.endPc, h.handlerPc, h.catchType))) = some h →
      ∃ (pre : List ExceptionTableEntry) (y : ExceptionTableEntry) (rest : List ExceptionTableEntry), tbl = pre ++ y :: rest ∧ (∀ z ∈ pre, RowPassed e.platform s m.cls pc cx z) ∧ covers y pc = true ∧ RowCatches e.platform s m.cls cx y ∧ y.handlerPc = h
  | [], hh => by cases hh
  | z :: t, hh => by
    have hts := hKf.ts (args := #[])
    simp only [List.map_cons, ck_fh] at hh
    split at hh
    · rename_i hcov
      have hcov' : covers z pc = true := by
        simp only [covers]
        simpa using hcov
      split at hh
      · rename_i y hy
        obtain ⟨w1, w2, w3⟩ := hxl _ (ck_lk_mem hy)
        dsimp only at w1 w2 w3
        obtain ⟨c', hc', hcl⟩ := Cond.classLink_spec hown (hts _ w1) e.platform hpl
        split at hh
        · rename_i hyx
          have hyx : y = x := by simpa using hyx
          subst hyx
          cases hh
          cases hcx.symm.trans hc'
          exact ⟨[], z, t, rfl, (fun q hq => by cases hq), hcov', Or.inr ⟨w3, cx, hcl, hass⟩, rfl⟩
        · rename_i hyx
          have hyx : ¬ y = x := by simpa using hyx
          obtain ⟨pre, y', rest, e1, e2, e3, e4, e5⟩ := ck_fh_ok hpl hown hKf hxl hx3 hcx hass t hh
          refine ⟨z :: pre, y', rest, by rw [e1]; rfl, fun q hq => ?_, e3, e4, e5⟩
          rcases List.mem_cons.mp hq with rfl | hq
          · obtain ⟨c1, c2, g1, g2, g3⟩ := hKf.2.2.2.2.2.2.2.2.2.2 x y hx3 w2 (Ne.symm hyx)
            cases hcx.symm.trans g1
            cases hc'.symm.trans g2
            exact Or.inr ⟨w3, c', hcl, g3⟩
          · exact e2 q hq
      · cases hh
    · rename_i hcov
      have hcov' : covers z pc = false := by
        simp only [covers]
        simpa using hcov
      obtain ⟨pre, y', rest, e1, e2, e3, e4, e5⟩ := ck_fh_ok hpl hown hKf hxl hx3 hcx hass t hh
      refine ⟨z :: pre, y', rest, by rw [e1]; rfl, fun q hq => ?_, e3, e4, e5⟩
      rcases List.mem_cons.mp hq with rfl | hq
      · exact Or.inl hcov'
      · exact e2 q hq
/-- a call: whatever ending it has -/
def ck_ends (p : Program) (l : Launch) (e : Env) (R : Room) (s : State) (m : MethodId) (args : Array Value) (below : List Frame) (meth : Method) (c : Code) (Q : State → Prop) (D : va_G) (AC : Nat → ClassId) (S : Nat → Nat) (tab : List ck_D) (L : Heap) (nL : Nat) (ρ0 : Nat → Int) (wr : List Nat) (G0 : Nat → Nat) (N0 : List Nat) (own : String) (xl : List (Nat × Nat)) (pc : Nat) (A : List (Nat × ck_V)) (st : List ck_V) (T : List ck_C) (cells slots : Nat) (X : ck_Kt) (μ : List Nat) (a : List ck_C × (Option ck_V ⊕ Nat)) : Prop :=
  match a.2 with
  | .inl r => ck_W p l e R s m args below meth c Q D AC S tab L nL ρ0 wr G0 N0 s.heap (pc + 3) (A, ck_push (ck_f0 T μ) (ck_mu T μ a.1) r st, ck_cpost tab X.2.2 T μ a.1) (cells + X.1.2.2.2.2.2.2.1) (slots + X.1.2.2.2.2.2.2.2)
  | .inr x => (c.exceptionTable.toList = [] ∧ ∃ Km : ck_Ct, (∀ t, ck_Fin D AC S tab L ρ0 wr G0 N0 Km below s t → Q t) ∧ N0.length = Km.2.1.length ∧ Km.2.2.2.1 = .inr x ∧ ck_leD Km.2.1.length (ck_cpost tab X.2.2 T μ a.1) Km.2.2.1 = true ∧ cells + X.1.2.2.2.2.2.2.1 ≤ Km.2.2.2.2.2.2.1 ∧ slots + X.1.2.2.2.2.2.2.2 ≤ Km.2.2.2.2.2.2.2) ∨
    (∃ hpc, ck_fh xl pc x (c.exceptionTable.toList.map (fun h => (h.startPc, h.endPc, h.handlerPc, h.catchType))) = some hpc ∧ x < 3 ∧ Cond.castable (ck_xn x) (ck_xn x) ∈ ck_tb ∧ ck_W p l e R s m args below meth c Q D AC S tab L nL ρ0 wr G0 N0 s.heap hpc (A, [.inr (.inr (4, 0))], ck_cpost tab X.2.2 T μ a.1) (cells + X.1.2.2.2.2.2.2.1) (slots + X.1.2.2.2.2.2.2.2))
theorem cw_callA {ig : Instr} {xl : List (Nat × Nat)} {nb : Nat × Nat} {X : ck_Kt} (hO : ck_Ok l tab nb M X) (hn1 : nb.1 ≤ nS) (hn2 : nS ≤ nb.2) (hexec : p.tables.exec = Jvm.exec) (hb : c.code = cc) (hml : c.maxLocals = nL) (hlk : meth.locks = false) (hown : s.vm.findClass own = some m.cls) (hd : decode cc pc = .ok (ig, 3)) (hKf : ck_Kf D AC S L s nS) (htr : e.platform.stackTraces = false) (hcode : (Cond.codeWith M.1 M.2.1 M.2.2.1 M.2.2.2.1 M.2.2.2.2).before args s = true) (hplain : plainName M.1.cls = true)
    (hinv : ∀ {U : State} {H : Heap} {ls : Array Slot} {vs rest : List Value} {locs : List Loc} {ρ : Nat → Int} {G : Nat → Nat} {N : List Nat}, U.heap = H → Stand p l e R s m args below meth c U locs cells slots → ck_H D AC S tab L ρ G N T H → ck_all (ck_R S ρ G N) ks vs → ck_Inv p l e R s m args below meth c locs cells slots U M.1 (F0 m pc ls (vs.reverse ++ rest)) rest vs.toArray)
    (hfr : X.1.2.2.2.2.1 + 1 ≤ R.frames) (hst : st.all ck_kn = true) (hlo : ck_words st + (M.2.2.1 + 11) + X.1.2.2.2.2.2.1 ≤ R.locals) (hce : cells + X.1.2.2.2.2.2.2.1 ≤ R.cells) (hsl : slots + X.1.2.2.2.2.2.2.2 ≤ R.slots) (hpre : ck_cpre T μ X.1.2.1 = true) (hargs : ck_cargs T μ ks X.1.1 = true) (hwr : ∀ τ ∈ X.2.2, τ ∈ wr)
    (hxl : ∀ q ∈ xl, Cond.classLink own q.1 (ck_xn q.2) ∈ ck_tb ∧ q.2 < 3 ∧ q.1 ≠ 0)
    (kk : ∀ a ∈ X.2.1, ck_ends p l e R s m args below meth c Q D AC S tab L nL ρ0 wr G0 N0 own xl pc A st T cells slots X μ a) :
    ck_W p l e R s m args below meth c Q D AC S tab L nL ρ0 wr G0 N0 s.heap pc (A, ks.reverse ++ st, T) cells slots := by
  intro H ls vs locs h U hU Xs
  obtain ⟨ρ, G, N, lv, h1, h2, h3, h4, h5, h6, h7⟩ := h
  obtain ⟨va, rest, rfl, ha, hrest⟩ := ck_all.split h3
  have ha := ck_all.rev ha
  obtain ⟨ρ1, N1, e1, e2, e3, e4, e5, e6⟩ := h4.pre hpre
  have hv := ck_cargs_ok (ρ1 := ρ1) h4 (fun j i hj => (e1 j i hj).1) hargs ha
  have hi := hinv (ls := ls) (rest := rest) hU Xs h4 ha
  rw [List.reverse_reverse] at hi
  obtain ⟨U', Ls, o, V, al, hal, X', hLs, hWV, hps, hret, hthr⟩ := ck_call hO hn1 hn2 hi hexec rfl (by rw [hml]; exact h1.1) (ig := ig) (by rw [hb]; exact hd) hcode hplain htr hfr (by show 2 * 0 + _ + _ + _ ≤ _; rw [ck_words_ok hrest hst]; omega) hce hsl hKf rfl hv (by rw [hU]; exact e3)
  obtain ⟨ρ2, G2, N2, y1, y2, y3, y4⟩ := hps
  rw [hU] at y2
  have y1 : ck_H D AC S tab L ρ2 G2 N2 al.1 U'.heap := y1
  have y2 : ck_F X.2.2 G N1 H G2 N2 al.1 U'.heap := y2
  obtain ⟨N', ⟨Mm, hM⟩, z2, z3, z4, z5⟩ := h4.post (wk := X.2.2) e1 e2 e5 e6 e4 y3 y1 y2
  have hL2 : ck_all (ck_RL S ρ G2 N') A lv := h2.mono fun q w _ hq => ⟨hq.1, by rw [hM]; exact (hq.2.grow z2).ext _⟩
  have hS2 : ck_all (ck_R S ρ G2 N') st rest := hrest.mono fun q w _ hq => by rw [hM]; exact (hq.grow z2).ext _
  have hlo2 : ∀ q ∈ locs ++ Ls, L.size ≤ q.base := fun q hq => by
    rcases List.mem_append.mp hq with z | z
    · exact h6 q z
    · exact hLs q z
  have hk := kk al hal
  have y4 : match al.2 with
    | .inl none => o = .returned none
    | .inl (some k) => ∃ w, o = .returned (some w) ∧ ck_R S ρ2 G2 N2 k w
    | .inr x => ∃ (a : Nat) (cell : Cell), o = .threw a ∧ U'.heap[a]? = some cell ∧ cell.vm.isStatics = false ∧ V.vm.findClass (ck_xn x) = some cell.cls := y4
  unfold ck_ends at hk
  obtain ⟨post, res⟩ := al
  dsimp only at hk y4 y1 y2 z3 z4 z5
  match res, hk, y4 with
  | .inl none, hk, y4 =>
    subst y4
    obtain ⟨t, a, b⟩ := hk U'.heap ls rest (locs ++ Ls) ⟨ρ, G2, N', lv, h1, hL2, hS2, z3, z5 hwr h5, hlo2, h7⟩ U' rfl X'
    exact ⟨t, hret none rfl t a, b⟩
  | .inl (some k), hk, y4 =>
    obtain ⟨w, rfl, hw⟩ := y4
    obtain ⟨t, a, b⟩ := hk U'.heap ls (w :: rest) (locs ++ Ls) ⟨ρ, G2, N', lv, h1, hL2, ck_all.cons (z4 k w hw) hS2, z3, z5 hwr h5, hlo2, h7⟩ U' rfl X'
    exact ⟨t, hret (some w) rfl t a, b⟩
  | .inr x, hk, y4 =>
    obtain ⟨ax, cell, rfl, q1, q2, q3⟩ := y4
    rcases hk with ⟨hhd, Km, hQ, hnp, hKm, hle, hc, hs⟩ | ⟨hpc, hfh, hx3, hcast, hk⟩
    · unfold ck_leD at hle
      simp only [Bool.and_eq_true, decide_eq_true_eq] at hle
      obtain ⟨⟨⟨hT1, hT2⟩, hT3⟩, hle⟩ := hle
      obtain ⟨st1, hrun, hend, hW, hsame⟩ := X'.leaveThrown ax (g := F0 m pc ls rest) rfl rfl rfl (by rw [hhd]; intro x hx; cases hx) hlk
      refine ⟨_, hthr ax rfl _ st1, hQ _ ⟨.threw ax, hrun, hend, hW, ⟨locs ++ Ls, hsame.weaken (fun y hy _ => hy) hc hs, hlo2⟩, ρ, G2, N'.take Km.2.2.1.length, (z3.dr hT3).leT hle, ((z5 hwr h5).dr (by omega)).leT hle, h7, ?_⟩⟩
      rw [hKm]
      exact ⟨ax, cell, rfl, q1, q2, by rw [← hWV.alike.findClass]; exact q3⟩
    · have hcx : s.vm.findClass (ck_xn x) = some cell.cls := by rw [← hWV.alike.findClass]; exact q3
      have hpl : e.platform.magicAccessors = ({} : Platform).magicAccessors := by rw [Xs.admits.platform]
      obtain ⟨c3, c4, hc3, hc4, hasg⟩ := Cond.castable_spec (hKf.ts (args := args) _ hcast)
      cases hcx.symm.trans hc3
      cases hcx.symm.trans hc4
      obtain ⟨pre, y, rst, d1, d2, d3, d4, d5⟩ := ck_fh_ok hpl hown hKf hxl hx3 hcx hasg _ hfh
      obtain ⟨kx, hkx, -⟩ := Vm.findClass_spec hcx
      obtain ⟨vm', XV, stp⟩ := X'.caughtThrough ax (g := F0 m pc ls rest) rfl q1 q2 ⟨kx, hkx⟩ pre y rst d1 d2 d3 d4
      obtain ⟨t, a, b⟩ := hk U'.heap ls [.ref ax] (locs ++ Ls) ⟨ρ, G2, N', lv, h1, hL2, ck_all.cons ⟨ax, rfl⟩ ck_all.nil, z3, z5 hwr h5, hlo2, h7⟩ (U'.setVm vm') rfl XV
      refine ⟨t, hthr ax rfl t ?_, b⟩
      rw [X'.pushThrowing_eq]
      refine stp t ?_
      rw [d5]
      exact a
/-! the method's beginning -/
def ck_largs : Nat → List ck_V → List (Nat × ck_V)
  | _, [] => []
  | i, v :: vs => (i, v) :: ck_largs (if ck_lng v then i + 2 else i + 1) vs
theorem ck_largs_ok {ρ : Nat → Int} {G : Nat → Nat} {N : List Nat} : ∀ {ks : List ck_V} {vs : List Value} (i : Nat), ck_all (ck_R S ρ G N) ks vs → ks.all ck_kn = true → ck_all (ck_RL S ρ G N) (ck_largs i ks) (lv_args i vs)
  | [], vs, i, h, _ => by
    have : vs = [] := by
      have := h.1
      cases vs with
      | nil => rfl
      | cons a b => simp at this
    subst this
    exact ck_all.nil
  | k :: t, vs, i, h, hk => by
    obtain ⟨v, vs', rfl, h1, h2⟩ := h.uncons
    simp only [List.all_cons, Bool.and_eq_true] at hk
    have hc := ck_cat h1 hk.1
    have ih := ck_largs_ok (if v.category = 2 then i + 2 else i + 1) h2 hk.2
    refine ck_all.cons ⟨rfl, h1⟩ ?_
    have e : (if ck_lng k = true then i + 2 else i + 1) = (if v.category = 2 then i + 2 else i + 1) := by
      by_cases hv : v.category = 2
      · rw [if_pos hv, ← hc, hv]; rfl
      · rw [if_neg hv, if_neg]
        rw [← hc]
        simpa using hv
    rw [e]
    exact ih
/-- ghosts for the locals that are ints and have none yet -/
def ck_tagL (A : List (Nat × ck_V)) : List (Nat × ck_V) := A.map (fun q => (q.1, match q.2 with
  | .inl (lo, hi, none) => .inl (lo, hi, some (q.1, 0))
  | x => x))
def ck_lowg : ck_V → Bool
  | .inl (_, _, some (g, _)) => g < 100
  | _ => false
theorem cw_tagL {B : ck_A} (hA : B.1.all (fun q => !ck_lowg q.2 && decide (q.1 < 100)) = true) (hS : B.2.1.all (fun v => !ck_lowg v) = true) (hT : B.2.2.all (fun d => d.2.all (fun v => !ck_lowg v)) = true)
    (kk : ck_W p l e R s m args below meth c Q D AC S tab L nL ρ0 wr G0 N0 H0 pc (ck_tagL B.1, B.2.1, B.2.2) cells slots) : ck_W p l e R s m args below meth c Q D AC S tab L nL ρ0 wr G0 N0 H0 pc B cells slots := by
  intro H ls vs locs h
  obtain ⟨ρ, G, N, lv, h1, h2, h3, h4, h5, h6, h7⟩ := h
  have hg : ∀ {k : ck_V} {v : Value}, ck_lowg k = false → ck_R S ρ G N k v → ck_R S (fun g => if g < 100 then ck_iv (match ls[g]? with | some (.val w) => some w | _ => none) else ρ g) G N k v := by
    intro k v hk h
    match k, hk, h with
    | .inl (a, b, none), _, h =>
      obtain ⟨x, e, x1, x2, -⟩ := h
      exact ⟨x, e, x1, x2, fun g c q => by cases q⟩
    | .inl (a, b, some (t, n)), hk, h =>
      obtain ⟨x, e, x1, x2, x3⟩ := h
      refine ⟨x, e, x1, x2, fun g' c' q => ?_⟩
      cases q
      have hne : ¬ t < 100 := by simpa [ck_lowg] using hk
      show x.toInt = (if t < 100 then _ else ρ t) + n
      rw [if_neg hne]
      exact x3 t n rfl
    | .inr (.inl q), _, h => exact h
    | .inr (.inr (0, _)), _, h => exact h
    | .inr (.inr (1, i)), _, h => exact h
    | .inr (.inr (2, τ)), _, h => exact h
    | .inr (.inr (3, j)), _, h => exact h
    | .inr (.inr (4, _)), _, h => exact h
    | .inr (.inr (n + 5, _)), _, h => exact h
  refine kk H ls vs locs ⟨fun g => if g < 100 then ck_iv (match ls[g]? with | some (.val w) => some w | _ => none) else ρ g, G, N, lv, h1, ?_, h3.mono (fun k v hk h => hg (by simpa using List.all_eq_true.mp hS k hk) h), ⟨h4.1, h4.2.1, fun i d a hi ha => ?_, h4.2.2.2⟩, h5, h6, fun g g1 g2 => ?_⟩
  · refine ⟨by simp [ck_tagL, h2.1], fun i q w hq hw => ?_⟩
    simp only [ck_tagL, List.getElem?_map] at hq
    obtain ⟨q0, hq0, rfl⟩ := Option.map_eq_some_iff.mp hq
    obtain ⟨r1, r2⟩ := h2.2 i q0 w hq0 hw
    have hm := List.all_eq_true.mp hA q0 (List.mem_of_getElem? hq0)
    simp only [Bool.and_eq_true, Bool.not_eq_true', decide_eq_true_eq] at hm
    refine ⟨r1, ?_⟩
    have hslot : ls[q0.1]? = some (.val w.2) := by rw [r1]; exact h1.2.2 w (List.mem_of_getElem? hw)
    obtain ⟨i0, k0⟩ := q0
    dsimp only at hm r2 hslot ⊢
    match k0, r2, hm with
    | .inl (lo, hi, none), r2, hm =>
      obtain ⟨x, ex, x1, x2, -⟩ := r2
      refine ⟨x, ex, x1, x2, fun g c hgc => ?_⟩
      cases hgc
      show x.toInt = (if i0 < 100 then ck_iv (match ls[i0]? with | some (.val w) => some w | _ => none) else ρ i0) + 0
      rw [if_pos hm.2, hslot]
      show x.toInt = ck_iv (some w.2) + 0
      rw [ex]
      show x.toInt = x.toInt + 0
      omega
    | .inl (lo, hi, some t), r2, hm => exact hg hm.1 r2
    | .inr z, r2, hm => exact hg hm.1 r2
  · have hd := List.all_eq_true.mp hT d (List.mem_of_getElem? hi)
    have := (h4.2.2.1 i d a hi ha).mapV (ρ' := fun g => if g < 100 then ck_iv (match ls[g]? with | some (.val w) => some w | _ => none) else ρ g) (G' := G) (N' := N) id (fun _ => rfl) (fun _ => rfl) (fun k v hk hv => hg (by simpa using List.all_eq_true.mp hd k hk) hv)
    simpa using this
  · show (if g < 100 then _ else ρ g) = ρ0 g
    rw [if_neg (by omega)]
    exact h7 g g1 g2
/-- a method is checked from its beginning -/
theorem cw_entry (hml : c.maxLocals = M.2.2.1) {vs : List Value} (hargs : args = vs.toArray) (hv : ck_all (ck_R S ρ0 G0 N0) K.1 vs) (hH : ck_H D AC S tab L ρ0 G0 N0 (ck_etag K.2.1) s.heap) (hkn : K.1.all ck_kn = true) (hlen : ck_words K.1 ≤ M.2.2.1)
    (kk : ck_W p l e R s m args below meth c Q D AC S tab L M.2.2.1 ρ0 wr G0 N0 s.heap 0 (ck_largs 0 K.1, [], ck_etag K.2.1) 0 0) : W p l e R s m args below meth c s.heap [] 0 0 Q (entryFrame m args M.2.2.1) := by
  subst hargs
  have hw : (lg_sl vs).length = (vs.map fun v => v.category).sum := by
    clear hv hH kk
    induction vs with
    | nil => rfl
    | cons v t ih =>
      have h12 := lv_cat v
      simp only [lg_sl, List.flatMap_cons, List.length_append, List.map_cons, List.sum_cons] at ih ⊢
      rw [ih]
      congr 1
      rcases h12 with z | z <;> simp [z]
  have hl := lv_entry vs (n := M.2.2.1) (by rw [hw, ck_words_ok hv hkn]; exact hlen)
  rw [lg_entry_eq]
  refine kk s.heap _ [] [] ⟨ρ0, G0, N0, _, hl, ck_largs_ok 0 hv hkn, ck_all.nil, hH, ⟨Nat.le_refl _, fun _ _ => rfl, fun _ _ _ => rfl, Nat.le_refl _, fun _ _ => rfl, fun i d a hi ha ho hn => ?_⟩, fun q hq => (by cases hq), fun _ _ _ => rfl⟩
  have h9 := (List.getElem?_eq_some_iff.mp ha).1
  omega
end CKCA
end
section
/-! ===== more that is done between instructions: a typed object gets a name; a number is cut in two; types are made wider; ghosts ===== -/
section CKMO
variable {p : Program} {l : Launch} {e : Env} {R : Room} {s : State} {m : MethodId} {args : Array Value} {below : List Frame} {meth : Method} {c : Code} {cells slots : Nat} {Q : State → Prop}
variable {cc : ByteArray} {pc pc2 nL nS : Nat} {D : va_G} {AC : Nat → ClassId} {S : Nat → Nat} {tab : List ck_D} {L : Heap} {ρ0 : Nat → Int} {wr : List Nat} {G0 : Nat → Nat} {N0 : List Nat} {H0 : Heap}
variable {A : List (Nat × ck_V)} {st : List ck_V} {T : List ck_C}
def ck_setl (A : List (Nat × ck_V)) (k : Nat) (v : ck_V) : List (Nat × ck_V) := A.map (fun q => if q.1 == k then (q.1, v) else q)
/-- a typed object in a local gets a name -/
theorem cw_focus {k τ ci : Nat} {ks : List ck_V} (hk : ck_loc A k = some (.inr (.inr (2, τ)))) (hτ : tab[τ]? = some (.inr (ci, ks))) (hpl : ks.all ck_plain = true)
    (kk : ck_W p l e R s m args below meth c Q D AC S tab L nL ρ0 wr G0 N0 H0 pc (ck_setl A k (.inr (.inr (1, T.length))), st, T ++ [((3, τ), ks)]) cells slots) : ck_W p l e R s m args below meth c Q D AC S tab L nL ρ0 wr G0 N0 H0 pc (A, st, T) cells slots := by
  intro H ls vs locs h
  obtain ⟨ρ, G, N, lv, h1, h2, h3, h4, h5, h6, h7⟩ := h
  obtain ⟨j, v, g1, ⟨a, rfl, ha, hz⟩⟩ := ck_loc_ok h2 hk
  have hls : ls[k]? = some (.val (.ref a)) := lv_at h1 j g1
  have hlen : N.length = T.length := h4.2.1
  have hty := (h4.1.2.2 a (by rw [ha]; exact hz)).2
  rw [ha] at hty
  unfold ck_ty at hty
  rw [hτ] at hty
  obtain ⟨ws, y1, y2⟩ := hty
  have hnm : (N ++ [a])[T.length]? = some a := by rw [← hlen]; simp
  have spl : ∀ (j : Nat) (d : ck_C) (b : Nat), (T ++ [((3, τ), ks)])[j]? = some d → (N ++ [a])[j]? = some b → (T[j]? = some d ∧ N[j]? = some b) ∨ (j = T.length ∧ d = ((3, τ), ks) ∧ b = a) := by
    intro j d b hj hb
    by_cases e : j < T.length
    · rw [List.getElem?_append_left e] at hj
      rw [List.getElem?_append_left (by omega)] at hb
      exact Or.inl ⟨hj, hb⟩
    · rw [List.getElem?_append_right (by omega)] at hj
      rw [List.getElem?_append_right (by omega)] at hb
      have e0 : j - T.length = 0 := by
        have := (List.getElem?_eq_some_iff.mp hj).1
        simp at this
        omega
      rw [e0] at hj
      rw [show j - N.length = 0 by omega] at hb
      cases hj
      cases hb
      exact Or.inr ⟨by omega, rfl, rfl⟩
  refine kk H ls vs locs ⟨ρ, G, N ++ [a], lv, h1, ⟨by simp [ck_setl, h2.1], fun i q w hq hw => ?_⟩, ck_all_ext h3, ⟨h4.1, by simp [hlen], fun i d b hi hb => ?_, fun i1 i2 d1 d2 b k1 k2 o1 o2 n1 n2 => ?_⟩, ?_, h6, h7⟩
  · simp only [ck_setl, List.getElem?_map] at hq
    obtain ⟨q0, hq0, rfl⟩ := Option.map_eq_some_iff.mp hq
    obtain ⟨r1, r2⟩ := h2.2 i q0 w hq0 hw
    split
    · rename_i he
      have he : q0.1 = k := by simpa using he
      refine ⟨r1, a, hnm, ?_⟩
      have hsl : ls[w.1]? = some (.val w.2) := h1.2.2 w (List.mem_of_getElem? hw)
      rw [← r1, he, hls] at hsl
      have hval : Value.ref a = w.2 := by simpa using hsl
      exact hval.symm
    · exact ⟨r1, r2.ext _⟩
  · rcases spl i d b hi hb with ⟨x1, x2⟩ | ⟨-, rfl, rfl⟩
    · exact (h4.2.2.1 i d b x1 x2).ext _
    · exact ⟨ha, hz, ci, ks, ws, hτ, y1, y2.mono fun k v hk h => ck_R.plain (List.all_eq_true.mp hpl k hk) h⟩
  · rcases spl i1 d1 b k1 n1 with ⟨x1, x2⟩ | ⟨-, rfl, -⟩
    · rcases spl i2 d2 b k2 n2 with ⟨z1, z2⟩ | ⟨-, rfl, -⟩
      · exact h4.2.2.2 i1 i2 d1 d2 b x1 z1 o1 o2 x2 z2
      · simp [ck_own] at o2
    · simp [ck_own] at o1
  · obtain ⟨f1, f2, f3, f4, f5, f6⟩ := h5
    refine ⟨f1, f2, f3, by simp; omega, fun i hi => by rw [List.getElem?_append_left (by omega)]; exact f5 i hi, fun i d b hd hb ho hn => ?_⟩
    rcases spl i d b hd hb with ⟨x1, x2⟩ | ⟨-, rfl, -⟩
    · exact f6 i d b x1 x2 ho hn
    · simp [ck_own] at ho
/-- a typed array in a named object gets a name -/
theorem cw_focA {i k τ b n ac nn : Nat} {hd : Nat × Nat} {fs : List ck_V} {sg : List (Nat × ck_V)} (hi : T[i]? = some (hd, fs)) (hk : fs[k]? = some (.inr (.inr (2, τ)))) (hkd : hd.1 = 0 ∨ hd.1 = 3) (hτ : tab[τ]? = some (.inl (ac, nn, sg))) (hb : b + n ≤ nn) (hpl : (List.range n).all (fun j => ck_plain (ck_kat sg (b + j))) = true)
    (kk : ck_W p l e R s m args below meth c Q D AC S tab L nL ρ0 wr G0 N0 H0 pc (A, st, T.set i (hd, fs.set k (.inr (.inr (1, T.length)))) ++ [((b + 7, τ), (List.range n).map (fun j => ck_kat sg (b + j)))]) cells slots) : ck_W p l e R s m args below meth c Q D AC S tab L nL ρ0 wr G0 N0 H0 pc (A, st, T) cells slots := by
  intro H ls vs locs h
  obtain ⟨ρ, G, N, lv, h1, h2, h3, h4, h5, h6, h7⟩ := h
  have hlen : N.length = T.length := h4.2.1
  have hil : i < T.length := (List.getElem?_eq_some_iff.mp hi).1
  obtain ⟨a, ha⟩ : ∃ a, N[i]? = some a := ⟨N[i], List.getElem?_eq_getElem (by omega)⟩
  have htc := h4.2.2.1 i _ a hi ha
  have hfv : ∃ vs : List Value, ck_all (ck_R S ρ G N) fs vs ∧ ∀ (N' : List Nat) (fs' : List ck_V), ck_all (ck_R S ρ G N') fs' vs → ck_tc D AC S tab L ρ G N' H (hd, fs') a := by
    obtain ⟨k0, n0⟩ := hd
    dsimp only at hkd
    rcases hkd with rfl | rfl
    · obtain ⟨a1, a2, vs, a3, a4⟩ := htc
      exact ⟨vs, a4, fun N' fs' h => ⟨a1, a2, vs, a3, h⟩⟩
    · obtain ⟨a1, a2, ci, ks, vs, a3, a5, a4⟩ := htc
      exact ⟨vs, a4, fun N' fs' h => ⟨a1, a2, ci, ks, vs, a3, a5, h⟩⟩
  obtain ⟨ws, w1, w2⟩ := hfv
  obtain ⟨wv, q1, ⟨b0, rfl, hb0, hz0⟩⟩ := w1.get hk
  have hty := (h4.1.2.2 b0 (by rw [hb0]; exact hz0)).2
  rw [hb0] at hty
  unfold ck_ty at hty
  rw [hτ] at hty
  obtain ⟨f, y1, y2⟩ := hty
  have hnm : (N ++ [b0])[T.length]? = some b0 := by rw [← hlen]; simp
  have spl : ∀ (j : Nat) (d : ck_C) (b' : Nat), (T.set i (hd, fs.set k (.inr (.inr (1, T.length)))) ++ [((b + 7, τ), (List.range n).map (fun j => ck_kat sg (b + j)))])[j]? = some d → (N ++ [b0])[j]? = some b' → (j = i ∧ d = (hd, fs.set k (.inr (.inr (1, T.length)))) ∧ b' = a) ∨ (j ≠ i ∧ T[j]? = some d ∧ N[j]? = some b') ∨ (j = T.length ∧ d = ((b + 7, τ), (List.range n).map (fun j => ck_kat sg (b + j))) ∧ b' = b0) := by
    intro j d b' hj hb'
    by_cases e : j < T.length
    · rw [List.getElem?_append_left (by simpa using e)] at hj
      rw [List.getElem?_append_left (by omega)] at hb'
      by_cases e2 : i = j
      · subst e2
        rw [List.getElem?_set_self hil] at hj
        cases hj
        cases ha.symm.trans hb'
        exact Or.inl ⟨rfl, rfl, rfl⟩
      · rw [List.getElem?_set_ne e2] at hj
        exact Or.inr (Or.inl ⟨Ne.symm e2, hj, hb'⟩)
    · rw [List.getElem?_append_right (by simpa using e)] at hj
      rw [List.getElem?_append_right (by omega)] at hb'
      simp only [List.length_set] at hj
      have e0 : j - T.length = 0 := by
        have := (List.getElem?_eq_some_iff.mp hj).1
        simp at this
        omega
      rw [e0] at hj
      rw [show j - N.length = 0 by omega] at hb'
      cases hj
      cases hb'
      exact Or.inr (Or.inr ⟨by omega, rfl, rfl⟩)
  have hall : ck_all (ck_R S ρ G (N ++ [b0])) (fs.set k (.inr (.inr (1, T.length)))) ws := by
    refine ⟨by simp [w1.1], fun j x y hx hy => ?_⟩
    by_cases e : k = j
    · subst e
      rw [List.getElem?_set_self (List.getElem?_eq_some_iff.mp hk).1] at hx
      cases hx
      cases q1.symm.trans hy
      exact ⟨b0, hnm, rfl⟩
    · rw [List.getElem?_set_ne e] at hx
      exact (w1.2 j x y hx hy).ext _
  have hnown : ck_own ((b + 7, τ), (List.range n).map (fun j => ck_kat sg (b + j))) = false := ck_foc_own (Or.inr (Nat.le_add_left 7 b))
  refine kk H ls vs locs ⟨ρ, G, N ++ [b0], lv, h1, ck_allL_ext h2, ck_all_ext h3, ⟨h4.1, by simp [hlen], fun j d b' hj hb' => ?_, fun j1 j2 d1 d2 b' k1 k2 o1 o2 n1 n2 => ?_⟩, ?_, h6, h7⟩
  · rcases spl j d b' hj hb' with ⟨rfl, rfl, rfl⟩ | ⟨-, x1, x2⟩ | ⟨-, rfl, rfl⟩
    · exact w2 _ _ hall
    · exact (h4.2.2.1 j d b' x1 x2).ext _
    · refine ⟨hb0, hz0, ac, nn, sg, f, hτ, y1, by simpa using hb, fun j v hv => ?_⟩
      simp only [List.getElem?_map] at hv
      obtain ⟨z, hz, rfl⟩ := Option.map_eq_some_iff.mp hv
      have hzn : z = j ∧ j < n := by
        have hl := (List.getElem?_eq_some_iff.mp hz).1
        simp at hl
        rw [List.getElem?_range hl] at hz
        cases hz
        exact ⟨rfl, hl⟩
      obtain ⟨rfl, hjn⟩ := hzn
      exact (y2 (b + z) (by omega)).plain (List.all_eq_true.mp hpl z (List.mem_range.mpr hjn))
  · rcases spl j1 d1 b' k1 n1 with ⟨rfl, rfl, rfl⟩ | ⟨e1, x1, x2⟩ | ⟨-, rfl, -⟩
    · rcases spl j2 d2 _ k2 n2 with ⟨rfl, rfl, -⟩ | ⟨e2, z1, z2⟩ | ⟨-, rfl, -⟩
      · rfl
      · exact h4.2.2.2 j1 j2 (hd, fs) d2 _ hi z1 o1 o2 ha z2
      · rw [hnown] at o2; cases o2
    · rcases spl j2 d2 b' k2 n2 with ⟨rfl, rfl, rfl⟩ | ⟨e2, z1, z2⟩ | ⟨-, rfl, -⟩
      · exact h4.2.2.2 j1 j2 d1 (hd, fs) _ x1 hi o1 o2 x2 ha
      · exact h4.2.2.2 j1 j2 d1 d2 b' x1 z1 o1 o2 x2 z2
      · rw [hnown] at o2; cases o2
    · rw [hnown] at o1; cases o1
  · obtain ⟨f1, f2, f3, f4, f5, f6⟩ := h5
    refine ⟨f1, f2, f3, by simp; omega, fun i hi => by rw [List.getElem?_append_left (by omega)]; exact f5 i hi, fun j d b' hd' hb' ho hn => ?_⟩
    rcases spl j d b' hd' hb' with ⟨rfl, rfl, rfl⟩ | ⟨-, x1, x2⟩ | ⟨-, rfl, -⟩
    · exact f6 j (hd, fs) _ hi ha ho hn
    · exact f6 j d b' x1 x2 ho hn
    · rw [hnown] at ho; cases ho
/-- a cell's contents, otherwise said, for all or for two cases -/
theorem ck_tc.upd {ρ : Nat → Int} {G : Nat → Nat} {N : List Nat} {H : Heap} {h : Nat × Nat} {fs : List ck_V} {k a : Nat} {v v' : ck_V} (ht : ck_tc D AC S tab L ρ G N H (h, fs) a) (hk : fs[k]? = some v) (hv : ∀ w, ck_R S ρ G N v w → ck_R S ρ G N v' w) : ck_tc D AC S tab L ρ G N H (h, fs.set k v') a := by
  have hall : ∀ {vs : List Value}, ck_all (ck_R S ρ G N) fs vs → ck_all (ck_R S ρ G N) (fs.set k v') vs := by
    intro vs hvs
    refine ⟨by simp [hvs.1], fun i x y hx hy => ?_⟩
    by_cases e : k = i
    · subst e
      rw [List.getElem?_set_self (List.getElem?_eq_some_iff.mp hk).1] at hx
      cases hx
      exact hv y (hvs.2 k v y hk hy)
    · rw [List.getElem?_set_ne e] at hx
      exact hvs.2 i x y hx hy
  obtain ⟨k1, n1⟩ := h
  unfold ck_tc at ht ⊢
  match k1, ht with
  | 0, ht => obtain ⟨h1, h2, vs, h3, h4⟩ := ht; exact ⟨h1, h2, vs, h3, hall h4⟩
  | 1, ht =>
    obtain ⟨h1, h2, f, h3, h4⟩ := ht
    refine ⟨h1, h2, f, by simpa using h3, fun j x hj => ?_⟩
    dsimp only at hj
    by_cases e : k = j
    · subst e
      rw [List.getElem?_set_self (List.getElem?_eq_some_iff.mp hk).1] at hj
      cases hj
      exact hv _ (h4 k v hk)
    · rw [List.getElem?_set_ne e] at hj
      exact h4 j x hj
  | 2, ht => exact trivial
  | 3, ht => obtain ⟨h1, h2, ci, ks, vs, h3, h4, h5⟩ := ht; exact ⟨h1, h2, ci, ks, vs, h3, h4, hall h5⟩
  | 4, ht => exact trivial
  | 5, ht =>
    obtain ⟨h1, cell, h2, h3, h4⟩ := ht
    refine ⟨h1, cell, h2, h3, fun j x hj => ?_⟩
    dsimp only at hj
    by_cases e : k = j
    · subst e
      rw [List.getElem?_set_self (List.getElem?_eq_some_iff.mp hk).1] at hj
      cases hj
      obtain ⟨w, w1, w2⟩ := h4 k v hk
      exact ⟨w, w1, hv w w2⟩
    · rw [List.getElem?_set_ne e] at hj
      exact h4 j x hj
  | 6, ht =>
    obtain ⟨h1, cell, h2, h3, h4⟩ := ht
    refine ⟨h1, cell, h2, h3, fun j x hj => ?_⟩
    dsimp only at hj
    by_cases e : k = j
    · subst e
      rw [List.getElem?_set_self (List.getElem?_eq_some_iff.mp hk).1] at hj
      cases hj
      obtain ⟨w, w1, w2⟩ := h4 k v hk
      exact ⟨w, w1, hv w w2⟩
    · rw [List.getElem?_set_ne e] at hj
      exact h4 j x hj
  | k7 + 7, ht =>
    obtain ⟨h1, h2, ac, n0, sg, f, h3, h4, h5, h6⟩ := ht
    refine ⟨h1, h2, ac, n0, sg, f, h3, h4, by simpa using h5, fun j x hj => ?_⟩
    dsimp only at hj
    by_cases e : k = j
    · subst e
      rw [List.getElem?_set_self (List.getElem?_eq_some_iff.mp hk).1] at hj
      cases hj
      exact hv _ (h6 k v hk)
    · rw [List.getElem?_set_ne e] at hj
      exact h6 j x hj
theorem ck_H.upd {ρ : Nat → Int} {G : Nat → Nat} {N : List Nat} {H : Heap} {h : Nat × Nat} {fs fs' : List ck_V} {i : Nat} (h4 : ck_H D AC S tab L ρ G N T H) (hi : T[i]? = some (h, fs)) (hc : ∀ a, N[i]? = some a → ck_tc D AC S tab L ρ G N H (h, fs) a → ck_tc D AC S tab L ρ G N H (h, fs') a) : ck_H D AC S tab L ρ G N (T.set i (h, fs')) H := by
  obtain ⟨k1, k2, k3, k4⟩ := h4
  have hil : i < T.length := (List.getElem?_eq_some_iff.mp hi).1
  have spl : ∀ (j : Nat) (d : ck_C), (T.set i (h, fs'))[j]? = some d → (j = i ∧ d = (h, fs')) ∨ (j ≠ i ∧ T[j]? = some d) := by
    intro j d hj
    by_cases e : i = j
    · subst e
      rw [List.getElem?_set_self hil] at hj
      cases hj
      exact Or.inl ⟨rfl, rfl⟩
    · rw [List.getElem?_set_ne e] at hj
      exact Or.inr ⟨Ne.symm e, hj⟩
  refine ⟨k1, by simp [k2], fun j d a hj ha => ?_, fun j1 j2 d1 d2 a e1 e2 o1 o2 n1 n2 => ?_⟩
  · rcases spl j d hj with ⟨rfl, rfl⟩ | ⟨-, hj'⟩
    · exact hc a ha (k3 j _ a hi ha)
    · exact k3 j d a hj' ha
  · have f : ∀ (j : Nat) (d : ck_C), (T.set i (h, fs'))[j]? = some d → ck_own d = true → ∃ d', T[j]? = some d' ∧ ck_own d' = true := by
      intro j d hd ho
      rcases spl j d hd with ⟨rfl, rfl⟩ | ⟨-, hj'⟩
      · exact ⟨_, hi, ho⟩
      · exact ⟨d, hj', ho⟩
    obtain ⟨x1, y1, z1⟩ := f j1 d1 e1 o1
    obtain ⟨x2, y2, z2⟩ := f j2 d2 e2 o2
    exact k4 j1 j2 x1 x2 a y1 y2 z1 z2 n1 n2
/-- a number in a named cell is cut in two -/
theorem cw_split {i k : Nat} {h : Nat × Nat} {fs : List ck_V} {q : ck_Q} (x : Int) (hi : T[i]? = some (h, fs)) (hk : fs[k]? = some (.inl q))
    (k1 : ck_W p l e R s m args below meth c Q D AC S tab L nL ρ0 wr G0 N0 H0 pc (A, st, T.set i (h, fs.set k (.inl (q.1, x, q.2.2)))) cells slots)
    (k2 : ck_W p l e R s m args below meth c Q D AC S tab L nL ρ0 wr G0 N0 H0 pc (A, st, T.set i (h, fs.set k (.inl (x + 1, q.2.1, q.2.2)))) cells slots) : ck_W p l e R s m args below meth c Q D AC S tab L nL ρ0 wr G0 N0 H0 pc (A, st, T) cells slots := by
  intro H ls vs locs hh
  obtain ⟨ρ, G, N, lv, h1, h2, h3, h4, h5, h6, h7⟩ := hh
  have hil : i < T.length := (List.getElem?_eq_some_iff.mp hi).1
  have hNl : i < N.length := by have := h4.2.1; dsimp only at this; omega
  obtain ⟨a, ha⟩ : ∃ a, N[i]? = some a := ⟨N[i], List.getElem?_eq_getElem hNl⟩
  have ht := h4.2.2.1 i _ a hi ha
  have hF : ∀ fs', ck_F wr G0 N0 H0 G N (T.set i (h, fs')) H := fun fs' => by
    obtain ⟨f1, f2, f3, f4, f5, f6⟩ := h5
    refine ⟨f1, f2, f3, f4, f5, fun j d b hd hb ho hn => ?_⟩
    obtain ⟨d', e1, e2⟩ := ck_set_own (c := (h, fs')) ⟨_, hi, fun o => o⟩ j d hd ho
    exact f6 j d' b e1 hb e2 hn
  have key : (ck_tc D AC S tab L ρ G N H (h, fs.set k (.inl (q.1, x, q.2.2))) a) ∨ (ck_tc D AC S tab L ρ G N H (h, fs.set k (.inl (x + 1, q.2.1, q.2.2))) a) := by
    have go : ∀ (w : Value), ck_R S ρ G N (.inl q) w → (ck_R S ρ G N (.inl (q.1, x, q.2.2)) w ∨ ck_R S ρ G N (.inl (x + 1, q.2.1, q.2.2)) w) := by
      intro w hw
      obtain ⟨y, rfl, y1, y2, y3⟩ := hw
      by_cases hy : y.toInt ≤ x
      · exact Or.inl ⟨y, rfl, y1, hy, y3⟩
      · exact Or.inr ⟨y, rfl, by dsimp only; omega, y2, y3⟩
    obtain ⟨kd, n1⟩ := h
    have hkl : k < fs.length := (List.getElem?_eq_some_iff.mp hk).1
    have fin : ∀ (w : Value) (vs : List Value), ck_all (ck_R S ρ G N) fs vs → vs[k]? = some w → ∀ v', ck_R S ρ G N v' w → ck_all (ck_R S ρ G N) (fs.set k v') vs := by
      intro w vs hvs hw v' hv'
      refine ⟨by simp [hvs.1], fun j x' y hx hy => ?_⟩
      by_cases e : k = j
      · subst e
        rw [List.getElem?_set_self hkl] at hx
        cases hx
        cases hw.symm.trans hy
        exact hv'
      · rw [List.getElem?_set_ne e] at hx
        exact hvs.2 j x' y hx hy
    have fin2 : ∀ (f : Nat → Value), (∀ (j : Nat) (v : ck_V), fs[j]? = some v → ck_R S ρ G N v (f j)) → ∀ v', ck_R S ρ G N v' (f k) → ∀ (j : Nat) (v : ck_V), (fs.set k v')[j]? = some v → ck_R S ρ G N v (f j) := by
      intro f hf v' hv' j v hj
      by_cases e : k = j
      · subst e
        rw [List.getElem?_set_self hkl] at hj
        cases hj
        exact hv'
      · rw [List.getElem?_set_ne e] at hj
        exact hf j v hj
    unfold ck_tc at ht ⊢
    match kd, ht with
    | 0, ht =>
      obtain ⟨a1, a2, vs, a3, a4⟩ := ht
      obtain ⟨w, w1, w2⟩ := a4.get hk
      rcases go w w2 with g | g
      · exact Or.inl ⟨a1, a2, vs, a3, fin w vs a4 w1 _ g⟩
      · exact Or.inr ⟨a1, a2, vs, a3, fin w vs a4 w1 _ g⟩
    | 1, ht =>
      obtain ⟨a1, a2, f, a3, a4⟩ := ht
      rcases go _ (a4 k _ hk) with g | g
      · exact Or.inl ⟨a1, a2, f, by simpa using a3, fin2 f a4 _ g⟩
      · exact Or.inr ⟨a1, a2, f, by simpa using a3, fin2 f a4 _ g⟩
    | 2, ht => exact Or.inl trivial
    | 3, ht =>
      obtain ⟨a1, a2, ci, ks, vs, a3, a5, a4⟩ := ht
      obtain ⟨w, w1, w2⟩ := a4.get hk
      rcases go w w2 with g | g
      · exact Or.inl ⟨a1, a2, ci, ks, vs, a3, a5, fin w vs a4 w1 _ g⟩
      · exact Or.inr ⟨a1, a2, ci, ks, vs, a3, a5, fin w vs a4 w1 _ g⟩
    | 4, ht => exact Or.inl trivial
    | 5, ht =>
      obtain ⟨a1, cell, a2, a3, a4⟩ := ht
      obtain ⟨w, w1, w2⟩ := a4 k _ hk
      have f3 : ∀ v', ck_R S ρ G N v' w → ∀ (j : Nat) (v : ck_V), (fs.set k v')[j]? = some v → ∃ w, cell.slots[j]? = some w ∧ ck_R S ρ G N v w := by
        intro v' hv' j v hj
        by_cases e : k = j
        · subst e
          rw [List.getElem?_set_self hkl] at hj
          cases hj
          exact ⟨w, w1, hv'⟩
        · rw [List.getElem?_set_ne e] at hj
          exact a4 j v hj
      rcases go w w2 with g | g
      · exact Or.inl ⟨a1, cell, a2, a3, f3 _ g⟩
      · exact Or.inr ⟨a1, cell, a2, a3, f3 _ g⟩
    | 6, ht =>
      obtain ⟨a1, cell, a2, a3, a4⟩ := ht
      obtain ⟨w, w1, w2⟩ := a4 k _ hk
      have f3 : ∀ v', ck_R S ρ G N v' w → ∀ (j : Nat) (v : ck_V), (fs.set k v')[j]? = some v → ∃ w, cell.slots[S 3 + j]? = some w ∧ ck_R S ρ G N v w := by
        intro v' hv' j v hj
        by_cases e : k = j
        · subst e
          rw [List.getElem?_set_self hkl] at hj
          cases hj
          exact ⟨w, w1, hv'⟩
        · rw [List.getElem?_set_ne e] at hj
          exact a4 j v hj
      rcases go w w2 with g | g
      · exact Or.inl ⟨a1, cell, a2, a3, f3 _ g⟩
      · exact Or.inr ⟨a1, cell, a2, a3, f3 _ g⟩
    | k7 + 7, ht =>
      obtain ⟨a1, a2, ac, n0, sg, f, a3, a4, a5, a6⟩ := ht
      rcases go _ (a6 k _ hk) with g | g
      · exact Or.inl ⟨a1, a2, ac, n0, sg, f, a3, a4, by simpa using a5, fin2 (fun j => f (k7 + j)) a6 _ g⟩
      · exact Or.inr ⟨a1, a2, ac, n0, sg, f, a3, a4, by simpa using a5, fin2 (fun j => f (k7 + j)) a6 _ g⟩
  rcases key with g | g
  · exact k1 H ls vs locs ⟨ρ, G, N, lv, h1, h2, h3, h4.upd hi (fun b hb _ => by cases ha.symm.trans hb; exact g), hF _, h6, h7⟩
  · exact k2 H ls vs locs ⟨ρ, G, N, lv, h1, h2, h3, h4.upd hi (fun b hb _ => by cases ha.symm.trans hb; exact g), hF _, h6, h7⟩
/-- a ghost for the local that was written last -/
theorem cw_tag1 {i g : Nat} {lo hi : Int} (hg : ck_ugA g (A, st, T) = false) (hr : g < 100 ∨ 200 ≤ g)
    (kk : ck_W p l e R s m args below meth c Q D AC S tab L nL ρ0 wr G0 N0 H0 pc ((i, .inl (lo, hi, some (g, 0))) :: A, st, T) cells slots) : ck_W p l e R s m args below meth c Q D AC S tab L nL ρ0 wr G0 N0 H0 pc ((i, .inl (lo, hi, none)) :: A, st, T) cells slots := by
  intro H ls vs locs h
  obtain ⟨ρ, G, N, lv, h1, h2, h3, h4, h5, h6, h7⟩ := h
  obtain ⟨w, lv', rfl, ⟨e0, ⟨x, ex, x1, x2, -⟩⟩, h2'⟩ := h2.uncons
  unfold ck_ugA at hg
  simp only [Bool.or_eq_false_iff] at hg
  obtain ⟨⟨g1, g2⟩, g3⟩ := hg
  have hρ : ∀ h, h ≠ g → (fun h => if h = g then x.toInt else ρ h) h = ρ h := fun h hne => by simp [hne]
  refine kk H ls vs locs ⟨fun h => if h = g then x.toInt else ρ h, G, N, w :: lv', h1, ck_all.cons ⟨e0, x, ex, x1, x2, fun g' c' hg' => ?_⟩ (h2'.mono fun q w hq hw => ⟨hw.1, hw.2.ghost hρ (by simpa using List.any_eq_false.mp g1 q hq)⟩), h3.mono (fun k v hk hv => hv.ghost hρ (by simpa using List.any_eq_false.mp g2 k hk)), ⟨h4.1, h4.2.1, fun j d a hj ha => ?_, h4.2.2.2⟩, h5, h6, fun h a1 a2 => ?_⟩
  · cases hg'
    show x.toInt = (if g = g then x.toInt else ρ g) + 0
    rw [if_pos rfl]
    omega
  · have hd := List.any_eq_false.mp g3 d (List.mem_of_getElem? hj)
    have := (h4.2.2.1 j d a hj ha).mapV (ρ' := fun h => if h = g then x.toInt else ρ h) (G' := G) (N' := N) id (fun _ => rfl) (fun _ => rfl) (fun k v hk hv => hv.ghost hρ (by
      have h9 : ¬ (d.2.any (ck_ug g) = true) := hd
      have h8 : d.2.any (ck_ug g) = false := by simpa using h9
      simpa using List.any_eq_false.mp h8 k hk))
    simpa using this
  · show (if h = g then x.toInt else ρ h) = ρ0 h
    rw [if_neg (by omega)]
    exact h7 h a1 a2
end CKMO
end
section
/-! ===== the checker: instructions that leave the heap alone ===== -/
def ck_lng0 (q : Int × Int) : Bool := q.1 == 0 && q.2 == 0
def ck_bin (i : Instr) (a b : ck_Q) : Option ck_V := match i with
  | .iadd => some (ck_add a b)
  | .isub => some (ck_sub a b)
  | .imul => some (ck_mul a b)
  | .iand => some (ck_and a b)
  | .ior => some (ck_orx a b)
  | .ixor => some (ck_orx a b)
  | .ishl => some (ck_shl a b)
  | .ishr => some (ck_shr a b)
  | .iushr => some (ck_ushr a b)
  | .idiv => ck_div a b
  | .irem => ck_rem a b
  | _ => none
/-- what a load or a constant pushes -/
def ck_psh (kl jl : List (Nat × Int)) (A : List (Nat × ck_V)) (i : Instr) (n : Nat) : Option ck_V := match i with
  | .iconst v => if n = 1 ∧ -1 ≤ v ∧ v ≤ 5 then some (.inl (v, v, none)) else none
  | .bipush v => if n = 2 ∧ -128 ≤ v ∧ v ≤ 127 then some (.inl (v, v, none)) else none
  | .sipush v => if n = 3 ∧ -32768 ≤ v ∧ v ≤ 32767 then some (.inl (v, v, none)) else none
  | .ldc k => if n = 2 then (match ck_lk kl k with
    | some v => if ck_iok v v then some (.inl (v, v, none)) else none
    | none => none) else none
  | .ldc2_w k => if n = 3 then (match ck_lk jl k with
    | some v => if -9223372036854775808 ≤ v ∧ v ≤ 9223372036854775807 then some (.inr (.inl (v, v))) else none
    | none => none) else none
  | .lconst v => if n = 1 then some (.inr (.inl ((v.val : Int), (v.val : Int)))) else none
  | .iload k => if n = 2 then (match ck_loc A k with
    | some (.inl q) => some (.inl q)
    | _ => none) else none
  | .iload_n k => if n = 1 then (match ck_loc A k.val with
    | some (.inl q) => some (.inl q)
    | _ => none) else none
  | .lload k => if n = 2 then (match ck_loc A k with
    | some (.inr (.inl q)) => some (.inr (.inl q))
    | _ => none) else none
  | .lload_n k => if n = 1 then (match ck_loc A k.val with
    | some (.inr (.inl q)) => some (.inr (.inl q))
    | _ => none) else none
  | .aload k => if n = 2 then (match ck_loc A k with
    | some (.inr (.inr q)) => if q.1 < 5 then some (.inr (.inr q)) else none
    | _ => none) else none
  | .aload_n k => if n = 1 then (match ck_loc A k.val with
    | some (.inr (.inr q)) => if q.1 < 5 then some (.inr (.inr q)) else none
    | _ => none) else none
  | _ => none
section CKPU
variable {p : Program} {l : Launch} {e : Env} {R : Room} {s : State} {m : MethodId} {args : Array Value} {below : List Frame} {meth : Method} {c : Code} {cells slots : Nat} {Q : State → Prop}
variable {cc : ByteArray} {pc pc2 nL nS : Nat} {D : va_G} {AC : Nat → ClassId} {S : Nat → Nat} {tab : List ck_D} {L : Heap} {ρ0 : Nat → Int} {wr : List Nat} {G0 : Nat → Nat} {N0 : List Nat} {H0 : Heap}
variable {A : List (Nat × ck_V)} {st : List ck_V} {T : List ck_C} {own : String}
theorem ck_ofInt {n : Int} (h1 : -2147483648 ≤ n) (h2 : n ≤ 2147483647) : (Int32.ofInt n).toInt = n := by
  rw [Int32.toInt_ofInt]
  exact ck_bm h1 h2
theorem ck_ofInt8 {n : Int} (h1 : -128 ≤ n) (h2 : n ≤ 127) : ((Int8.ofInt n).toInt32).toInt = n := by
  rw [Int8.toInt_toInt32, Int8.toInt_ofInt]
  show n.bmod 256 = n
  rw [Int.bmod_def]
  split <;> omega
theorem ck_ofInt16 {n : Int} (h1 : -32768 ≤ n) (h2 : n ≤ 32767) : ((Int16.ofInt n).toInt32).toInt = n := by
  rw [Int16.toInt_toInt32, Int16.toInt_ofInt]
  show n.bmod 65536 = n
  rw [Int.bmod_def]
  split <;> omega
theorem ck_ofInt64 {n : Int} (h1 : -9223372036854775808 ≤ n) (h2 : n ≤ 9223372036854775807) : (Int64.ofInt n).toInt = n := by
  rw [Int64.toInt_ofInt]
  show n.bmod 18446744073709551616 = n
  rw [Int.bmod_def]
  split <;> omega
theorem cw_psh (hexec : p.tables.exec = Jvm.exec) (hb : c.code = cc) (hown : s.vm.findClass own = some m.cls) {kl jl : List (Nat × Int)} (hkl : ∀ q ∈ kl, ∃ v : Int32, v.toInt = q.2 ∧ (Cond.constant own q.1 v).before args s = true) (hjl : ∀ q ∈ jl, ∃ v : Int64, v.toInt = q.2 ∧ (Cond.constantLong own q.1 v).before args s = true)
    {i : Instr} {n : Nat} {v : ck_V} (hd : decode cc pc = .ok (i, n)) (h : ck_psh kl jl A i n = some v)
    (k : ck_W p l e R s m args below meth c Q D AC S tab L nL ρ0 wr G0 N0 H0 (pc + n) (A, v :: st, T) cells slots) : ck_W p l e R s m args below meth c Q D AC S tab L nL ρ0 wr G0 N0 H0 pc (A, st, T) cells slots := by
  unfold ck_psh at h
  split at h
  · split at h
    · rename_i v' hc
      obtain ⟨rfl, c1, c2⟩ := hc
      cases h
      exact cw_pushI _ _ (ck_ofInt (by omega) (by omega)) (fun w => lv_iconst hexec hb hd rfl w) k
    · cases h
  · split at h
    · rename_i v' hc
      obtain ⟨rfl, c1, c2⟩ := hc
      cases h
      exact cw_pushI _ _ (ck_ofInt8 (by omega) (by omega)) (fun w => lv_bipush hexec hb hd rfl w) k
    · cases h
  · split at h
    · rename_i v' hc
      obtain ⟨rfl, c1, c2⟩ := hc
      cases h
      exact cw_pushI _ _ (ck_ofInt16 (by omega) (by omega)) (fun w => lv_sipush hexec hb hd rfl w) k
    · cases h
  · split at h
    · rename_i k' hn
      subst hn
      split at h
      · rename_i x hx
        split at h
        · cases h
          obtain ⟨u, u1, u2⟩ := hkl _ (ck_lk_mem hx)
          exact cw_pushI _ u u1 (fun w => lv_ldc hexec hb hown u2 hd w) k
        · cases h
      · cases h
    · cases h
  · split at h
    · rename_i k' hn
      subst hn
      split at h
      · rename_i x hx
        split at h
        · cases h
          obtain ⟨u, u1, u2⟩ := hjl _ (ck_lk_mem hx)
          exact cw_pushJ _ u u1 (fun w => lv_ldc2 hexec hb hown u2 hd w) k
        · cases h
      · cases h
    · cases h
  · split at h
    · rename_i k' hn
      subst hn
      cases h
      refine cw_pushJ _ _ ?_ (fun w => lv_lconst hexec hb hd rfl w) k
      have := k'.isLt
      match k' with
      | 0 => rfl
      | 1 => rfl
    · cases h
  · split at h
    · rename_i k' hn
      subst hn
      split at h
      · rename_i q hq
        cases h
        refine cw_load hq (fun {H} {ls} {rest} {locs} {ρ} {G} {N} {v} hl hv w => ?_) k
        obtain ⟨x, rfl, -⟩ := hv
        exact lv_iload hexec hb hd hl w
      · cases h
    · cases h
  · split at h
    · rename_i k' hn
      subst hn
      split at h
      · rename_i q hq
        cases h
        refine cw_load hq (fun {H} {ls} {rest} {locs} {ρ} {G} {N} {v} hl hv w => ?_) k
        obtain ⟨x, rfl, -⟩ := hv
        exact lv_iload_n hexec hb hd rfl hl w
      · cases h
    · cases h
  · split at h
    · rename_i k' hn
      subst hn
      split at h
      · rename_i q hq
        cases h
        refine cw_load hq (fun {H} {ls} {rest} {locs} {ρ} {G} {N} {v} hl hv w => ?_) k
        obtain ⟨x, rfl, -⟩ := hv
        exact lv_lload hexec hb hd hl w
      · cases h
    · cases h
  · split at h
    · rename_i k' hn
      subst hn
      split at h
      · rename_i q hq
        cases h
        refine cw_load hq (fun {H} {ls} {rest} {locs} {ρ} {G} {N} {v} hl hv w => ?_) k
        obtain ⟨x, rfl, -⟩ := hv
        exact lv_lload_n hexec hb hd rfl hl w
      · cases h
    · cases h
  · split at h
    · rename_i k' hn
      subst hn
      split at h
      · rename_i q hq
        split at h
        · rename_i h5
          cases h
          refine cw_load hq (fun {H} {ls} {rest} {locs} {ρ} {G} {N} {v} hl hv w => ?_) k
          obtain ⟨q1, q2⟩ := q
          rcases ck_isRef hv h5 with rfl | ⟨a, rfl⟩
          · exact lv_aloadN hexec hb hd hl w
          · exact lv_aload hexec hb hd hl w
        · cases h
      · cases h
    · cases h
  · split at h
    · rename_i k' hn
      subst hn
      split at h
      · rename_i q hq
        split at h
        · rename_i h5
          cases h
          refine cw_load hq (fun {H} {ls} {rest} {locs} {ρ} {G} {N} {v} hl hv w => ?_) k
          obtain ⟨q1, q2⟩ := q
          rcases ck_isRef hv h5 with rfl | ⟨a, rfl⟩
          · exact lv_aload_nN hexec hb hd rfl hl w
          · exact lv_aload_n hexec hb hd rfl hl w
        · cases h
      · cases h
    · cases h
  · cases h
theorem cw_bin (hexec : p.tables.exec = Jvm.exec) (hb : c.code = cc) {i : Instr} {a b : ck_Q} {r : ck_V} (hd : decode cc pc = .ok (i, 1)) (h : ck_bin i a b = some r)
    (k : ck_W p l e R s m args below meth c Q D AC S tab L nL ρ0 wr G0 N0 H0 (pc + 1) (A, r :: st, T) cells slots) : ck_W p l e R s m args below meth c Q D AC S tab L nL ρ0 wr G0 N0 H0 pc (A, .inl b :: .inl a :: st, T) cells slots := by
  unfold ck_bin at h
  split at h
  · cases h; exact cw_op2 (fun ρ x y hx hy => ck_add_ok hx hy) (fun _ _ w => lv_iadd hexec hb hd w) k
  · cases h; exact cw_op2 (fun ρ x y hx hy => ck_sub_ok hx hy) (fun _ _ w => lv_isub hexec hb hd w) k
  · cases h; exact cw_op2 (fun ρ x y hx hy => ck_mul_ok hx hy) (fun _ _ w => lv_imul hexec hb hd w) k
  · cases h; exact cw_op2 (fun ρ x y hx hy => ck_and_ok hx hy) (fun _ _ w => lv_iand hexec hb hd w) k
  · cases h; exact cw_op2 (fun ρ x y hx hy => ck_or_ok hx hy) (fun _ _ w => lv_ior hexec hb hd w) k
  · cases h; exact cw_op2 (fun ρ x y hx hy => ck_xor_ok hx hy) (fun _ _ w => lv_ixor hexec hb hd w) k
  · cases h; exact cw_op2 (fun ρ x y hx hy => ck_shl_ok hx hy) (fun _ _ w => lv_ishl hexec hb hd w) k
  · cases h; exact cw_op2 (fun ρ x y hx hy => ck_shr_ok hx hy) (fun _ _ w => lv_ishr hexec hb hd w) k
  · cases h; exact cw_op2 (fun ρ x y hx hy => ck_ushr_ok hx hy) (fun _ _ w => lv_iushr hexec hb hd rfl w) k
  · exact cw_op2 (f := fun x y => x / y) (fun ρ x y hx hy => (ck_div_ok hx hy h).2) (fun hx hy w => lv_idiv hexec hb hd (ck_div_ok hx hy h).1 w) k
  · exact cw_op2 (f := fun x y => x - x / y * y) (fun ρ x y hx hy => (ck_rem_ok hx hy h).2) (fun hx hy w => lv_irem hexec hb hd (ck_rem_ok hx hy h).1 w) k
  · cases h
/-- two longs -/
theorem cw_J2 {i : Instr} {a b : Int × Int} {r : Int × Int} {f : Int64 → Int64 → Int64} (hf : ∀ x y : Int64, a.1 ≤ x.toInt → x.toInt ≤ a.2 → b.1 ≤ y.toInt → y.toInt ≤ b.2 → r.1 ≤ (f x y).toInt ∧ (f x y).toInt ≤ r.2)
    (row : ∀ {H : Heap} {ls : Array Slot} {rest : List Value} {locs : List Loc} {x y : Int64}, W p l e R s m args below meth c H locs cells slots Q (F0 m pc2 ls (.long (f x y) :: rest)) → W p l e R s m args below meth c H locs cells slots Q (F0 m pc ls (.long y :: .long x :: rest)))
    (k : ck_W p l e R s m args below meth c Q D AC S tab L nL ρ0 wr G0 N0 H0 pc2 (A, .inr (.inl r) :: st, T) cells slots) : ck_W p l e R s m args below meth c Q D AC S tab L nL ρ0 wr G0 N0 H0 pc (A, .inr (.inl b) :: .inr (.inl a) :: st, T) cells slots := by
  intro H ls vs locs h
  obtain ⟨ρ, G, N, lv, h1, h2, h3, h4, h5, h6, h7⟩ := h
  obtain ⟨_, vs', rfl, ⟨y, rfl, y1, y2⟩, h3'⟩ := h3.uncons
  obtain ⟨_, vs'', rfl, ⟨x, rfl, x1, x2⟩, h3''⟩ := h3'.uncons
  exact row (k H ls _ locs ⟨ρ, G, N, lv, h1, h2, ck_all.cons ⟨_, rfl, (hf x y x1 x2 y1 y2).1, (hf x y x1 x2 y1 y2).2⟩ h3'', h4, h5, h6, h7⟩)
/-- a long and how far it is shifted -/
theorem cw_JI {a : Int × Int} {b : ck_Q} {r : Int × Int} {f : Int64 → Int32 → Int64} (hf : ∀ (x : Int64) (y : Int32), a.1 ≤ x.toInt → x.toInt ≤ a.2 → r.1 ≤ (f x y).toInt ∧ (f x y).toInt ≤ r.2)
    (row : ∀ {H : Heap} {ls : Array Slot} {rest : List Value} {locs : List Loc} {x : Int64} {y : Int32}, W p l e R s m args below meth c H locs cells slots Q (F0 m pc2 ls (.long (f x y) :: rest)) → W p l e R s m args below meth c H locs cells slots Q (F0 m pc ls (.int y :: .long x :: rest)))
    (k : ck_W p l e R s m args below meth c Q D AC S tab L nL ρ0 wr G0 N0 H0 pc2 (A, .inr (.inl r) :: st, T) cells slots) : ck_W p l e R s m args below meth c Q D AC S tab L nL ρ0 wr G0 N0 H0 pc (A, .inl b :: .inr (.inl a) :: st, T) cells slots := by
  intro H ls vs locs h
  obtain ⟨ρ, G, N, lv, h1, h2, h3, h4, h5, h6, h7⟩ := h
  obtain ⟨_, vs', rfl, ⟨y, rfl, -⟩, h3'⟩ := h3.uncons
  obtain ⟨_, vs'', rfl, ⟨x, rfl, x1, x2⟩, h3''⟩ := h3'.uncons
  exact row (k H ls _ locs ⟨ρ, G, N, lv, h1, h2, ck_all.cons ⟨_, rfl, (hf x y x1 x2).1, (hf x y x1 x2).2⟩ h3'', h4, h5, h6, h7⟩)
def ck_lf : Int × Int := (-9223372036854775808, 9223372036854775807)
theorem ck_lf_ok (x : Int64) : ck_lf.1 ≤ x.toInt ∧ x.toInt ≤ ck_lf.2 := ck_i64 x
theorem ck_z64 {x : Int64} (h1 : (0 : Int) ≤ x.toInt) (h2 : x.toInt ≤ 0) : x = 0 := Int64.toInt_inj.mp (by show x.toInt = 0; omega)
def ck_jb (i : Instr) (a b : Int × Int) : Option (Int × Int) := match i with
  | .ladd => some ck_lf
  | .lsub => some ck_lf
  | .lmul => some ck_lf
  | .land => some ck_lf
  | .lxor => some ck_lf
  | .lor => if ck_lng0 a && ck_lng0 b then some (0, 0) else some ck_lf
  | _ => none
theorem cw_jb (hexec : p.tables.exec = Jvm.exec) (hb : c.code = cc) {i : Instr} {a b r : Int × Int} (hd : decode cc pc = .ok (i, 1)) (h : ck_jb i a b = some r)
    (k : ck_W p l e R s m args below meth c Q D AC S tab L nL ρ0 wr G0 N0 H0 (pc + 1) (A, .inr (.inl r) :: st, T) cells slots) : ck_W p l e R s m args below meth c Q D AC S tab L nL ρ0 wr G0 N0 H0 pc (A, .inr (.inl b) :: .inr (.inl a) :: st, T) cells slots := by
  unfold ck_jb at h
  split at h
  · cases h; exact cw_J2 (i := .ladd) (fun x y _ _ _ _ => ck_lf_ok _) (fun w => lv_ladd hexec hb hd w) k
  · cases h; exact cw_J2 (i := .ladd) (fun x y _ _ _ _ => ck_lf_ok _) (fun w => lv_lsub hexec hb hd w) k
  · cases h; exact cw_J2 (i := .ladd) (fun x y _ _ _ _ => ck_lf_ok _) (fun w => lv_lmul hexec hb hd w) k
  · cases h; exact cw_J2 (i := .ladd) (fun x y _ _ _ _ => ck_lf_ok _) (fun w => lv_land hexec hb hd w) k
  · cases h; exact cw_J2 (i := .ladd) (fun x y _ _ _ _ => ck_lf_ok _) (fun w => lv_lxor hexec hb hd w) k
  · split at h
    · rename_i hz
      cases h
      simp only [ck_lng0, Bool.and_eq_true, beq_iff_eq] at hz
      obtain ⟨⟨a1, a2⟩, b1, b2⟩ := hz
      refine cw_J2 (i := .ladd) (fun x y x1 x2 y1 y2 => ?_) (fun w => lv_lor hexec hb hd w) k
      rw [a1] at x1
      rw [a2] at x2
      rw [b1] at y1
      rw [b2] at y2
      rw [ck_z64 x1 x2, ck_z64 y1 y2]
      decide
    · cases h; exact cw_J2 (i := .ladd) (fun x y _ _ _ _ => ck_lf_ok _) (fun w => lv_lor hexec hb hd w) k
  · cases h
def ck_js (i : Instr) (a : Int × Int) : Option (Int × Int) := match i with
  | .lshl => if ck_lng0 a then some (0, 0) else some ck_lf
  | .lshr => some ck_lf
  | .lushr => some ck_lf
  | _ => none
theorem ck_shl0 (y : Int64) : (0 : Int64) <<< y = 0 := by
  apply Int64.toBitVec_inj.mp
  simp
theorem cw_js (hexec : p.tables.exec = Jvm.exec) (hb : c.code = cc) {i : Instr} {a r : Int × Int} {b : ck_Q} (hd : decode cc pc = .ok (i, 1)) (h : ck_js i a = some r)
    (k : ck_W p l e R s m args below meth c Q D AC S tab L nL ρ0 wr G0 N0 H0 (pc + 1) (A, .inr (.inl r) :: st, T) cells slots) : ck_W p l e R s m args below meth c Q D AC S tab L nL ρ0 wr G0 N0 H0 pc (A, .inl b :: .inr (.inl a) :: st, T) cells slots := by
  unfold ck_js at h
  split at h
  · split at h
    · rename_i hz
      cases h
      simp only [ck_lng0, Bool.and_eq_true, beq_iff_eq] at hz
      obtain ⟨a1, a2⟩ := hz
      refine cw_JI (f := fun x y => x <<< (y.toInt64 &&& 63)) (fun x y x1 x2 => ?_) (fun w => lv_lshl hexec hb hd rfl w) k
      rw [a1] at x1
      rw [a2] at x2
      rw [ck_z64 x1 x2]
      dsimp only
      rw [ck_shl0]
      decide
    · cases h; exact cw_JI (f := fun x y => x <<< (y.toInt64 &&& 63)) (fun x y _ _ => ck_lf_ok _) (fun w => lv_lshl hexec hb hd rfl w) k
  · cases h; exact cw_JI (f := fun x y => x >>> (y.toInt64 &&& 63)) (fun x y _ _ => ck_lf_ok _) (fun w => lv_lshr hexec hb hd rfl w) k
  · cases h; exact cw_JI (f := fun x y => (x.toUInt64 >>> (y.toInt64.toUInt64 &&& Int64.toUInt64 63)).toInt64) (fun x y _ _ => ck_lf_ok _) (fun w => lv_lushr hexec hb hd rfl w) k
  · cases h
def ck_lcmp (a b : Int × Int) : ck_V := if a.1 == a.2 && b.1 == b.2 && a.1 == b.1 then .inl (0, 0, none) else .inl (-1, 1, none)
theorem cw_lcmp (hexec : p.tables.exec = Jvm.exec) (hb : c.code = cc) {a b : Int × Int} (hd : decode cc pc = .ok (.lcmp, 1))
    (k : ck_W p l e R s m args below meth c Q D AC S tab L nL ρ0 wr G0 N0 H0 (pc + 1) (A, ck_lcmp a b :: st, T) cells slots) : ck_W p l e R s m args below meth c Q D AC S tab L nL ρ0 wr G0 N0 H0 pc (A, .inr (.inl b) :: .inr (.inl a) :: st, T) cells slots := by
  intro H ls vs locs h
  obtain ⟨ρ, G, N, lv, h1, h2, h3, h4, h5, h6, h7⟩ := h
  obtain ⟨_, vs', rfl, ⟨y, rfl, y1, y2⟩, h3'⟩ := h3.uncons
  obtain ⟨_, vs'', rfl, ⟨x, rfl, x1, x2⟩, h3''⟩ := h3'.uncons
  refine W.lcmp hexec hb hd (k H ls _ locs ⟨ρ, G, N, lv, h1, h2, ck_all.cons ?_ h3'', h4, h5, h6, h7⟩)
  unfold ck_lcmp
  split
  · rename_i hz
    simp only [Bool.and_eq_true, beq_iff_eq] at hz
    obtain ⟨⟨e1, e2⟩, e3⟩ := hz
    have exy : x = y := Int64.toInt_inj.mp (by omega)
    subst exy
    refine ⟨_, rfl, ?_, ?_, fun g c q => by cases q⟩ <;> simp [lg_cmp]
  · refine ⟨_, rfl, ?_, ?_, fun g c q => by cases q⟩
    · unfold lg_cmp; split <;> (try split) <;> decide
    · unfold lg_cmp; split <;> (try split) <;> decide
/-- the stack turned about, conversions -/
def ck_cat1 (v : ck_V) : Bool := ck_kn v && !ck_lng v
def ck_stk (i : Instr) (st : List ck_V) : Option (List ck_V) := match i, st with
  | .dup, v :: r => if ck_cat1 v then some (v :: v :: r) else none
  | .pop, v :: r => if ck_cat1 v then some r else none
  | .dup2, v :: r => if ck_lng v then some (v :: v :: r) else (match r with
    | w :: r' => if ck_cat1 v && ck_cat1 w then some (v :: w :: v :: w :: r') else none
    | [] => none)
  | .i2l, .inl q :: r => some (.inr (.inl (q.1, q.2.1)) :: r)
  | .l2i, .inr (.inl _) :: r => some (ck_full :: r)
  | _, _ => none
theorem ck_cat1_ok {ρ : Nat → Int} {G : Nat → Nat} {N : List Nat} {k : ck_V} {v : Value} (h : ck_R S ρ G N k v) (hk : ck_cat1 k = true) : v.category = 1 := by
  unfold ck_cat1 at hk
  simp only [Bool.and_eq_true, Bool.not_eq_true'] at hk
  have := ck_cat h hk.1
  rw [hk.2] at this
  rcases lv_cat v with e | e
  · exact e
  · rw [e] at this; cases this
theorem ck_cat2_ok {ρ : Nat → Int} {G : Nat → Nat} {N : List Nat} {k : ck_V} {v : Value} (h : ck_R S ρ G N k v) (hk : ck_lng k = true) : v.category = 2 := by
  match k, h, hk with
  | .inr (.inl q), ⟨x, hx, _⟩, _ => rw [hx]; rfl
theorem cw_stks (hexec : p.tables.exec = Jvm.exec) (hb : c.code = cc) {i : Instr} {st' : List ck_V} (hd : decode cc pc = .ok (i, 1)) (h : ck_stk i st = some st')
    (k : ck_W p l e R s m args below meth c Q D AC S tab L nL ρ0 wr G0 N0 H0 (pc + 1) (A, st', T) cells slots) : ck_W p l e R s m args below meth c Q D AC S tab L nL ρ0 wr G0 N0 H0 pc (A, st, T) cells slots := by
  intro H ls vs locs hh
  obtain ⟨ρ, G, N, lv, h1, h2, h3, h4, h5, h6, h7⟩ := hh
  unfold ck_stk at h
  split at h
  · split at h
    · rename_i hc
      cases h
      obtain ⟨v, vs', rfl, g1, g2⟩ := h3.uncons
      exact lv_dup hexec hb hd (ck_cat1_ok g1 hc) (k H ls _ locs ⟨ρ, G, N, lv, h1, h2, ck_all.cons g1 (ck_all.cons g1 g2), h4, h5, h6, h7⟩)
    · cases h
  · split at h
    · rename_i hc
      cases h
      obtain ⟨v, vs', rfl, g1, g2⟩ := h3.uncons
      exact lv_pop hexec hb hd (ck_cat1_ok g1 hc) (k H ls _ locs ⟨ρ, G, N, lv, h1, h2, g2, h4, h5, h6, h7⟩)
    · cases h
  · obtain ⟨v, vs', rfl, g1, g2⟩ := h3.uncons
    split at h
    · rename_i hc
      cases h
      exact lv_dup2_2 hexec hb hd (ck_cat2_ok g1 hc) (k H ls _ locs ⟨ρ, G, N, lv, h1, h2, ck_all.cons g1 (ck_all.cons g1 g2), h4, h5, h6, h7⟩)
    · split at h
      · split at h
        · rename_i hc
          cases h
          simp only [Bool.and_eq_true] at hc
          obtain ⟨w, vs'', rfl, f1, f2⟩ := g2.uncons
          exact lv_dup2_11 hexec hb hd (ck_cat1_ok g1 hc.1) (ck_cat1_ok f1 hc.2) (k H ls _ locs ⟨ρ, G, N, lv, h1, h2, ck_all.cons g1 (ck_all.cons f1 (ck_all.cons g1 (ck_all.cons f1 f2))), h4, h5, h6, h7⟩)
        · cases h
      · cases h
  · cases h
    obtain ⟨v, vs', rfl, ⟨x, rfl, x1, x2, -⟩, g2⟩ := h3.uncons
    refine lv_i2l hexec hb hd rfl (k H ls _ locs ⟨ρ, G, N, lv, h1, h2, ck_all.cons ⟨_, rfl, ?_, ?_⟩ g2, h4, h5, h6, h7⟩)
    · rw [Int32.toInt_toInt64]; exact x1
    · rw [Int32.toInt_toInt64]; exact x2
  · cases h
    obtain ⟨v, vs', rfl, ⟨x, rfl, x1, x2⟩, g2⟩ := h3.uncons
    refine lv_l2i hexec hb hd rfl (k H ls _ locs ⟨ρ, G, N, lv, h1, h2, ck_all.cons ⟨_, rfl, ?_⟩ g2, h4, h5, h6, h7⟩)
    exact ⟨(ck_i32 _).1, (ck_i32 _).2, fun g c h => by cases h⟩
  · cases h
end CKPU
end
section
/-! ===== the checker: locals written, fields, arrays ===== -/
def ck_sto (nL : Nat) (i : Instr) (n : Nat) (A : List (Nat × ck_V)) (v : ck_V) : Option (List (Nat × ck_V)) := if A.all (fun q => ck_kn q.2) then (match i, v with
  | .istore k, .inl q => if n = 2 ∧ k < nL then some (ck_s1 A k (.inl q)) else none
  | .istore_n k, .inl q => if n = 1 ∧ k.val < nL then some (ck_s1 A k.val (.inl q)) else none
  | .astore k, .inr (.inr q) => if n = 2 ∧ k < nL ∧ q.1 < 5 then some (ck_s1 A k (.inr (.inr q))) else none
  | .astore_n k, .inr (.inr q) => if n = 1 ∧ k.val < nL ∧ q.1 < 5 then some (ck_s1 A k.val (.inr (.inr q))) else none
  | .lstore k, .inr (.inl q) => if n = 2 ∧ k + 1 < nL then some (ck_s2 A k (.inr (.inl q))) else none
  | .lstore_n k, .inr (.inl q) => if n = 1 ∧ k.val + 1 < nL then some (ck_s2 A k.val (.inr (.inl q))) else none
  | _, _ => none) else none
def ck_tgS (B : ck_A) : ck_A := match B with
  | ((i, .inl (lo, hi, none)) :: A, st, T) => if lo < hi ∧ ck_ugA (300 + i) (A, st, T) = false then ((i, .inl (lo, hi, some (300 + i, 0))) :: A, st, T) else ((i, .inl (lo, hi, none)) :: A, st, T)
  | B => B
def ck_gf (tab : List ck_D) (fl : List (Nat × Nat × Nat)) (T : List ck_C) (idx : Nat) (v : ck_V) : Option ck_V := match ck_lk fl idx, v with
  | some (ci, k), .inr (.inr (1, i)) => (match T[i]? with
    | some ((0, cj), fs) => if cj = ci then fs[k]? else none
    | some ((3, τ), fs) => (match tab[τ]? with
      | some (.inr (cj, _)) => if cj = ci then fs[k]? else none
      | _ => none)
    | _ => none)
  | some (ci, k), .inr (.inr (2, τ)) => (match tab[τ]? with
    | some (.inr (cj, ks)) => if cj = ci then (match ks[k]? with
      | some w => if ck_plain w = true then some w else none
      | none => none) else none
    | _ => none)
  | _, _ => none
def ck_fin (own nm : String) (ci k : Nat) : Bool := match ck_cl[ci]? with
  | some (C, TT, _) => !(TT k).2.2.2 || (own == C && nm == "<init>")
  | none => false
def ck_isf (c : ck_C) : Bool := c.1.1 == 3 || decide (7 ≤ c.1.1)
theorem ck_isf_ok {c : ck_C} (h : ck_foc c) : ck_isf c = true := by
  unfold ck_isf
  rcases h with z | z
  · rw [z]; rfl
  · simp [z]
/-- no typed cell of this type has a name; but for the i-th -/
def ck_nof (T : List ck_C) (τ : Nat) : Bool := T.all (fun c => !(ck_isf c && c.1.2 == τ))
def ck_nofX (i : Nat) (T : List ck_C) (τ : Nat) : Bool := (T.zipIdx).all (fun q => q.2 == i || !(ck_isf q.1 && q.1.1.2 == τ))
theorem ck_nof_ok {T : List ck_C} {τ : Nat} (h : ck_nof T τ = true) : ∀ (j : Nat) (d : ck_C), T[j]? = some d → ck_foc d → d.1.2 ≠ τ := by
  intro j d hd hf e
  have := List.all_eq_true.mp h d (List.mem_of_getElem? hd)
  rw [ck_isf_ok hf, e] at this
  simp at this
theorem ck_nofX_ok {i : Nat} {T : List ck_C} {τ : Nat} (h : ck_nofX i T τ = true) : ∀ (j : Nat) (d : ck_C), j ≠ i → T[j]? = some d → ck_foc d → d.1.2 ≠ τ := by
  intro j d hj hd hf e
  have := List.all_eq_true.mp h (d, j) (List.mem_zipIdx_iff_getElem?.mpr hd)
  simp only [ck_isf_ok hf, e, Bool.or_eq_true, beq_iff_eq] at this
  rcases this with z | z
  · exact hj z
  · simp at z
def ck_pf (tab : List ck_D) (wr : List Nat) (fl : List (Nat × Nat × Nat)) (own nm : String) (T : List ck_C) (idx : Nat) (v r : ck_V) : Option (List ck_C) := match ck_lk fl idx, r with
  | some (ci, k), .inr (.inr (1, i)) => if ck_fin own nm ci k && ck_fit (ck_yy ci k) v then (match T[i]? with
    | some ((0, cj), fs) => if cj = ci then some (T.set i ((0, ci), fs.set k v)) else none
    | some ((3, τ), fs) => (match tab[τ]? with
      | some (.inr (cj, ks)) => (match ks[k]? with
        | some kd => if cj = ci ∧ ck_le v kd = true ∧ ck_plain kd = true ∧ ck_nofX i T τ = true ∧ wr.contains τ = true then some (T.set i ((3, τ), fs.set k v)) else none
        | none => none)
      | _ => none)
    | _ => none) else none
  | some (ci, k), .inr (.inr (2, τ)) => if ck_fin own nm ci k && ck_fit (ck_yy ci k) v then (match tab[τ]? with
    | some (.inr (cj, ks)) => (match ks[k]? with
      | some kd => if cj = ci ∧ ck_le v kd = true ∧ ck_plain kd = true ∧ ck_nof T τ = true ∧ wr.contains τ = true then some T else none
      | none => none)
    | _ => none) else none
  | _, _ => none
section CKHI
variable {p : Program} {l : Launch} {e : Env} {R : Room} {s : State} {m : MethodId} {args : Array Value} {below : List Frame} {meth : Method} {c : Code} {cells slots : Nat} {Q : State → Prop}
variable {cc : ByteArray} {pc pc2 nL nS : Nat} {D : va_G} {AC : Nat → ClassId} {S : Nat → Nat} {tab : List ck_D} {L : Heap} {ρ0 : Nat → Int} {wr : List Nat} {G0 : Nat → Nat} {N0 : List Nat} {H0 : Heap}
variable {A : List (Nat × ck_V)} {st : List ck_V} {T : List ck_C} {own : String}
theorem cw_tgS {B : ck_A} (kk : ck_W p l e R s m args below meth c Q D AC S tab L nL ρ0 wr G0 N0 H0 pc (ck_tgS B) cells slots) : ck_W p l e R s m args below meth c Q D AC S tab L nL ρ0 wr G0 N0 H0 pc B cells slots := by
  unfold ck_tgS at kk
  split at kk
  · split at kk
    · rename_i h
      exact cw_tag1 h.2 (Or.inr (by omega)) kk
    · exact kk
  · exact kk
theorem cw_sto (hexec : p.tables.exec = Jvm.exec) (hb : c.code = cc) {i : Instr} {n : Nat} {v : ck_V} {A' : List (Nat × ck_V)} (hd : decode cc pc = .ok (i, n)) (h : ck_sto nL i n A v = some A')
    (k : ck_W p l e R s m args below meth c Q D AC S tab L nL ρ0 wr G0 N0 H0 (pc + n) (A', st, T) cells slots) : ck_W p l e R s m args below meth c Q D AC S tab L nL ρ0 wr G0 N0 H0 pc (A, v :: st, T) cells slots := by
  unfold ck_sto at h
  split at h
  · rename_i hkn
    split at h
    · split at h
      · rename_i hc
        obtain ⟨rfl, c1⟩ := hc
        cases h
        refine cw_store1 rfl hkn c1 (fun hv hl w => ?_) k
        obtain ⟨x, rfl, -⟩ := hv
        exact lv_istore hexec hb hd hl c1 rfl w
      · cases h
    · split at h
      · rename_i hc
        obtain ⟨rfl, c1⟩ := hc
        cases h
        refine cw_store1 rfl hkn c1 (fun hv hl w => ?_) k
        obtain ⟨x, rfl, -⟩ := hv
        exact lv_istore_n hexec hb hd rfl hl c1 rfl w
      · cases h
    · split at h
      · rename_i q hc
        obtain ⟨rfl, c1, c2⟩ := hc
        cases h
        refine cw_store1 rfl hkn c1 (fun hv hl w => ?_) k
        obtain ⟨q1, q2⟩ := q
        rcases ck_isRef hv c2 with rfl | ⟨a, rfl⟩
        · exact lv_astoreN hexec hb hd hl c1 rfl w
        · exact lv_astore hexec hb hd hl c1 rfl w
      · cases h
    · split at h
      · rename_i q hc
        obtain ⟨rfl, c1, c2⟩ := hc
        cases h
        refine cw_store1 rfl hkn c1 (fun hv hl w => ?_) k
        obtain ⟨q1, q2⟩ := q
        rcases ck_isRef hv c2 with rfl | ⟨a, rfl⟩
        · exact lv_astore_nN hexec hb hd rfl hl c1 rfl w
        · exact lv_astore_n hexec hb hd rfl hl c1 rfl w
      · cases h
    · split at h
      · rename_i hc
        obtain ⟨rfl, c1⟩ := hc
        cases h
        refine cw_store2 hkn c1 (fun hv hl w => ?_) k
        obtain ⟨x, rfl, -⟩ := hv
        exact lv_lstore hexec hb hd hl c1 rfl w
      · cases h
    · split at h
      · rename_i hc
        obtain ⟨rfl, c1⟩ := hc
        cases h
        refine cw_store2 hkn c1 (fun hv hl w => ?_) k
        obtain ⟨x, rfl, -⟩ := hv
        exact lv_lstore_n hexec hb hd rfl hl c1 rfl w
      · cases h
    · cases h
  · cases h
theorem cw_gf (hexec : p.tables.exec = Jvm.exec) (hb : c.code = cc) (hown : s.vm.findClass own = some m.cls) (hK : va_K D ck_cl (ck_tys AC) s) (hts : ∀ w ∈ ck_tb, w.before args s = true) {fl : List (Nat × Nat × Nat)} (hfl : ∀ q ∈ fl, ck_lnk own q.1 q.2.1 q.2.2) {idx : Nat} {v r : ck_V} (hd : decode cc pc = .ok (.getfield idx, 3)) (h : ck_gf tab fl T idx r = some v)
    (kk : ck_W p l e R s m args below meth c Q D AC S tab L nL ρ0 wr G0 N0 H0 (pc + 3) (A, v :: st, T) cells slots) : ck_W p l e R s m args below meth c Q D AC S tab L nL ρ0 wr G0 N0 H0 pc (A, r :: st, T) cells slots := by
  unfold ck_gf at h
  split at h
  · rename_i ci k i hl
    have hlk := hfl _ (ck_lk_mem hl)
    split at h
    · rename_i cj fs hi
      split at h
      · rename_i e
        subst e
        exact cw_getNm hexec hb hown hK hts (Or.inl rfl) hlk hi h hd kk
      · cases h
    · rename_i τ fs hi
      split at h
      · rename_i cj ks hτ
        split at h
        · rename_i e
          subst e
          exact cw_getNm hexec hb hown hK hts (Or.inr ⟨τ, ks, rfl, hτ⟩) hlk hi h hd kk
        · cases h
      · cases h
    · cases h
  · rename_i ci k τ hl
    have hlk := hfl _ (ck_lk_mem hl)
    split at h
    · rename_i cj ks hτ
      split at h
      · rename_i e
        subst e
        split at h
        · rename_i w hw
          split at h
          · rename_i hp
            cases h
            exact cw_getTy hexec hb hown hK hts hτ hlk hw hp hd kk
          · cases h
        · cases h
      · cases h
    · cases h
  · cases h
theorem ck_fin_ok {nm : String} {ci k : Nat} (h : ck_fin own nm ci k = true) (hnm : meth.name = nm) : ∀ C T n, ck_cl[ci]? = some (C, T, n) → (T k).2.2.2 = false ∨ (own = C ∧ meth.name = "<init>") := by
  intro C TT n hc
  unfold ck_fin at h
  rw [hc] at h
  simp only [Bool.or_eq_true, Bool.not_eq_true', Bool.and_eq_true, beq_iff_eq] at h
  rcases h with h | ⟨h1, h2⟩
  · exact Or.inl h
  · exact Or.inr ⟨h1, hnm.trans h2⟩
theorem cw_pf (hexec : p.tables.exec = Jvm.exec) (hb : c.code = cc) (hown : s.vm.findClass own = some m.cls) (hK : va_K D ck_cl (ck_tys AC) s) (hts : ∀ w ∈ ck_tb, w.before args s = true) {nm : String} (hnm : meth.name = nm) {fl : List (Nat × Nat × Nat)} (hfl : ∀ q ∈ fl, ck_lnk own q.1 q.2.1 q.2.2) {idx : Nat} {v r : ck_V} {T' : List ck_C} (hd : decode cc pc = .ok (.putfield idx, 3)) (h : ck_pf tab wr fl own nm T idx v r = some T')
    (kk : ck_W p l e R s m args below meth c Q D AC S tab L nL ρ0 wr G0 N0 H0 (pc + 3) (A, st, T') cells slots) : ck_W p l e R s m args below meth c Q D AC S tab L nL ρ0 wr G0 N0 H0 pc (A, v :: r :: st, T) cells slots := by
  unfold ck_pf at h
  split at h
  · rename_i ci k i hl
    have hlk := hfl _ (ck_lk_mem hl)
    split at h
    · rename_i hff
      simp only [Bool.and_eq_true] at hff
      obtain ⟨hfin, hfit⟩ := hff
      split at h
      · rename_i cj fs hi
        split at h
        · rename_i e
          subst e
          cases h
          exact cw_putOwn hexec hb hown hK hts hlk hi (ck_fin_ok hfin hnm) hfit hd kk
        · cases h
      · rename_i τ fs hi
        split at h
        · rename_i cj ks hτ
          split at h
          · rename_i kd hkd
            split at h
            · rename_i hc
              obtain ⟨rfl, c1, c2, c3, c4⟩ := hc
              cases h
              exact cw_putFoc hexec hb hown hK hts hτ hlk hi hkd c1 c2 (ck_fin_ok hfin hnm) hfit (by simpa using c4) (ck_nofX_ok c3) hd kk
            · cases h
          · cases h
        · cases h
      · cases h
    · cases h
  · rename_i ci k τ hl
    have hlk := hfl _ (ck_lk_mem hl)
    split at h
    · rename_i hff
      simp only [Bool.and_eq_true] at hff
      obtain ⟨hfin, hfit⟩ := hff
      split at h
      · rename_i cj ks hτ
        split at h
        · rename_i kd hkd
          split at h
          · rename_i hc
            obtain ⟨rfl, c1, c2, c3, c4⟩ := hc
            cases h
            exact cw_putTy hexec hb hown hK hts hτ hlk hkd c1 c2 (ck_fin_ok hfin hnm) hfit (by simpa using c4) (ck_nof_ok c3) hd kk
          · cases h
        · cases h
      · cases h
    · cases h
  · cases h
end CKHI
end
section
/-! ===== the checker: arrays, new cells ===== -/
def ck_isld (i : Instr) (ac : Nat) : Bool := match i with
  | .iaload => ac == 0
  | .laload => ac == 1
  | .baload => ac == 2
  | .aaload => decide (3 ≤ ac)
  | _ => false
theorem ck_isld_ok {i : Instr} {ac : Nat} (h : ck_isld i ac = true) : i = ck_ldi ac := by
  unfold ck_isld at h
  unfold ck_ldi
  split at h
  · simp at h; subst h; rfl
  · simp at h; subst h; rfl
  · simp at h; subst h; rfl
  · simp at h
    rw [if_neg (by simp; omega), if_neg (by simp; omega), if_neg (by simp; omega)]
  · cases h
def ck_isst (i : Instr) (ac : Nat) : Bool := match i with
  | .iastore => ac == 0
  | .lastore => ac == 1
  | .bastore => ac == 2
  | .aastore => decide (3 ≤ ac)
  | _ => false
theorem ck_isst_ok {i : Instr} {ac : Nat} (h : ck_isst i ac = true) : i = ck_sti ac := by
  unfold ck_isst at h
  unfold ck_sti
  split at h
  · simp at h; subst h; rfl
  · simp at h; subst h; rfl
  · simp at h; subst h; rfl
  · simp at h
    rw [if_neg (by simp; omega), if_neg (by simp; omega), if_neg (by simp; omega)]
  · cases h
def ck_slen (nS j : Nat) : Nat := if j = 0 then 8 else if j = 1 then 64 else nS
def ck_one (q : ck_Q) : Option Nat := if 0 ≤ q.1 ∧ q.1 = q.2.1 then some q.1.toNat else none
theorem ck_one_ok {q : ck_Q} {j : Nat} (h : ck_one q = some j) : q.1 = (j : Int) ∧ q.2.1 = (j : Int) := by
  unfold ck_one at h
  split at h
  · cases h; omega
  · cases h
def ck_win (b : Nat) (es : List ck_V) (q : ck_Q) : Option ck_V := match ck_one q with
  | some j => if b ≤ j then es[j - b]? else none
  | none => none
def ck_sl2 (j : Nat) : Nat := if j = 0 then 8 else 64
def ck_ld (tab : List ck_D) (lw : Bool) (T : List ck_C) (i : Instr) (q : ck_Q) (r : ck_V) : Option ck_V := match r with
  | .inr (.inr (2, τ)) => (match tab[τ]? with
    | some (.inl (ac, n, sg)) => if ck_isld i ac = true ∧ (ck_tyK ac).isSome = true ∧ 0 ≤ q.1 ∧ q.2.1 < (n : Int) then (match ck_rd sg q.1.toNat q.2.1.toNat with
      | some k => if ck_plain k = true then some k else none
      | none => none) else none
    | _ => none)
  | .inr (.inr (1, a)) => (match T[a]? with
    | some ((1, ac), es) => (match ck_one q with
      | some j => if ck_isld i ac = true ∧ (ck_tyK ac).isSome = true then es[j]? else none
      | none => none)
    | some ((5, t), es) => (match ck_one q with
      | some j => if ck_isld i 0 = true ∧ t = 2 then es[j]? else none
      | none => none)
    | some ((6, t), es) => (match q.2.2 with
      | some (149, k) => if lw = true ∧ ck_isld i 0 = true ∧ t = 2 ∧ 0 ≤ k then es[k.toNat]? else none
      | _ => none)
    | some ((b + 7, τ), es) => (match tab[τ]? with
      | some (.inl (ac, n, sg)) => if ck_isld i ac = true ∧ (ck_tyK ac).isSome = true then (match ck_win b es q with
        | some v => some v
        | none => if 0 ≤ q.1 ∧ q.2.1 < (n : Int) then (match ck_rd sg q.1.toNat q.2.1.toNat with
          | some k => if ck_plain k = true then some k else none
          | none => none) else none) else none
      | _ => none)
    | _ => none)
  | .inr (.inr (3, t)) => if ck_isld i 0 = true ∧ t < 2 ∧ 0 ≤ q.1 ∧ q.2.1 < (ck_sl2 t : Int) then some ck_full else none
  | _ => none
def ck_len (tab : List ck_D) (nb : Nat × Nat) (T : List ck_C) (r : ck_V) : Option ck_V := match r with
  | .inr (.inr (2, τ)) => (match tab[τ]? with
    | some (.inl (ac, n, _)) => if (ck_tyK ac).isSome = true ∧ n < 2147483648 then some (.inl ((n : Int), (n : Int), none)) else none
    | _ => none)
  | .inr (.inr (1, a)) => (match T[a]? with
    | some ((5, 2), _) => if nb.2 < 2147483648 then some (.inl ((nb.1 : Int), (nb.2 : Int), none)) else none
    | some ((6, 2), _) => if nb.2 < 2147483648 then some (.inl ((nb.1 : Int), (nb.2 : Int), none)) else none
    | _ => none)
  | _ => none
/-- the class of the object that a reference leads to -/
def ck_oc (tab : List ck_D) (T : List ck_C) (v : ck_V) : Option Nat := match v with
  | .inr (.inr (2, τ)) => (match tab[τ]? with
    | some (.inr (ci, _)) => some ci
    | _ => none)
  | .inr (.inr (1, i)) => (match T[i]? with
    | some ((0, ci), _) => some ci
    | some ((3, τ), _) => (match tab[τ]? with
      | some (.inr (ci, _)) => some ci
      | _ => none)
    | _ => none)
  | _ => none
theorem ck_oc_ok {tab : List ck_D} {T : List ck_C} {v : ck_V} {ci : Nat} (h : ck_oc tab T v = some ci) : (∃ τ ks, v = .inr (.inr (2, τ)) ∧ tab[τ]? = some (.inr (ci, ks))) ∨ (∃ i fs, v = .inr (.inr (1, i)) ∧ T[i]? = some ((0, ci), fs)) ∨ (∃ i τ ks fs, v = .inr (.inr (1, i)) ∧ T[i]? = some ((3, τ), fs) ∧ tab[τ]? = some (.inr (ci, ks))) := by
  unfold ck_oc at h
  split at h
  · split at h
    · rename_i τ cj ks hτ
      cases h
      exact Or.inl ⟨_, ks, rfl, hτ⟩
    · cases h
  · split at h
    · rename_i i cj fs hi
      cases h
      exact Or.inr (Or.inl ⟨_, fs, rfl, hi⟩)
    · rename_i i τ fs hi
      split at h
      · rename_i cj ks hτ
        cases h
        exact Or.inr (Or.inr ⟨_, τ, ks, fs, rfl, hi, hτ⟩)
      · cases h
    · cases h
  · cases h
def ck_as (tab : List ck_D) (wr : List Nat) (T : List ck_C) (i : Instr) (v : ck_V) (q : ck_Q) (r : ck_V) : Option (List ck_C) := match r with
  | .inr (.inr (2, τ)) => (match tab[τ]? with
    | some (.inl (ac, n, sg)) => if ck_isst i ac = true ∧ 0 ≤ q.1 ∧ q.2.1 < (n : Int) then (match ck_rd sg q.1.toNat q.2.1.toNat with
      | some k => if ck_le v k = true ∧ ck_plain k = true ∧ ck_nof T τ = true ∧ wr.contains τ = true then (if ck_prim ac v = true then some T else (match ck_comp ac with
        | some ci => if ck_oc tab T v = some ci then some T else none
        | none => none)) else none
      | none => none) else none
    | _ => none)
  | .inr (.inr (1, a)) => (match T[a]?, ck_one q with
    | some ((1, ac), es), some j => if ck_isst i ac = true ∧ j < es.length then (if ck_prim ac v = true then some (T.set a ((1, ac), es.set j v)) else (match ck_comp ac with
      | some ci => if ck_oc tab T v = some ci then some (T.set a ((1, ac), es.set j v)) else none
      | none => none)) else none
    | some ((b + 7, τ), es), some j => (match tab[τ]? with
      | some (.inl (ac, n, sg)) => if ck_isst i ac = true ∧ j < n ∧ b ≤ j then (match ck_rd sg j j with
        | some k => if ck_le v k = true ∧ ck_plain k = true ∧ ck_prim ac v = true ∧ ck_nofX a T τ = true ∧ wr.contains τ = true then some (T.set a ((b + 7, τ), es.set (j - b) v)) else none
        | none => none) else none
      | _ => none)
    | _, _ => none)
  | _ => none
section CKAI
variable {p : Program} {l : Launch} {e : Env} {R : Room} {s : State} {m : MethodId} {args : Array Value} {below : List Frame} {meth : Method} {c : Code} {cells slots : Nat} {Q : State → Prop}
variable {cc : ByteArray} {pc pc2 nL nS : Nat} {D : va_G} {AC : Nat → ClassId} {S : Nat → Nat} {tab : List ck_D} {L : Heap} {ρ0 : Nat → Int} {wr : List Nat} {G0 : Nat → Nat} {N0 : List Nat} {H0 : Heap}
variable {A : List (Nat × ck_V)} {st : List ck_V} {T : List ck_C} {own : String}
theorem ck_Kf.sta (h : ck_Kf D AC S L s nS) {t : Nat} (ht : t < 3) : ck_sta S L s t (ck_slen nS t) := by
  match t, ht with
  | 0, _ => exact h.2.2.2.1
  | 1, _ => exact h.2.2.2.2.2.1
  | 2, _ => exact h.2.2.2.2.2.2.1
theorem cw_ld (hexec : p.tables.exec = Jvm.exec) (hb : c.code = cc) (hKf : ck_Kf D AC S L s nS) {lw : Bool} (hlw : lw = true → ρ0 149 = (S 3 : Int)) {i : Instr} {q : ck_Q} {v r : ck_V} (hd : decode cc pc = .ok (i, 1)) (h : ck_ld tab lw T i q r = some v)
    (kk : ck_W p l e R s m args below meth c Q D AC S tab L nL ρ0 wr G0 N0 H0 (pc + 1) (A, v :: st, T) cells slots) : ck_W p l e R s m args below meth c Q D AC S tab L nL ρ0 wr G0 N0 H0 pc (A, .inl q :: r :: st, T) cells slots := by
  unfold ck_ld at h
  split at h
  · split at h
    · rename_i τ ac n sg hτ
      split at h
      · rename_i hc
        obtain ⟨c1, c2, c3, c4⟩ := hc
        obtain ⟨ty, hty⟩ := Option.isSome_iff_exists.mp c2
        rw [ck_isld_ok c1] at hd
        split at h
        · rename_i k hk
          split at h
          · rename_i hp
            cases h
            exact cw_ldTy hexec hb hKf.1 hτ hty c3 c4 hk hp hd kk
          · cases h
        · cases h
      · cases h
    · cases h
  · split at h
    · rename_i a ac es hi
      split at h
      · rename_i j hj
        split at h
        · rename_i hc
          obtain ⟨c1, c2⟩ := hc
          obtain ⟨ty, hty⟩ := Option.isSome_iff_exists.mp c2
          rw [ck_isld_ok c1] at hd
          exact cw_ldOwn hexec hb hKf.1 hi hty (ck_one_ok hj).1 (ck_one_ok hj).2 h hd kk
        · cases h
      · cases h
    · rename_i a t es hi
      split at h
      · rename_i j hj
        split at h
        · rename_i hc
          obtain ⟨c1, rfl⟩ := hc
          rw [ck_isld_ok c1] at hd
          exact cw_ldSn hexec hb (hKf.sta (show 2 < 3 by omega)) hi (ck_one_ok hj).1 (ck_one_ok hj).2 h hd kk
        · cases h
      · cases h
    · rename_i a t es hi
      split at h
      · rename_i k hk
        split at h
        · rename_i hc
          obtain ⟨c1, c2, rfl, c3⟩ := hc
          rw [ck_isld_ok c2] at hd
          exact cw_ldWin (k := k.toNat) hexec hb (hKf.sta (show 2 < 3 by omega)) hi (by rw [hk, Int.toNat_of_nonneg c3]) h (hlw c1) hd kk
        · cases h
      · cases h
    · rename_i a b τ es hi
      split at h
      · rename_i ac n sg hτ
        split at h
        · rename_i hc
          obtain ⟨c1, c2⟩ := hc
          obtain ⟨ty, hty⟩ := Option.isSome_iff_exists.mp c2
          rw [ck_isld_ok c1] at hd
          split at h
          · rename_i w hw
            cases h
            unfold ck_win at hw
            split at hw
            · rename_i j hj
              split at hw
              · rename_i hbj
                exact cw_ldFoc hexec hb hKf.1 hi hτ hty (ck_one_ok hj).1 (ck_one_ok hj).2 hbj hw hd kk
              · cases hw
            · cases hw
          · split at h
            · rename_i hc
              split at h
              · rename_i k hk
                split at h
                · rename_i hp
                  cases h
                  exact cw_ldFocT hexec hb hKf.1 hi hτ hty hc.1 hc.2 hk hp hd kk
                · cases h
              · cases h
            · cases h
        · cases h
      · cases h
    · cases h
  · split at h
    · rename_i t hc
      obtain ⟨c1, c2, c3, c4⟩ := hc
      cases h
      rw [ck_isld_ok c1] at hd
      have hs := hKf.sta (show t < 3 by omega)
      have e : ck_slen nS t = ck_sl2 t := by
        unfold ck_slen ck_sl2
        split
        · rfl
        · rw [if_pos (by omega)]
      rw [e] at hs
      exact cw_ldSt hexec hb hs c3 c4 hd kk
    · cases h
  · cases h
theorem cw_len (hexec : p.tables.exec = Jvm.exec) (hb : c.code = cc) (hKf : ck_Kf D AC S L s nS) {nb : Nat × Nat} (hn1 : nb.1 ≤ nS) (hn2 : nS ≤ nb.2) {v r : ck_V} (hd : decode cc pc = .ok (.arraylength, 1)) (h : ck_len tab nb T r = some v)
    (kk : ck_W p l e R s m args below meth c Q D AC S tab L nL ρ0 wr G0 N0 H0 (pc + 1) (A, v :: st, T) cells slots) : ck_W p l e R s m args below meth c Q D AC S tab L nL ρ0 wr G0 N0 H0 pc (A, r :: st, T) cells slots := by
  unfold ck_len at h
  split at h
  · split at h
    · rename_i τ ac n sg hτ
      split at h
      · rename_i hc
        obtain ⟨c2, c3⟩ := hc
        obtain ⟨ty, hty⟩ := Option.isSome_iff_exists.mp c2
        cases h
        exact cw_lenTy hexec hb hKf.1 hτ hty c3 hd kk
      · cases h
    · cases h
  · split at h
    · rename_i a es hi
      split at h
      · rename_i hc
        cases h
        exact cw_lenW hexec hb (n := nS) (hKf.sta (show 2 < 3 by omega)) hi (Or.inl rfl) (by omega) (by omega) (by omega) hd kk
      · cases h
    · rename_i a es hi
      split at h
      · rename_i hc
        cases h
        exact cw_lenW hexec hb (n := nS) (hKf.sta (show 2 < 3 by omega)) hi (Or.inr rfl) (by omega) (by omega) (by omega) hd kk
      · cases h
    · cases h
  · cases h
theorem cw_as (hexec : p.tables.exec = Jvm.exec) (hb : c.code = cc) (hKf : ck_Kf D AC S L s nS) {i : Instr} {q : ck_Q} {v r : ck_V} {T' : List ck_C} (hd : decode cc pc = .ok (i, 1)) (h : ck_as tab wr T i v q r = some T')
    (kk : ck_W p l e R s m args below meth c Q D AC S tab L nL ρ0 wr G0 N0 H0 (pc + 1) (A, st, T') cells slots) : ck_W p l e R s m args below meth c Q D AC S tab L nL ρ0 wr G0 N0 H0 pc (A, v :: .inl q :: r :: st, T) cells slots := by
  have hcomp : ∀ {ac ci : Nat}, ck_comp ac = some ci → ck_sti ac = .aastore := by
    intro ac ci h
    match ac, h with
    | 3, _ => rfl
    | 4, _ => rfl
    | 5, _ => rfl
    | 6, _ => rfl
  unfold ck_as at h
  split at h
  · split at h
    · rename_i τ ac n sg hτ
      split at h
      · rename_i hc
        obtain ⟨c1, c3, c4⟩ := hc
        rw [ck_isst_ok c1] at hd
        split at h
        · rename_i k hk
          split at h
          · rename_i hp
            split at h
            · rename_i hpr
              cases h
              exact cw_spTy hexec hb hKf.1 hτ c3 c4 hk hp.1 hp.2.1 hpr (by simpa using hp.2.2.2) (ck_nof_ok hp.2.2.1) hd kk
            · split at h
              · rename_i ci hci
                split at h
                · rename_i ho
                  cases h
                  rw [hcomp hci] at hd
                  exact cw_srTy hexec hb hKf.1 hτ c3 c4 hk hp.1 hp.2.1 hci (ck_oc_ok ho) (by simpa using hp.2.2.2) (ck_nof_ok hp.2.2.1) hd kk
                · cases h
              · cases h
          · cases h
        · cases h
      · cases h
    · cases h
  · split at h
    · rename_i a ac es j hi hj
      split at h
      · rename_i hc
        obtain ⟨c1, c2⟩ := hc
        rw [ck_isst_ok c1] at hd
        split at h
        · rename_i hpr
          cases h
          exact cw_spOwn hexec hb hKf.1 hi (ck_one_ok hj).1 (ck_one_ok hj).2 c2 hpr hd kk
        · split at h
          · rename_i ci hci
            split at h
            · rename_i ho
              cases h
              rw [hcomp hci] at hd
              exact cw_srOwn hexec hb hKf.1 hi (ck_one_ok hj).1 (ck_one_ok hj).2 c2 hci (ck_oc_ok ho) hd kk
            · cases h
          · cases h
      · cases h
    · rename_i a b τ es j hi hj
      split at h
      · rename_i ac n sg hτ
        split at h
        · rename_i hc
          obtain ⟨c1, c2, c3⟩ := hc
          rw [ck_isst_ok c1] at hd
          split at h
          · rename_i k hk
            split at h
            · rename_i hp
              cases h
              exact cw_spFoc hexec hb hKf.1 hi hτ (ck_one_ok hj).1 (ck_one_ok hj).2 c2 c3 hk hp.1 hp.2.1 hp.2.2.1 (by simpa using hp.2.2.2.2) (ck_nofX_ok hp.2.2.2.1) hd kk
            · cases h
          · cases h
        · cases h
      · cases h
    · cases h
  · cases h
end CKAI
end
section
/-! ===== the checker: a class's links, methods, contracts; what a method's check rests on ===== -/
/-- own name; fields; int constants; long constants; classes made; arrays of references; static arrays; exceptions' classes; exceptions' constructors; methods; System.arraycopy; int[][] -/
abbrev ck_E : Type := String × List (Nat × Nat × Nat) × List (Nat × Int) × List (Nat × Int) × List (Nat × Nat) × List (Nat × Nat) × List (Nat × Nat) × List (Nat × Nat) × List (Nat × Nat) × List (Nat × Nat) × List Nat × List Nat × List Nat
def ck_fl (E : ck_E) : List (Nat × Nat × Nat) := E.2.1
def ck_kl (E : ck_E) : List (Nat × Int) := E.2.2.1
def ck_jl (E : ck_E) : List (Nat × Int) := E.2.2.2.1
def ck_nl (E : ck_E) : List (Nat × Nat) := E.2.2.2.2.1
def ck_al (E : ck_E) : List (Nat × Nat) := E.2.2.2.2.2.1
def ck_gl (E : ck_E) : List (Nat × Nat) := E.2.2.2.2.2.2.1
def ck_xl (E : ck_E) : List (Nat × Nat) := E.2.2.2.2.2.2.2.1
def ck_il (E : ck_E) : List (Nat × Nat) := E.2.2.2.2.2.2.2.2.1
def ck_ml (E : ck_E) : List (Nat × Nat) := E.2.2.2.2.2.2.2.2.2.1
def ck_cy (E : ck_E) : List Nat := E.2.2.2.2.2.2.2.2.2.2.1
def ck_m2 (E : ck_E) : List Nat := E.2.2.2.2.2.2.2.2.2.2.2.1
def ck_ob0 (E : ck_E) : List Nat := E.2.2.2.2.2.2.2.2.2.2.2.2
/-- a method; 0 static, 1 virtual, 2 constructor; how many parameters; its class's place -/
abbrev ck_MM : Type := ck_M × Nat × Nat × Nat
def ck_roots (j : Nat) : String := if j = 0 then "SQUARE_ROOTS" else "CUBE_ROOTS"
def ck_Eok (ms : List ck_MM) (E : ck_E) : Prop :=
  (∀ q ∈ ck_fl E, ck_lnk E.1 q.1 q.2.1 q.2.2) ∧ (∀ q ∈ ck_kl E, ∃ v : Int32, v.toInt = q.2 ∧ Cond.constant E.1 q.1 v ∈ ck_tb) ∧ (∀ q ∈ ck_jl E, ∃ v : Int64, v.toInt = q.2 ∧ Cond.constantLong E.1 q.1 v ∈ ck_tb) ∧
  (∀ q ∈ ck_nl E, ∃ (C : String) (TT : u_T) (n : Nat), ck_cl[q.2]? = some (C, TT, n) ∧ Cond.classLink E.1 q.1 C ∈ ck_tb) ∧ (∀ q ∈ ck_al E, ∃ C : String, ck_tyK q.2 = some (.object C) ∧ Cond.classLink E.1 q.1 C ∈ ck_tb ∧ Cond.arrayOver (.object C) ∈ ck_tb) ∧
  (∀ q ∈ ck_gl E, q.2 < 2 ∧ Cond.fieldLink E.1 q.1 "RatchetDesk$Hash" (ck_roots q.2) "[I" ∈ ck_tb) ∧ (∀ q ∈ ck_xl E, Cond.classLink E.1 q.1 (ck_xn q.2) ∈ ck_tb ∧ q.2 < 3 ∧ q.1 ≠ 0) ∧ (∀ q ∈ ck_il E, ∀ w ∈ Jvm.Bundle.ownAtoms E.1 q.1 (ck_xn q.2) ck_up2, w ∈ ck_tb ∨ w ∈ ck_4) ∧
  (∀ q ∈ ck_ml E, ∃ M : ck_MM, ms[q.2]? = some M ∧ (Cond.methodLink E.1 q.1 M.1.1 ∈ ck_tb ∨ ∃ host, Cond.methodLinkNest E.1 q.1 M.1.1 host ∈ ck_tb)) ∧ (∀ q ∈ ck_cy E, Cond.methodLink E.1 q arraycopyName ∈ ck_tb) ∧ (∀ q ∈ ck_m2 E, Cond.classLink E.1 q "[[I" ∈ ck_tb) ∧ (∀ q ∈ ck_ob0 E, Cond.methodLink E.1 q Lib.objectInit ∈ ck_tb)
def ck_codeC (M : ck_M) : Prop := (M.2.2.2.2 = [] ∧ Cond.code M.1 M.2.1 M.2.2.1 M.2.2.2.1 ∈ ck_tb) ∨ Cond.codeWith M.1 M.2.1 M.2.2.1 M.2.2.2.1 M.2.2.2.2 ∈ ck_tb
def ck_Mok (q : ck_MM) : Prop :=
  ck_codeC q.1 ∧ plainName q.1.1.cls = true ∧ (parseMethodDescriptor q.1.1.desc).map (fun d => d.parameters.length) = some q.2.2.1 ∧ (q.1.1.cls ≠ "java/lang/invoke/MethodHandle" ∧ q.1.1.cls ≠ "java/lang/invoke/VarHandle") ∧
  match q.2.1 with
  | 0 => Cond.static q.1.1 ∈ ck_tb ∧ Cond.initialized q.1.1.cls ∈ ck_tb
  | 1 => Cond.instanceMethod q.1.1 ∈ ck_tb ∧ Cond.selects q.1.1.cls q.1.1 q.1.1 ∈ ck_tb ∧ ∃ (TT : u_T) (n : Nat), ck_cl[q.2.2.2]? = some (q.1.1.cls, TT, n)
  | _ => Cond.instanceMethod q.1.1 ∈ ck_tb ∧ q.1.1.name = "<init>" ∧ Cond.code q.1.1 q.1.2.1 q.1.2.2.1 none ∈ ck_tb
/-- what stands in the tables once for all -/
def ck_Glob : Prop := (∀ x, x < 3 → Jvm.Bundle.fit (ck_xn x) = true ∧ Cond.initialized (ck_xn x) ∈ ck_tb ∧ Cond.instantiable (ck_xn x) 6 ∈ ck_tb ∧ Cond.castable (ck_xn x) (ck_xn x) ∈ ck_tb) ∧
  (∀ ac t, ck_at ac = some t → Cond.arrayClass (newarray.typeOf t) ∈ ck_tb) ∧ Cond.arrayOver (.array .int) ∈ ck_tb ∧ Cond.native arraycopyName ∈ ck_tb ∧ Cond.static arraycopyName ∈ ck_tb ∧ Cond.initialized "java/lang/System" ∈ ck_tb ∧ Cond.instanceMethod Lib.objectInit ∈ ck_tb ∧ Cond.code Lib.objectInit ⟨#[0xb1]⟩ 1 none ∈ ck_tb
def ck_cdAt (cod : List (List (Nat × Instr × Nat))) (pc : Nat) : Option (Instr × Nat) := match cod[pc / 32]? with
  | some ch => ck_lk ch pc
  | none => none
abbrev ck_N : Type := Nat × ck_A × Nat × Nat
def ck_Hy (p : Program) (l : Launch) (e : Env) (R : Room) (s : State) (m : MethodId) (meth : Method) (c : Code) (M : ck_M) (K : ck_Ct) (E : ck_E) (ms : List ck_MM) (cts : List (Nat × ck_Kt)) (tab : List ck_D) (nb : Nat × Nat) (D : va_G) (AC : Nat → ClassId) (S : Nat → Nat) (L : Heap) (cod : List (List (Nat × Instr × Nat))) : Prop :=
  ck_B p s m meth c M ∧ e.platform.stackTraces = false ∧ (K.2.2.2.2.1 ≤ R.frames ∧ K.2.2.2.2.2.1 ≤ R.locals ∧ K.2.2.2.2.2.2.1 ≤ R.cells ∧ K.2.2.2.2.2.2.2 ≤ R.slots) ∧ (∃ n, nb.1 ≤ n ∧ n ≤ nb.2 ∧ ck_Kf D AC S L s n) ∧ ck_Eok ms E ∧ E.1 = M.1.cls ∧ (∀ q ∈ ms, ck_Mok q) ∧ (∀ q ∈ cts, ∃ M' : ck_MM, ms[q.1]? = some M' ∧ ck_Ok l tab nb M'.1 q.2) ∧ ck_Glob ∧ (∀ pc i n, ck_cdAt cod pc = some (i, n) → decode M.2.1 pc = .ok (i, n))
def ck_atac (t : ArrayType) : Option Nat := match t with
  | .int => some 0
  | .long => some 1
  | .boolean => some 2
  | _ => none
theorem ck_atac_ok {t : ArrayType} {ac : Nat} (h : ck_atac t = some ac) : ck_at ac = some t := by
  unfold ck_atac at h
  split at h <;> cases h <;> rfl
/-- new cells: what comes, by what the plan says of this place -/
def ck_alc (E : ck_E) (tab : List ck_D) (nt : List (Nat × Nat × Nat)) (K : ck_Ct) (i : Instr) (n pc : Nat) (B : ck_A) (ce sl : Nat) : Option (List ck_N) := match i, B with
  | .newarray t, (A, .inl q :: st, T) => (match ck_atac t, ck_one q with
    | some ac, some k => if n = 2 ∧ k ≤ 60000 ∧ ce + 1 ≤ K.2.2.2.2.2.2.1 ∧ sl + k ≤ K.2.2.2.2.2.2.2 then (match ck_lk nt pc with
      | some (τ, _) => (match tab[τ]? with
        | some (.inl (ac', k', sg)) => if ac' = ac ∧ k' = k ∧ τ ≠ 0 ∧ ck_dk ac sg = true then some [(pc + 2, (A, .inr (.inr (2, τ)) :: st, T), ce + 1, sl + k)] else none
        | _ => none)
      | none => some [(pc + 2, (A, .inr (.inr (1, T.length)) :: st, T ++ [((1, ac), List.replicate k (ck_d0 ac))]), ce + 1, sl + k)]) else none
    | _, _ => none)
  | .anewarray idx, (A, .inl q :: st, T) => (match ck_lk (ck_al E) idx, ck_one q with
    | some ac, some k => if n = 3 ∧ k ≤ 60000 ∧ ce + 1 ≤ K.2.2.2.2.2.2.1 ∧ sl + k ≤ K.2.2.2.2.2.2.2 then some [(pc + 3, (A, .inr (.inr (1, T.length)) :: st, T ++ [((1, ac), List.replicate k (.inr (.inr (0, 0))))]), ce + 1, sl + k)] else none
    | _, _ => none)
  | .new idx, (A, st, T) => (match ck_lk (ck_nl E) idx with
    | some ci => (match ck_cl[ci]? with
      | some (_, _, k) => if n = 3 ∧ ce + 1 ≤ K.2.2.2.2.2.2.1 ∧ sl + k ≤ K.2.2.2.2.2.2.2 then some [(pc + 3, (A, .inr (.inr (1, T.length)) :: st, T ++ [((0, ci), (List.range k).map (fun k => ck_dt (ck_yy ci k)))]), ce + 1, sl + k)] else none
      | none => none)
    | none => none)
  | .multianewarray idx 2, (A, .inl qk :: .inl qn :: st, T) => (match ck_lk nt pc, ck_one qn, ck_one qk with
    | some (τo, τi), some a, some b => (match tab[τo]?, tab[τi]? with
      | some (.inl (7, a', sgo)), some (.inl (0, b', sgi)) => if n = 4 ∧ (ck_m2 E).contains idx = true ∧ a' = a ∧ b' = b ∧ τo ≠ 0 ∧ τi ≠ 0 ∧ sgo.all (fun q => ck_le (.inr (.inr (2, τi))) q.2) = true ∧ ck_dk 0 sgi = true ∧ a ≤ 60000 ∧ b ≤ 60000 ∧ ce + (1 + a) ≤ K.2.2.2.2.2.2.1 ∧ sl + (a + a * b) ≤ K.2.2.2.2.2.2.2 then some [(pc + 4, (A, .inr (.inr (2, τo)) :: st, T), ce + 1 + a, sl + a + a * b)] else none
      | _, _ => none)
    | _, _, _ => none)
  | .getstatic idx, (A, st, T) => (match ck_lk (ck_gl E) idx with
    | some j => if n = 3 then some [(pc + 3, (A, .inr (.inr (3, j)) :: st, T), ce, sl)] else none
    | none => none)
  | _, _ => none
section CKEN
variable {p : Program} {l : Launch} {e : Env} {R : Room} {s : State} {m : MethodId} {args : Array Value} {below : List Frame} {meth : Method} {c : Code} {ce sl : Nat} {Q : State → Prop}
variable {pc nL : Nat} {nb : Nat × Nat} {D : va_G} {AC : Nat → ClassId} {S : Nat → Nat} {tab : List ck_D} {L : Heap} {ρ0 : Nat → Int} {wr : List Nat} {G0 : Nat → Nat} {N0 : List Nat} {H0 : Heap}
variable {B : ck_A} {M : ck_M} {K : ck_Ct} {E : ck_E} {ms : List ck_MM} {cts : List (Nat × ck_Kt)} {cod : List (List (Nat × Instr × Nat))}
theorem cw_alc (hy : ck_Hy p l e R s m meth c M K E ms cts tab nb D AC S L cod) {nt : List (Nat × Nat × Nat)} {i : Instr} {n : Nat} {X : List ck_N} (hd : decode M.2.1 pc = .ok (i, n)) (h : ck_alc E tab nt K i n pc B ce sl = some X)
    (k : ∀ x ∈ X, ck_W p l e R s m args below meth c Q D AC S tab L nL ρ0 wr G0 N0 H0 x.1 x.2.1 x.2.2.1 x.2.2.2) : ck_W p l e R s m args below meth c Q D AC S tab L nL ρ0 wr G0 N0 H0 pc B ce sl := by
  obtain ⟨⟨hexec, hb, hml, hret, hlk, hown, hhd, hnm⟩, htr, ⟨r1, r2, r3, r4⟩, ⟨nS, hn1, hn2, hKf⟩, hE, hEM, hms, hcts, hgl, hcod⟩ := hy
  have hts : ∀ w ∈ ck_tb, w.before args s = true := hKf.ts
  obtain ⟨e1, e2, e3, e4, e5, e6, e7, e8, e9, e10, e11, e12⟩ := hE
  rw [← hEM] at hown
  unfold ck_alc at h
  split at h
  · rename_i t A q st T
    split at h
    · rename_i ac kk hac hq
      split at h
      · rename_i hc
        obtain ⟨rfl, c1, c2, c3⟩ := hc
        split at h
        · rename_i τ z hτ0
          split at h
          · rename_i ac' k' sg hτ
            split at h
            · rename_i hc2
              obtain ⟨rfl, rfl, c4, c5⟩ := hc2
              cases h
              exact cw_newaTy hexec hb hKf.1 (hts _ (hgl.2.1 _ _ (ck_atac_ok hac))) hτ c4 (ck_atac_ok hac) (ck_one_ok hq).1 (ck_one_ok hq).2 c1 c5 (by omega) (by omega) hd (k _ (List.mem_singleton.mpr rfl))
            · cases h
          · cases h
        · cases h
          exact cw_newaOwn hexec hb hKf.1 (hts _ (hgl.2.1 _ _ (ck_atac_ok hac))) (ck_atac_ok hac) (ck_one_ok hq).1 (ck_one_ok hq).2 c1 (by omega) (by omega) hd (k _ (List.mem_singleton.mpr rfl))
      · cases h
    · cases h
  · rename_i idx A q st T
    split at h
    · rename_i ac kk hac hq
      split at h
      · rename_i hc
        obtain ⟨rfl, c1, c2, c3⟩ := hc
        cases h
        obtain ⟨C, f1, f2, f3⟩ := e5 _ (ck_lk_mem hac)
        exact cw_anew hexec hb hown hKf.1 f1 (hts _ f2) (hts _ f3) (ck_one_ok hq).1 (ck_one_ok hq).2 c1 (by omega) (by omega) hd (k _ (List.mem_singleton.mpr rfl))
      · cases h
    · cases h
  · rename_i idx A st T
    split at h
    · rename_i ci hci
      split at h
      · rename_i C0 T0 kk hcl
        split at h
        · rename_i hc
          obtain ⟨rfl, c2, c3⟩ := hc
          cases h
          obtain ⟨C, TT, n', f1, f2⟩ := e4 _ (ck_lk_mem hci)
          cases hcl.symm.trans f1
          exact cw_new hexec hb hown hKf.1 hts hcl f2 (by omega) (by omega) hd (k _ (List.mem_singleton.mpr rfl))
        · cases h
      · cases h
    · cases h
  · rename_i idx A qk qn st T
    split at h
    · rename_i τo τi a b hnt hqn hqk
      split at h
      · rename_i a' sgo b' sgi ho hi
        split at h
        · rename_i hc
          obtain ⟨rfl, c1, rfl, rfl, c2, c3, c4, c5, c6, c7, c8, c9⟩ := hc
          cases h
          exact cw_multi hexec hb hown hKf.1 (hts _ (e11 _ (by simpa using c1))) (hts _ hgl.2.2.1) (hts _ (hgl.2.1 0 .int rfl)) ho hi c2 c3 c4 c5 (ck_one_ok hqn) (ck_one_ok hqk) c6 c7 (by omega) (by omega) hd (k _ (List.mem_singleton.mpr rfl))
        · cases h
      · cases h
    · cases h
  · rename_i idx A st T
    split at h
    · rename_i j hj
      split at h
      · rename_i hn
        subst hn
        cases h
        obtain ⟨f1, f2⟩ := e6 _ (ck_lk_mem hj)
        have hZ : va_Z "RatchetDesk$Hash" (ck_roots j) "[I" (.ref (S j)) (fun q => L.size ≤ q) s L := by
          match j, f1 with
          | 0, _ => exact hKf.2.2.1
          | 1, _ => exact hKf.2.2.2.2.1
        exact cw_gets hexec hb hown hZ (hts _ f2) hd (k _ (List.mem_singleton.mpr rfl))
      · cases h
    · cases h
  · cases h
end CKEN
end
section
/-! ===== the checker: branches, returns, copying ===== -/
def ck_tgt (pc : Nat) (off : Int) : Option Nat := if 0 ≤ (pc : Int) + off then some ((pc : Int) + off).toNat else none
theorem ck_tgt_ok {pc t : Nat} {off : Int} (h : ck_tgt pc off = some t) : (pc : Int) + off = (t : Int) := by
  unfold ck_tgt at h
  split at h
  · cases h; omega
  · cases h
def ck_swT (pc : Nat) (offs : Array Int) (i : Nat) : Nat := match offs[i]? with
  | some off => ((pc : Int) + off).toNat
  | none => 0
def ck_sw (pc : Nat) (offs : Array Int) (i : Nat) : Bool := match offs[i]? with
  | some off => decide (0 ≤ (pc : Int) + off)
  | none => false
def ck_opt {α β : Type} (o : Option α) (f : α → β) : List β := match o with
  | some a => [f a]
  | none => []
def ck_br (nL : Nat) (i : Instr) (n pc : Nat) (B : ck_A) (ce sl : Nat) : Option (List ck_N) := match i, B with
  | .goto off, B => if n = 3 then (match ck_tgt pc off with
    | some t => some [(t, B, ce, sl)]
    | none => none) else none
  | .ifCond k off, (A, .inl a :: st, T) => if n = 3 then (match ck_tgt pc off with
    | some t => some (ck_opt (ck_ref k (a.1, a.2.1) (0, 0)) (fun r => (t, ck_tgO a.2.2 r.1.1 r.1.2 (A, st, T), ce, sl)) ++ ck_opt (ck_ref (ck_neg k) (a.1, a.2.1) (0, 0)) (fun r => (pc + 3, ck_tgO a.2.2 r.1.1 r.1.2 (A, st, T), ce, sl)))
    | none => none) else none
  | .if_icmp k off, (A, .inl b :: .inl a :: st, T) => if n = 3 then (match ck_tgt pc off with
    | some t => some (ck_opt (ck_ref k (a.1, a.2.1) (b.1, b.2.1)) (fun r => (t, ck_tgO b.2.2 r.2.1 r.2.2 (ck_tgO a.2.2 r.1.1 r.1.2 (A, st, T)), ce, sl)) ++ ck_opt (ck_ref (ck_neg k) (a.1, a.2.1) (b.1, b.2.1)) (fun r => (pc + 3, ck_tgO b.2.2 r.2.1 r.2.2 (ck_tgO a.2.2 r.1.1 r.1.2 (A, st, T)), ce, sl)))
    | none => none) else none
  | .iinc j v, (A, st, T) => (match ck_loc A j with
    | some (.inl q) => if n = 3 ∧ j < nL ∧ A.all (fun q => ck_kn q.2) = true ∧ -2147483648 ≤ v ∧ v ≤ 2147483647 then some [(pc + 3, (ck_s1 A j (ck_add q (v, v, none)), st, T), ce, sl)] else none
    | _ => none)
  | .tableswitch d lo hi offs, (A, .inl a :: st, T) => (match ck_tgt pc d with
    | some td => if (List.range (hi - lo + 1).toNat).all (ck_sw pc offs) = true then some (((List.range (hi - lo + 1).toNat).filter (fun (i : Nat) => decide (a.1 ≤ lo + (i : Int)) && decide (lo + (i : Int) ≤ a.2.1))).map (fun (i : Nat) => (ck_swT pc offs i, (A, st, T), ce, sl)) ++ (if a.1 < lo ∨ hi < a.2.1 then [(td, (A, st, T), ce, sl)] else [])) else none
    | none => none)
  | _, _ => none
def ck_rt1 (M : ck_M) (K : ck_Ct) (i : Instr) (n : Nat) (B : ck_A) (ce sl : Nat) : Bool := decide (n = 1) && ck_leD K.2.1.length B.2.2 K.2.2.1 && decide (ce ≤ K.2.2.2.2.2.2.1) && decide (sl ≤ K.2.2.2.2.2.2.2) && (match i, B.2.1, K.2.2.2.1, M.2.2.2.1 with
  | .return_, [], .inl none, none => true
  | .ireturn, [.inl q], .inl (some r), some ty => ck_fit ty (.inl q) && ck_le (.inl q) r && ck_nrf K.2.2.1.length r
  | .lreturn, [.inr (.inl q)], .inl (some r), some .long => ck_le (.inr (.inl q)) r && ck_nrf K.2.2.1.length r
  | .areturn, [v], .inl (some r), some (.object _) => ck_fit (.object "") v && ck_le (ck_unf B.2.2 v) r && ck_nrf K.2.2.1.length r
  | .areturn, [v], .inl (some r), some (.array _) => ck_fit (.object "") v && ck_le (ck_unf B.2.2 v) r && ck_nrf K.2.2.1.length r
  | _, _, _, _ => false)
def ck_rt (M : ck_M) (K : ck_Ct) (al : List (List ck_C × (Option ck_V ⊕ Nat))) (i : Instr) (n : Nat) (B : ck_A) (ce sl : Nat) : Bool := al.any (fun a => ck_rt1 M (ck_alt K a) i n B ce sl)
def ck_csrc (tab : List ck_D) (ac : Nat) (v : ck_V) : Option (Nat × List (Nat × ck_V)) := match v with
  | .inr (.inr (2, σ)) => (match tab[σ]? with
    | some (.inl (ac', n0, sg0)) => if ac' = ac then some (n0, sg0) else none
    | _ => none)
  | .inr (.inr (3, j)) => if ac = 0 ∧ j < 2 then some (ck_sl2 j, [(ck_sl2 j, ck_full)]) else none
  | _ => none
def ck_cpj (ac sp dp : Nat) (sg0 sg : List (Nat × ck_V)) (j : Nat) : Bool := ck_plain (ck_kat sg0 (sp + j)) && ck_prim ac (ck_kat sg0 (sp + j)) && ck_le (ck_kat sg0 (sp + j)) (ck_kat sg (dp + j))
def ck_cpy (E : ck_E) (tab : List ck_D) (wr : List Nat) (K : ck_Ct) (i : Instr) (n pc : Nat) (B : ck_A) (ce sl : Nat) : Option (List ck_N) := match i, B with
  | .invokestatic idx, (A, .inl qn :: .inl qd :: .inr (.inr (2, τ)) :: .inl qs :: v :: st, T) => (match tab[τ]?, ck_one qn, ck_one qd, ck_one qs with
    | some (.inl (ac, n1, sg)), some k, some dp, some sp => (match ck_csrc tab ac (ck_unf T v) with
      | some (n0, sg0) => if n = 3 ∧ (ck_cy E).contains idx = true ∧ (ac = 0 ∨ ac = 1) ∧ (List.range k).all (ck_cpj ac sp dp sg0 sg) = true ∧ wr.contains τ = true ∧ ck_nof T τ = true ∧ sp + k ≤ n0 ∧ dp + k ≤ n1 ∧ st.all ck_kn = true ∧ 1 ≤ K.2.2.2.2.1 ∧ ck_words st + 18 ≤ K.2.2.2.2.2.1 then some [(pc + 3, (A, st, T), ce, sl)] else none
      | none => none)
    | _, _, _, _ => none)
  | _, _ => none
/-- Object's constructor -/
def ck_obi (E : ck_E) (K : ck_Ct) (i : Instr) (n pc : Nat) (B : ck_A) (ce sl : Nat) : Option (List ck_N) := match i, B with
  | .invokespecial idx, (A, .inr (.inr (z, y)) :: st, T) => if n = 3 ∧ (ck_ob0 E).contains idx = true ∧ (z = 1 ∨ z = 2) ∧ st.all ck_kn = true ∧ 1 ≤ K.2.2.2.2.1 ∧ ck_words st + 12 ≤ K.2.2.2.2.2.1 then some [(pc + 3, (A, st, T), ce, sl)] else none
  | _, _ => none
section CKFL
variable {p : Program} {l : Launch} {e : Env} {R : Room} {s : State} {m : MethodId} {args : Array Value} {below : List Frame} {meth : Method} {c : Code} {ce sl : Nat} {Q : State → Prop}
variable {pc nL : Nat} {nb : Nat × Nat} {al : List (List ck_C × (Option ck_V ⊕ Nat))} {D : va_G} {AC : Nat → ClassId} {S : Nat → Nat} {tab : List ck_D} {L : Heap} {ρ0 : Nat → Int} {wr : List Nat} {G0 : Nat → Nat} {N0 : List Nat} {H0 : Heap}
variable {B : ck_A} {M : ck_M} {K : ck_Ct} {E : ck_E} {ms : List ck_MM} {cts : List (Nat × ck_Kt)} {cod : List (List (Nat × Instr × Nat))}
theorem cw_br (hy : ck_Hy p l e R s m meth c M K E ms cts tab nb D AC S L cod) {i : Instr} {n : Nat} {X : List ck_N} (hd : decode M.2.1 pc = .ok (i, n)) (h : ck_br nL i n pc B ce sl = some X)
    (k : ∀ x ∈ X, ck_W p l e R s m args below meth c Q D AC S tab L nL ρ0 wr G0 N0 H0 x.1 x.2.1 x.2.2.1 x.2.2.2) : ck_W p l e R s m args below meth c Q D AC S tab L nL ρ0 wr G0 N0 H0 pc B ce sl := by
  obtain ⟨⟨hexec, hb, hml, hret, hlk, hown, hhd, hnm⟩, -⟩ := hy
  have oin : ∀ {α β : Type} {o : Option α} {f : α → β} {a : α}, o = some a → f a ∈ ck_opt o f := by
    intro α β o f a ho
    rw [ho]
    exact List.mem_singleton.mpr rfl
  unfold ck_br at h
  split at h
  · split at h
    · rename_i hn
      subst hn
      split at h
      · rename_i t ht
        cases h
        exact cw_goto hexec hb hd (ck_tgt_ok ht) (k _ (List.mem_singleton.mpr rfl))
      · cases h
    · cases h
  · split at h
    · rename_i hn
      subst hn
      split at h
      · rename_i t ht
        cases h
        exact cw_ifc hexec hb hd (ck_tgt_ok ht) (fun r hr => k _ (List.mem_append_left _ (oin hr))) (fun r hr => k _ (List.mem_append_right _ (oin hr)))
      · cases h
    · cases h
  · split at h
    · rename_i hn
      subst hn
      split at h
      · rename_i t ht
        cases h
        exact cw_icmp hexec hb hd (ck_tgt_ok ht) (fun r hr => k _ (List.mem_append_left _ (oin hr))) (fun r hr => k _ (List.mem_append_right _ (oin hr)))
      · cases h
    · cases h
  · split at h
    · rename_i q hq
      split at h
      · rename_i hc
        obtain ⟨rfl, c1, c2, c3, c4⟩ := hc
        cases h
        exact cw_iinc hexec hb hd hq c1 c2 (ck_ofInt c3 c4) (k _ (List.mem_singleton.mpr rfl))
      · cases h
    · cases h
  · rename_i d lo hi offs A a st T
    split at h
    · rename_i td htd
      split at h
      · rename_i hall
        cases h
        refine cw_table hexec hb hd (ck_tgt_ok htd) (ck_swT pc offs) (fun i hi' => ?_) (fun i hi' h1 h2 => k _ (List.mem_append_left _ (List.mem_map.mpr ⟨i, List.mem_filter.mpr ⟨List.mem_range.mpr hi', by simp [h1, h2]⟩, rfl⟩))) (fun ho => k _ (List.mem_append_right _ (by rw [if_pos ho]; exact List.mem_singleton.mpr rfl)))
        have := List.all_eq_true.mp hall i (List.mem_range.mpr hi')
        unfold ck_sw at this
        unfold ck_swT
        split at this
        · rename_i off ho
          have := of_decide_eq_true this
          exact ⟨off, ho, by omega⟩
        · cases this
      · cases h
    · cases h
  · cases h
theorem ck_W.mono {Q' : State → Prop} (hQ : ∀ t, Q t → Q' t) (h : ck_W p l e R s m args below meth c Q D AC S tab L nL ρ0 wr G0 N0 H0 pc B ce sl) : ck_W p l e R s m args below meth c Q' D AC S tab L nL ρ0 wr G0 N0 H0 pc B ce sl :=
  fun H ls st locs hs => ck_mono hQ (h H ls st locs hs)
theorem cw_rt1 (hy : ck_Hy p l e R s m meth c M K E ms cts tab nb D AC S L cod) {K' : ck_Ct} (hnp : N0.length = K'.2.1.length) {i : Instr} {n : Nat} (hd : decode M.2.1 pc = .ok (i, n)) (h : ck_rt1 M K' i n B ce sl = true) (hQ : ∀ t, ck_Fin D AC S tab L ρ0 wr G0 N0 K' below s t → Q t) : ck_W p l e R s m args below meth c Q D AC S tab L nL ρ0 wr G0 N0 s.heap pc B ce sl := by
  obtain ⟨⟨hexec, hb, hml, hret, hlk, hown, hhd, hnm⟩, -⟩ := hy
  unfold ck_rt1 at h
  simp only [Bool.and_eq_true, decide_eq_true_eq] at h
  obtain ⟨⟨⟨⟨rfl, hT⟩, hc⟩, hs⟩, hm⟩ := h
  obtain ⟨A, st, T⟩ := B
  refine ck_W.mono hQ ?_
  dsimp only at hm hT
  split at hm
  · rename_i hr ht
    exact cw_vret hexec hb hlk (hret.trans ht) hr hnp hT hc hs hd
  · rename_i q r ty hr ht
    simp only [Bool.and_eq_true] at hm
    exact cw_iret hexec hb hlk (hret.trans ht) hm.1.1 hr hm.1.2 hm.2 hnp hT hc hs hd
  · rename_i q r hr ht
    simp only [Bool.and_eq_true] at hm
    exact cw_lret hexec hb hlk (hret.trans ht) hr hm.1 hm.2 hnp hT hc hs hd
  · rename_i v r o hr ht
    simp only [Bool.and_eq_true] at hm
    exact cw_aret hexec hb hlk (hret.trans ht) (Or.inl ⟨_, rfl⟩) hm.1.1 hr hm.1.2 hm.2 hnp hT hc hs hd
  · rename_i v r o hr ht
    simp only [Bool.and_eq_true] at hm
    exact cw_aret hexec hb hlk (hret.trans ht) (Or.inr ⟨_, rfl⟩) hm.1.1 hr hm.1.2 hm.2 hnp hT hc hs hd
  · cases hm
theorem cw_rt (hy : ck_Hy p l e R s m meth c M K E ms cts tab nb D AC S L cod) (hnp : N0.length = K.2.1.length) {i : Instr} {n : Nat} (hd : decode M.2.1 pc = .ok (i, n)) (h : ck_rt M K al i n B ce sl = true) (hQ : ∀ a ∈ al, ∀ t, ck_Fin D AC S tab L ρ0 wr G0 N0 (ck_alt K a) below s t → Q t) : ck_W p l e R s m args below meth c Q D AC S tab L nL ρ0 wr G0 N0 s.heap pc B ce sl := by
  unfold ck_rt at h
  obtain ⟨a, ha, h⟩ := List.any_eq_true.mp h
  exact cw_rt1 hy (K' := ck_alt K a) hnp hd h (hQ a ha)
theorem cw_cpy (hy : ck_Hy p l e R s m meth c M K E ms cts tab nb D AC S L cod) (hnl : nL = M.2.2.1) {i : Instr} {n : Nat} {X : List ck_N} (hd : decode M.2.1 pc = .ok (i, n)) (h : ck_cpy E tab wr K i n pc B ce sl = some X)
    (k : ∀ x ∈ X, ck_W p l e R s m args below meth c Q D AC S tab L nL ρ0 wr G0 N0 H0 x.1 x.2.1 x.2.2.1 x.2.2.2) : ck_W p l e R s m args below meth c Q D AC S tab L nL ρ0 wr G0 N0 H0 pc B ce sl := by
  obtain ⟨⟨hexec, hb, hml, hret, hlk, hown, hhd, hnm⟩, htr, ⟨r1, r2, r3, r4⟩, ⟨nS, hn1, hn2, hKf⟩, hE, hEM, hms, hcts, hgl, hcod⟩ := hy
  have hts : ∀ w ∈ ck_tb, w.before args s = true := hKf.ts
  obtain ⟨e1, e2, e3, e4, e5, e6, e7, e8, e9, e10, e11, e12⟩ := hE
  rw [← hEM] at hown
  unfold ck_cpy at h
  split at h
  · rename_i idx A qn qd τ qs v st T
    split at h
    · rename_i ac n1 sg kk dp sp hτ h1 h2 h3
      split at h
      · rename_i n0 sg0 hsrc
        split at h
        · rename_i hc
          obtain ⟨rfl, c1, c2, c3, c4, c5, c8, c9, c10, c11, c12⟩ := hc
          cases h
          have hty : ∃ ty, ck_tyK ac = some ty := by
            rcases c2 with rfl | rfl
            · exact ⟨_, rfl⟩
            · exact ⟨_, rfl⟩
          obtain ⟨ty, hty⟩ := hty
          have hw : nativeFrameWords "java/lang/System" "arraycopy" 5 = 7 := by decide +kernel
          have hcp : ∀ j, j < kk → ck_plain (ck_kat sg0 (sp + j)) = true ∧ ck_prim ac (ck_kat sg0 (sp + j)) = true ∧ ck_le (ck_kat sg0 (sp + j)) (ck_kat sg (dp + j)) = true := fun j hj => by
            have := List.all_eq_true.mp c3 j (List.mem_range.mpr hj)
            unfold ck_cpj at this
            simp only [Bool.and_eq_true] at this
            exact ⟨this.1.1, this.1.2, this.2⟩
          have main : ck_W p l e R s m args below meth c Q D AC S tab L nL ρ0 wr G0 N0 H0 pc (A, .inl qn :: .inl qd :: .inr (.inr (2, τ)) :: .inl qs :: ck_unf T v :: st, T) ce sl := by
            refine cw_copy hexec hb hown hKf.1 (hts _ (e10 _ (by simpa using c1))) (hts _ hgl.2.2.2.1) (hts _ hgl.2.2.2.2.1) (hts _ hgl.2.2.2.2.2.1) (hml.trans hnl.symm) hty c2 hτ hcp (by simpa using c4) (ck_nof_ok c5) ?_ c8 c9 (ck_one_ok h3) (ck_one_ok h2) (ck_one_ok h1) c10 (by omega) (by rw [hw]; omega) hd (k _ (List.mem_singleton.mpr rfl))
            unfold ck_csrc at hsrc
            split at hsrc
            · rename_i σ hv
              split at hsrc
              · rename_i ac' n0' sg0' hσ
                split at hsrc
                · rename_i e
                  subst e
                  cases hsrc
                  exact Or.inl ⟨_, hv, hσ⟩
                · cases hsrc
              · cases hsrc
            · rename_i j hv
              split at hsrc
              · rename_i hj
                cases hsrc
                have hs := hKf.sta (show j < 3 by omega)
                have e : ck_slen nS j = ck_sl2 j := by
                  unfold ck_slen ck_sl2
                  split
                  · rfl
                  · rw [if_pos (by omega)]
                rw [e] at hs
                exact Or.inr ⟨j, hv, hj.1, hs, rfl⟩
              · cases hsrc
            · cases hsrc
          intro H ls vs locs hh
          obtain ⟨ρ, G, N, lv, h1, h2, h3, h4, h5, h6, h7⟩ := hh
          obtain ⟨v1, _, rfl, w1, g1⟩ := h3.uncons
          obtain ⟨v2, _, rfl, w2, g2⟩ := g1.uncons
          obtain ⟨v3, _, rfl, w3, g3⟩ := g2.uncons
          obtain ⟨v4, _, rfl, w4, g4⟩ := g3.uncons
          obtain ⟨v5, _, rfl, w5, g5⟩ := g4.uncons
          exact main H ls _ locs ⟨ρ, G, N, lv, h1, h2, ck_all.cons w1 (ck_all.cons w2 (ck_all.cons w3 (ck_all.cons w4 (ck_all.cons (ck_unf_ok h4 w5) g5)))), h4, h5, h6, h7⟩
        · cases h
      · cases h
    · cases h
  · cases h
theorem cw_obi (hy : ck_Hy p l e R s m meth c M K E ms cts tab nb D AC S L cod) (hnl : nL = M.2.2.1) {i : Instr} {n : Nat} {X : List ck_N} (hd : decode M.2.1 pc = .ok (i, n)) (h : ck_obi E K i n pc B ce sl = some X)
    (k : ∀ x ∈ X, ck_W p l e R s m args below meth c Q D AC S tab L nL ρ0 wr G0 N0 H0 x.1 x.2.1 x.2.2.1 x.2.2.2) : ck_W p l e R s m args below meth c Q D AC S tab L nL ρ0 wr G0 N0 H0 pc B ce sl := by
  obtain ⟨⟨hexec, hb, hml, hret, hlk, hown, hhd, hnm⟩, htr, ⟨r1, r2, r3, r4⟩, ⟨nS, hn1, hn2, hKf⟩, hE, hEM, hms, hcts, hgl, hcod⟩ := hy
  have hts : ∀ w ∈ ck_tb, w.before args s = true := hKf.ts
  obtain ⟨e1, e2, e3, e4, e5, e6, e7, e8, e9, e10, e11, e12⟩ := hE
  rw [← hEM] at hown
  unfold ck_obi at h
  split at h
  · rename_i idx A z y st T
    split at h
    · rename_i hc
      obtain ⟨rfl, c1, c2, c3, c4, c5⟩ := hc
      cases h
      intro H ls vs locs hh
      obtain ⟨ρ, G, N, lv, h1, h2, h3, h4, h5, h6, h7⟩ := hh
      obtain ⟨v0, vs', rfl, w1, w2⟩ := h3.uncons
      have hor : ∃ b, v0 = .ref b := by
        rcases c2 with rfl | rfl
        · obtain ⟨a, -, rfl⟩ := w1
          exact ⟨a, rfl⟩
        · obtain ⟨a, rfl, -⟩ := w1
          exact ⟨a, rfl⟩
      obtain ⟨b, rfl⟩ := hor
      refine W.objInit hexec hb hown (hts _ (e12 _ (by simpa using c1))) (hts _ hgl.2.2.2.2.2.2.1) (hts _ hgl.2.2.2.2.2.2.2) rfl ?_ rfl hd (by omega) ?_ (k _ (List.mem_singleton.mpr rfl) H ls vs' locs ⟨ρ, G, N, lv, h1, h2, w2, h4, h5, h6, h7⟩)
      · show ls.size = c.maxLocals
        rw [h1.1, hml]
        exact hnl
      · have hw := ck_words_ok w2 c3
        have hmr : (F0 m pc ls (Value.ref b :: vs')).monitorRoom = 0 := rfl
        rw [hmr, hw]
        omega
    · cases h
  · cases h
end CKFL
end
section
/-! ===== the checker: calls and throws ===== -/
def ck_nm1 (j : Nat) (q : ck_V × ck_V) : Option Nat := match q.1, q.2 with
  | .inr (.inr (1, j')), .inr (.inr (1, i)) => if j' = j then some i else none
  | _, _ => none
def ck_mu1 (T : List ck_C) (ks : List ck_V) (K : ck_Ct) (j : Nat) (μ : List Nat) : Option Nat := match (K.1.zip ks).findSome? (ck_nm1 j) with
  | some i => some i
  | none => (K.2.1.zip μ).findSome? (fun q => match T[q.2]? with
    | some c => (q.1.2.zip c.2).findSome? (ck_nm1 j)
    | none => none)
/-- which of the caller's cells the called one's are -/
def ck_mua (T : List ck_C) (ks : List ck_V) (K : ck_Ct) : List Nat := (List.range K.2.1.length).foldl (fun μ j => match ck_mu1 T ks K j μ with
  | some i => μ ++ [i]
  | none => μ) []
def ck_chk (Km : ck_Ct) (wr : List Nat) (T : List ck_C) (ks rest : List ck_V) (mx ce sl : Nat) (X : ck_Kt) (μ : List Nat) : Bool :=
  ck_cargs T μ ks X.1.1 && ck_cpre T μ X.1.2.1 && decide (X.1.2.2.2.2.1 + 1 ≤ Km.2.2.2.2.1) && rest.all ck_kn && decide (ck_words rest + (mx + 11) + X.1.2.2.2.2.2.1 ≤ Km.2.2.2.2.2.1) && decide (ce + X.1.2.2.2.2.2.2.1 ≤ Km.2.2.2.2.2.2.1) && decide (sl + X.1.2.2.2.2.2.2.2 ≤ Km.2.2.2.2.2.2.2) && X.2.2.all (fun τ => wr.contains τ)
def ck_cand (Km : ck_Ct) (wr : List Nat) (T : List ck_C) (ks rest : List ck_V) (mx ce sl mi : Nat) : List (Nat × ck_Kt) → Option (ck_Kt × List Nat)
  | [] => none
  | (mj, X) :: t => if mj == mi && ck_chk Km wr T ks rest mx ce sl X (ck_mua T ks X.1) then some (X, ck_mua T ks X.1) else ck_cand Km wr T ks rest mx ce sl mi t
theorem ck_cand_ok {Km : ck_Ct} {wr : List Nat} {T : List ck_C} {ks rest : List ck_V} {mx ce sl mi : Nat} {X : ck_Kt} {μ : List Nat} : ∀ {cts : List (Nat × ck_Kt)}, ck_cand Km wr T ks rest mx ce sl mi cts = some (X, μ) → (mi, X) ∈ cts ∧ ck_chk Km wr T ks rest mx ce sl X μ = true
  | [], h => by cases h
  | (mj, X') :: t, h => by
    unfold ck_cand at h
    split at h
    · rename_i hc
      simp only [Bool.and_eq_true, beq_iff_eq] at hc
      cases h
      exact ⟨by rw [hc.1]; exact List.mem_cons_self, hc.2⟩
    · obtain ⟨a, b⟩ := ck_cand_ok h
      exact ⟨List.mem_cons_of_mem _ a, b⟩
/-- 0 static, 1 virtual, 2 a constructor -/
def ck_ivk (i : Instr) : Option (Nat × Nat) := match i with
  | .invokestatic idx => some (0, idx)
  | .invokevirtual idx => some (1, idx)
  | .invokespecial idx => some (2, idx)
  | _ => none
def ck_rcv (tab : List ck_D) (T : List ck_C) (kd ci : Nat) (ks : List ck_V) : Bool := match kd, ks with
  | 0, _ => true
  | 1, v :: _ => ck_oc tab T v == some ci
  | _, .inr (.inr (1, _)) :: _ => true
  | _, .inr (.inr (2, _)) :: _ => true
  | _, _ => false
def ck_isx (r : Option ck_V ⊕ Nat) (x : Nat) : Bool := match r with
  | .inr y => y == x
  | .inl _ => false
theorem ck_isx_ok {r : Option ck_V ⊕ Nat} {x : Nat} (h : ck_isx r x = true) : r = .inr x := by
  unfold ck_isx at h
  split at h
  · rw [beq_iff_eq.mp h]
  · cases h
def ck_na (kd np : Nat) : Nat := if kd = 0 then np else np + 1
/-- one ending of a call: where it goes on; nothing, where the method's own ending takes it; none, where it can't be taken -/
def ck_res1 (tab : List ck_D) (E : ck_E) (M : ck_M) (Km : ck_Ct) (al : List (List ck_C × (Option ck_V ⊕ Nat))) (pc : Nat) (A : List (Nat × ck_V)) (rest : List ck_V) (T : List ck_C) (ce sl : Nat) (X : ck_Kt) (μ : List Nat) (a : List ck_C × (Option ck_V ⊕ Nat)) : Option (List ck_N) := match a.2 with
  | .inl r => some [(pc + 3, (A, ck_push (ck_f0 T μ) (ck_mu T μ a.1) r rest, ck_cpost tab X.2.2 T μ a.1), ce + X.1.2.2.2.2.2.2.1, sl + X.1.2.2.2.2.2.2.2)]
  | .inr x => if M.2.2.2.2 = [] then (if al.any (fun b => ck_isx b.2 x && ck_leD Km.2.1.length (ck_cpost tab X.2.2 T μ a.1) b.1) = true then some [] else none) else (match ck_fh (ck_xl E) pc x M.2.2.2.2 with
    | some h => if x < 3 then some [(h, (A, [.inr (.inr (4, 0))], ck_cpost tab X.2.2 T μ a.1), ce + X.1.2.2.2.2.2.2.1, sl + X.1.2.2.2.2.2.2.2)] else none
    | none => none)
def ck_resL (f : (List ck_C × (Option ck_V ⊕ Nat)) → Option (List ck_N)) : List (List ck_C × (Option ck_V ⊕ Nat)) → Option (List ck_N)
  | [] => some []
  | a :: t => (match f a with
    | some Y => (match ck_resL f t with
      | some Z => some (Y ++ Z)
      | none => none)
    | none => none)
theorem ck_resL_ok {f : (List ck_C × (Option ck_V ⊕ Nat)) → Option (List ck_N)} : ∀ {l : List (List ck_C × (Option ck_V ⊕ Nat))} {X : List ck_N}, ck_resL f l = some X → ∀ a ∈ l, ∃ Y, f a = some Y ∧ ∀ y ∈ Y, y ∈ X
  | [], X, _, a, ha => by cases ha
  | b :: t, X, h, a, ha => by
    unfold ck_resL at h
    split at h
    · rename_i Y hY
      split at h
      · rename_i Z hZ
        cases h
        rcases List.mem_cons.mp ha with rfl | ha
        · exact ⟨Y, hY, fun y hy => List.mem_append_left _ hy⟩
        · obtain ⟨Y', e1, e2⟩ := ck_resL_ok hZ a ha
          exact ⟨Y', e1, fun y hy => List.mem_append_right _ (e2 y hy)⟩
      · cases h
    · cases h
def ck_cal (E : ck_E) (tab : List ck_D) (ms : List ck_MM) (cts : List (Nat × ck_Kt)) (M : ck_M) (Km : ck_Ct) (al : List (List ck_C × (Option ck_V ⊕ Nat))) (wr : List Nat) (i : Instr) (n pc : Nat) (B : ck_A) (ce sl : Nat) : Option (List ck_N) := match ck_ivk i with
  | some (kd, idx) => (match ck_lk (ck_ml E) idx with
    | some mi => (match ms[mi]? with
      | some (M', kd', np, ci) => if n = 3 ∧ kd' = kd ∧ (ck_na kd np) ≤ B.2.1.length ∧ ck_rcv tab B.2.2 kd ci ((B.2.1.take (ck_na kd np)).reverse) = true then (match ck_cand Km wr B.2.2 ((B.2.1.take (ck_na kd np)).reverse) (B.2.1.drop (ck_na kd np)) M'.2.2.1 ce sl mi cts with
        | some (X, μ) => ck_resL (ck_res1 tab E M Km al pc B.1 (B.2.1.drop (ck_na kd np)) B.2.2 ce sl X μ) X.2.1
        | none => none) else none
      | none => none)
    | none => none)
  | none => none
def ck_thr1 (E : ck_E) (cod : List (List (Nat × Instr × Nat))) (M : ck_M) (Km : ck_Ct) (i : Instr) (n pc : Nat) (B : ck_A) (ce sl : Nat) : Option (List ck_N) := match i with
  | .new idx => (match ck_lk (ck_xl E) idx with
    | some x => (match ck_cdAt cod (pc + 3), ck_cdAt cod (pc + 4) with
      | some (.dup, 1), some (.ldc si, 2) => (match ck_cdAt cod (pc + 4 + 2), ck_cdAt cod (pc + 4 + 2 + 3) with
        | some (.invokespecial ic, 3), some (.athrow, 1) => if n = 3 ∧ ck_lk (ck_il E) ic = some x ∧ ck_strs.any (fun q => q.1 == E.1 && q.2.1 == si) = true ∧ M.2.2.2.2 = [] ∧ ck_isx Km.2.2.2.1 x = true ∧ ck_leD Km.2.1.length B.2.2 Km.2.2.1 = true ∧ ce + 1 ≤ Km.2.2.2.2.2.2.1 ∧ sl + 6 ≤ Km.2.2.2.2.2.2.2 ∧ 6 ≤ Km.2.2.2.2.1 ∧ B.2.1.all ck_kn = true ∧ ck_words B.2.1 + 82 ≤ Km.2.2.2.2.2.1 then some [] else none
        | _, _ => none)
      | some (.dup, 1), some (.ldc_w si, 3) => (match ck_cdAt cod (pc + 4 + 3), ck_cdAt cod (pc + 4 + 3 + 3) with
        | some (.invokespecial ic, 3), some (.athrow, 1) => if n = 3 ∧ ck_lk (ck_il E) ic = some x ∧ ck_strs.any (fun q => q.1 == E.1 && q.2.1 == si) = true ∧ M.2.2.2.2 = [] ∧ ck_isx Km.2.2.2.1 x = true ∧ ck_leD Km.2.1.length B.2.2 Km.2.2.1 = true ∧ ce + 1 ≤ Km.2.2.2.2.2.2.1 ∧ sl + 6 ≤ Km.2.2.2.2.2.2.2 ∧ 6 ≤ Km.2.2.2.2.1 ∧ B.2.1.all ck_kn = true ∧ ck_words B.2.1 + 82 ≤ Km.2.2.2.2.2.1 then some [] else none
        | _, _ => none)
      | _, _ => none)
    | none => none)
  | _ => none
/-- the first ending that takes it -/
def ck_thr (E : ck_E) (cod : List (List (Nat × Instr × Nat))) (M : ck_M) (K : ck_Ct) (i : Instr) (n pc : Nat) (B : ck_A) (ce sl : Nat) : List (List ck_C × (Option ck_V ⊕ Nat)) → Option (List ck_N)
  | [] => none
  | a :: t => (match ck_thr1 E cod M (ck_alt K a) i n pc B ce sl with
    | some X => some X
    | none => ck_thr E cod M K i n pc B ce sl t)
section CKCI
variable {p : Program} {l : Launch} {e : Env} {R : Room} {s : State} {m : MethodId} {args : Array Value} {below : List Frame} {meth : Method} {c : Code} {ce sl : Nat} {Q : State → Prop}
variable {pc nL : Nat} {nb : Nat × Nat} {al : List (List ck_C × (Option ck_V ⊕ Nat))} {D : va_G} {AC : Nat → ClassId} {S : Nat → Nat} {tab : List ck_D} {L : Heap} {ρ0 : Nat → Int} {wr : List Nat} {G0 : Nat → Nat} {N0 : List Nat} {H0 : Heap}
variable {B : ck_A} {M : ck_M} {K : ck_Ct} {E : ck_E} {ms : List ck_MM} {cts : List (Nat × ck_Kt)} {cod : List (List (Nat × Instr × Nat))}
theorem cw_thr1 (hy : ck_Hy p l e R s m meth c M K E ms cts tab nb D AC S L cod) (hnl : nL = M.2.2.1) (hnp : N0.length = K.2.1.length) (hQ : ∀ t, ck_Fin D AC S tab L ρ0 wr G0 N0 K below s t → Q t) {i : Instr} {n : Nat} {X : List ck_N} (hd : decode M.2.1 pc = .ok (i, n)) (h : ck_thr1 E cod M K i n pc B ce sl = some X) :
    ck_W p l e R s m args below meth c Q D AC S tab L nL ρ0 wr G0 N0 s.heap pc B ce sl := by
  obtain ⟨⟨hexec, hb, hml, hret, hlk, hown, hhd, hnm⟩, htr, ⟨r1, r2, r3, r4⟩, ⟨nS, hn1, hn2, hKf⟩, hE, hEM, hms, hcts, hgl, hcod⟩ := hy
  obtain ⟨e1, e2, e3, e4, e5, e6, e7, e8, e9, e10, e11, e12⟩ := hE
  rw [← hEM] at hown
  refine ck_W.mono hQ ?_
  have hnil : M.2.2.2.2 = [] → c.exceptionTable.toList = [] := fun hz => by
    rw [hz] at hhd
    exact List.map_eq_nil_iff.mp hhd
  obtain ⟨A, st, T⟩ := B
  unfold ck_thr1 at h
  split at h
  · rename_i idx
    split at h
    · rename_i x hx
      obtain ⟨x1, x2, x3⟩ := e7 _ (ck_lk_mem hx)
      obtain ⟨g1, g2, g3, g4⟩ := hgl.1 x x2
      split at h
      · rename_i si hdup hldc
        split at h
        · rename_i ic hinv hath
          split at h
          · rename_i hc
            obtain ⟨rfl, c1, c2, c3, c4, c5, c6, c7, c8, c9, c10⟩ := hc
            obtain ⟨⟨o, si', tx⟩, s1, s2⟩ := List.any_eq_true.mp c2
            simp only [Bool.and_eq_true, beq_iff_eq] at s2
            obtain ⟨rfl, rfl⟩ := s2
            exact cw_throw (ll := 2) hexec hb (hml.trans hnl.symm) hlk hown hKf htr g1 x1 g2 g3 s1 (e8 _ (ck_lk_mem c1)) hd (hcod _ _ _ hdup) (Or.inl ⟨hcod _ _ _ hldc, rfl⟩) (hcod _ _ _ hinv) (hcod _ _ _ hath) (hnil c3) (ck_isx_ok c4) hnp c5 c6 c7 r3 r4 (by omega) c9 (by dsimp only at c10; omega)
          · cases h
        · cases h
      · rename_i si hdup hldc
        split at h
        · rename_i ic hinv hath
          split at h
          · rename_i hc
            obtain ⟨rfl, c1, c2, c3, c4, c5, c6, c7, c8, c9, c10⟩ := hc
            obtain ⟨⟨o, si', tx⟩, s1, s2⟩ := List.any_eq_true.mp c2
            simp only [Bool.and_eq_true, beq_iff_eq] at s2
            obtain ⟨rfl, rfl⟩ := s2
            exact cw_throw (ll := 3) hexec hb (hml.trans hnl.symm) hlk hown hKf htr g1 x1 g2 g3 s1 (e8 _ (ck_lk_mem c1)) hd (hcod _ _ _ hdup) (Or.inr ⟨hcod _ _ _ hldc, rfl⟩) (hcod _ _ _ hinv) (hcod _ _ _ hath) (hnil c3) (ck_isx_ok c4) hnp c5 c6 c7 r3 r4 (by omega) c9 (by dsimp only at c10; omega)
          · cases h
        · cases h
      · cases h
    · cases h
  · cases h
theorem cw_thr (hy : ck_Hy p l e R s m meth c M K E ms cts tab nb D AC S L cod) (hnl : nL = M.2.2.1) (hnp : N0.length = K.2.1.length) {i : Instr} {n : Nat} {X : List ck_N} (hd : decode M.2.1 pc = .ok (i, n)) : ∀ {al : List (List ck_C × (Option ck_V ⊕ Nat))}, (∀ a ∈ al, ∀ t, ck_Fin D AC S tab L ρ0 wr G0 N0 (ck_alt K a) below s t → Q t) → ck_thr E cod M K i n pc B ce sl al = some X →
    ck_W p l e R s m args below meth c Q D AC S tab L nL ρ0 wr G0 N0 s.heap pc B ce sl
  | [], _, h => by cases h
  | a :: t, hQ, h => by
    unfold ck_thr at h
    split at h
    · rename_i Y hY
      exact cw_thr1 (K := ck_alt K a) (cod := cod) hy hnl hnp (hQ a List.mem_cons_self) hd hY
    · exact cw_thr hy hnl hnp hd (fun b hb => hQ b (List.mem_cons_of_mem _ hb)) h
theorem ck_oref {ρ : Nat → Int} {G : Nat → Nat} {N : List Nat} {k : ck_V} {w : Value} (h : ck_R S ρ G N k w) (hk : (∃ i, k = .inr (.inr (1, i))) ∨ ∃ τ, k = .inr (.inr (2, τ))) : ∃ b, w = .ref b := by
  rcases hk with ⟨i, rfl⟩ | ⟨τ, rfl⟩
  · obtain ⟨a, -, rfl⟩ := h
    exact ⟨a, rfl⟩
  · obtain ⟨a, rfl, -⟩ := h
    exact ⟨a, rfl⟩
theorem cw_cal (hy : ck_Hy p l e R s m meth c M K E ms cts tab nb D AC S L cod) (hnl : nL = M.2.2.1) (hnp0 : N0.length = K.2.1.length) (hQ : ∀ a ∈ al, ∀ t, ck_Fin D AC S tab L ρ0 wr G0 N0 (ck_alt K a) below s t → Q t) {i : Instr} {n : Nat} {X : List ck_N} (hd : decode M.2.1 pc = .ok (i, n)) (h : ck_cal E tab ms cts M K al wr i n pc B ce sl = some X)
    (k : ∀ x ∈ X, ck_W p l e R s m args below meth c Q D AC S tab L nL ρ0 wr G0 N0 s.heap x.1 x.2.1 x.2.2.1 x.2.2.2) : ck_W p l e R s m args below meth c Q D AC S tab L nL ρ0 wr G0 N0 s.heap pc B ce sl := by
  obtain ⟨⟨hexec, hb, hml, hret, hlk, hown, hhd, hnm⟩, htr, ⟨r1, r2, r3, r4⟩, ⟨nS, hn1, hn2, hKf⟩, hE, hEM, hms, hcts, hgl, hcod⟩ := hy
  have hts : ∀ w ∈ ck_tb, w.before args s = true := hKf.ts
  obtain ⟨e1, e2, e3, e4, e5, e6, e7, e8, e9, e10, e11, e12⟩ := hE
  rw [← hEM] at hown
  have hnil : M.2.2.2.2 = [] → c.exceptionTable.toList = [] := fun hz => by
    rw [hz] at hhd
    exact List.map_eq_nil_iff.mp hhd
  obtain ⟨A, st, T⟩ := B
  unfold ck_cal at h
  split at h
  · rename_i kd idx hivk
    split at h
    · rename_i mi hmi
      split at h
      · rename_i M' kd' np ci hM
        split at h
        · rename_i hc
          obtain ⟨rfl, rfl, hna, hrcv⟩ := hc
          generalize hna' : ck_na kd' np = na at h hna hrcv
          dsimp only at h hna hrcv
          generalize hks : (st.take na).reverse = ks at h hrcv
          split at h
          · rename_i X' μ hcand
            obtain ⟨hin, hchk⟩ := ck_cand_ok hcand
            obtain ⟨M2, hM2, hO⟩ := hcts _ hin
            cases hM.symm.trans hM2
            replace hO : ck_Ok l tab nb M' X' := hO
            obtain ⟨hcc, hpl, hnp, hnh, hkd⟩ := hms _ (List.mem_of_getElem? hM)
            obtain ⟨M3, hM3, hlink⟩ := e9 _ (ck_lk_mem hmi)
            cases hM.symm.trans hM3
            dsimp only at hcc hpl hnp hnh hkd hlink
            have hcode : (Cond.codeWith M'.1 M'.2.1 M'.2.2.1 M'.2.2.2.1 M'.2.2.2.2).before args s = true := by
              rcases hcc with ⟨z1, z2⟩ | z
              · rw [z1]; exact ck_codeW (hts _ z2)
              · exact hts _ z
            have hlk' : (Cond.methodLink E.1 idx M'.1).before args s = true ∨ ∃ host, (Cond.methodLinkNest E.1 idx M'.1 host).before args s = true := by
              rcases hlink with z | ⟨host, z⟩
              · exact Or.inl (hts _ z)
              · exact Or.inr ⟨host, hts _ z⟩
            unfold ck_chk at hchk
            simp only [Bool.and_eq_true, decide_eq_true_eq] at hchk
            obtain ⟨⟨⟨⟨⟨⟨⟨q6, q7⟩, q1⟩, q2⟩, q3⟩, q4⟩, q5⟩, q8⟩ := hchk
            have hst : st = ks.reverse ++ st.drop na := by
              rw [← hks, List.reverse_reverse, List.take_append_drop]
            have hkl : ks.length = na := by rw [← hks]; simp; omega
            have hinv : ∀ {U : State} {H : Heap} {ls : Array Slot} {vs rest : List Value} {locs : List Loc} {ρ : Nat → Int} {G : Nat → Nat} {N : List Nat}, U.heap = H → Stand p l e R s m args below meth c U locs ce sl → ck_H D AC S tab L ρ G N T H → ck_all (ck_R S ρ G N) ks vs → ck_Inv p l e R s m args below meth c locs ce sl U M'.1 (F0 m pc ls (vs.reverse ++ rest)) rest vs.toArray := by
              intro U H ls vs rest locs ρ G N hU X0 h4 hv
              match kd', hkd, hivk, hna', hrcv with
              | 0, hkd, hivk, hna', hrcv =>
                have hi : i = .invokestatic idx := by
                  unfold ck_ivk at hivk
                  split at hivk <;> cases hivk
                  rfl
                rw [hi] at hd
                exact ck_invS X0 hexec hown hcode hlk' (hts _ hkd.1) (hts _ hkd.2) hnh rfl hnp (by rw [← hv.1, hkl, ← hna']; rfl) rfl (by rw [hb]; exact hd)
              | 1, hkd, hivk, hna', hrcv =>
                have hi : i = .invokevirtual idx := by
                  unfold ck_ivk at hivk
                  split at hivk <;> cases hivk
                  rfl
                rw [hi] at hd
                match ks, hv, hkl, hrcv with
                | k0 :: ks', hv, hkl, hrcv =>
                  obtain ⟨v0, vs', rfl, w1, w2⟩ := hv.uncons
                  have hoc : ck_oc tab T k0 = some ci := by simpa [ck_rcv] using hrcv
                  obtain ⟨b, us, rfl, C, TT, hcl, cell, o1, o2⟩ := ck_obj h4 w1 (ck_oc_ok hoc)
                  obtain ⟨hk1, hk2, TT', n', hk3⟩ := hkd
                  cases hcl.symm.trans hk3
                  obtain ⟨hS, hfc, -⟩ := hKf.1.1 ci _ hcl
                  refine ck_invV (b := b) (cellB := cell) X0 hexec hown hcode hlk' (hts _ hk1) (hts _ hk2) hnh (by rw [hU]; exact o1) ?_ ?_ rfl hnp (argsL := vs') (by
                    have := w2.1
                    simp [ck_na] at hkl hna'
                    omega) (by simp [F0]) (by rw [hb]; exact hd)
                  · rw [o2.2.1]; rfl
                  · rw [o2.1]; exact hfc
              | kq + 2, hkd, hivk, hna', hrcv =>
                have hi : i = .invokespecial idx := by
                  unfold ck_ivk at hivk
                  split at hivk <;> cases hivk
                  rfl
                rw [hi] at hd
                match ks, hv, hkl, hrcv with
                | k0 :: ks', hv, hkl, hrcv =>
                  obtain ⟨v0, vs', rfl, w1, w2⟩ := hv.uncons
                  have hor : ∃ b, v0 = .ref b := by
                    refine ck_oref w1 ?_
                    unfold ck_rcv at hrcv
                    split at hrcv
                    · rename_i z; cases z
                    · omega
                    · rename_i z _ _; cases z; exact Or.inl ⟨_, rfl⟩
                    · rename_i z _ _; cases z; exact Or.inr ⟨_, rfl⟩
                    · cases hrcv
                  obtain ⟨b, rfl⟩ := hor
                  obtain ⟨hk1, hk2, hk3⟩ := hkd
                  exact ck_invI X0 hexec hown (hts _ hk3) hlk' (hts _ hk1) hk2 hnh rfl hnp (argsL := vs') (by
                    have := w2.1
                    simp [ck_na] at hkl hna'
                    omega) (by simp [F0]) (by rw [hb]; exact hd)
            rw [hst]
            refine cw_callA (xl := ck_xl E) hO hn1 hn2 hexec hb (hml.trans hnl.symm) hlk hown hd hKf htr hcode hpl hinv (by omega) q2 (by omega) (by omega) (by omega) q7 q6 (fun τ hτ => by simpa using List.all_eq_true.mp q8 τ hτ) e7 (fun a ha => ?_)
            obtain ⟨Y, hY, hsub⟩ := ck_resL_ok h a ha
            unfold ck_ends
            unfold ck_res1 at hY
            obtain ⟨post, res⟩ := a
            dsimp only at hY ⊢
            match res, hY with
            | .inl r, hY =>
              cases hY
              exact k _ (hsub _ (List.mem_singleton.mpr rfl))
            | .inr x, hY =>
              dsimp only at hY ⊢
              split at hY
              · rename_i hz
                split at hY
                · rename_i hx
                  obtain ⟨b, hb', hx⟩ := List.any_eq_true.mp hx
                  simp only [Bool.and_eq_true] at hx
                  exact Or.inl ⟨hnil hz, ck_alt K b, hQ b hb', hnp0, ck_isx_ok hx.1, hx.2, q4, q5⟩
                · cases hY
              · split at hY
                · rename_i hpc hfh
                  split at hY
                  · rename_i hx3
                    cases hY
                    exact Or.inr ⟨hpc, by rw [hhd]; exact hfh, hx3, (hgl.1 x hx3).2.2.2, k _ (hsub _ (List.mem_singleton.mpr rfl))⟩
                  · cases hY
                · cases hY
          · cases h
        · cases h
      · cases h
    · cases h
  · cases h
end CKCI
end
section
/-! ===== the checker: one instruction ===== -/
section CKSTD
variable (E : ck_E) (tab : List ck_D) (nb : Nat × Nat) (lw : Bool) (ms : List ck_MM) (cts : List (Nat × ck_Kt)) (nt : List (Nat × Nat × Nat)) (cod : List (List (Nat × Instr × Nat))) (M : ck_M) (K : ck_Ct) (al : List (List ck_C × (Option ck_V ⊕ Nat))) (wr : List Nat)
def ck_s5 (i : Instr) (pc : Nat) (A : List (Nat × ck_V)) (st : List ck_V) (T : List ck_C) (ce sl : Nat) : Option (List ck_N) := match st with
  | .inl q :: rf :: r => (match ck_ld tab lw T i q rf with
    | some v => some [(pc + 1, (A, v :: r, T), ce, sl)]
    | none => none)
  | _ => none
def ck_s4 (i : Instr) (pc : Nat) (A : List (Nat × ck_V)) (st : List ck_V) (T : List ck_C) (ce sl : Nat) : Option (List ck_N) := match st with
  | v :: .inl q :: rf :: r => (match ck_as tab wr T i v q rf with
    | some T' => some [(pc + 1, (A, r, T'), ce, sl)]
    | none => ck_s5 tab lw i pc A (v :: .inl q :: rf :: r) T ce sl)
  | st => ck_s5 tab lw i pc A st T ce sl
def ck_s3 (i : Instr) (pc : Nat) (A : List (Nat × ck_V)) (st : List ck_V) (T : List ck_C) (ce sl : Nat) : Option (List ck_N) := match st with
  | .inl b :: .inl a :: r => (match ck_bin i a b with
    | some w => some [(pc + 1, (A, w :: r, T), ce, sl)]
    | none => ck_s4 tab lw wr i pc A (.inl b :: .inl a :: r) T ce sl)
  | .inr (.inl b) :: .inr (.inl a) :: r => (match ck_jb i a b with
    | some w => some [(pc + 1, (A, .inr (.inl w) :: r, T), ce, sl)]
    | none => ck_s4 tab lw wr i pc A (.inr (.inl b) :: .inr (.inl a) :: r) T ce sl)
  | .inl b :: .inr (.inl a) :: r => (match ck_js i a with
    | some w => some [(pc + 1, (A, .inr (.inl w) :: r, T), ce, sl)]
    | none => ck_s4 tab lw wr i pc A (.inl b :: .inr (.inl a) :: r) T ce sl)
  | st => ck_s4 tab lw wr i pc A st T ce sl
def ck_s2x (i : Instr) (n pc : Nat) (A : List (Nat × ck_V)) (st : List ck_V) (T : List ck_C) (ce sl : Nat) : Option (List ck_N) := match ck_psh (ck_kl E) (ck_jl E) A i n with
  | some v => some [(pc + n, (A, v :: st, T), ce, sl)]
  | none => (match st with
    | [] => none
    | v :: r => (match ck_sto M.2.2.1 i n A v with
      | some A' => some [(pc + n, ck_tgS (A', r, T), ce, sl)]
      | none => if n = 1 then (match ck_stk i (v :: r) with
        | some st' => some [(pc + 1, (A, st', T), ce, sl)]
        | none => ck_s3 tab lw wr i pc A (v :: r) T ce sl) else none))
def ck_gp (i : Instr) (n pc : Nat) (B : ck_A) (ce sl : Nat) : Option (List ck_N) := match i, B with
  | .getfield idx, (A, r :: st, T) => if n = 3 then (match ck_gf tab (ck_fl E) T idx r with
    | some v => some [(pc + 3, (A, v :: st, T), ce, sl)]
    | none => none) else none
  | .putfield idx, (A, v :: r :: st, T) => if n = 3 then (match ck_pf tab wr (ck_fl E) E.1 M.1.name T idx v r with
    | some T' => some [(pc + 3, (A, st, T'), ce, sl)]
    | none => none) else none
  | .arraylength, (A, r :: st, T) => if n = 1 then (match ck_len tab nb T r with
    | some v => some [(pc + 1, (A, v :: st, T), ce, sl)]
    | none => none) else none
  | .lcmp, (A, .inr (.inl b) :: .inr (.inl a) :: st, T) => if n = 1 then some [(pc + 1, (A, ck_lcmp a b :: st, T), ce, sl)] else none
  | _, _ => none
/-- which of the groups an instruction belongs to -/
def ck_grp (i : Instr) : Nat := match i with
  | .goto _ => 1
  | .ifCond _ _ => 1
  | .if_icmp _ _ => 1
  | .iinc _ _ => 1
  | .tableswitch _ _ _ _ => 1
  | .return_ => 2
  | .ireturn => 2
  | .lreturn => 2
  | .areturn => 2
  | .newarray _ => 3
  | .anewarray _ => 3
  | .multianewarray _ _ => 3
  | .getstatic _ => 3
  | .new _ => 4
  | .invokestatic _ => 5
  | .invokevirtual _ => 5
  | .invokespecial _ => 5
  | .getfield _ => 6
  | .putfield _ => 6
  | .arraylength => 6
  | .lcmp => 6
  | _ => 0
def ck_or {α : Type} (a b : Option α) : Option α := match a with
  | some x => some x
  | none => b
def ck_step (x : ck_N) : Option (List ck_N) := match ck_cdAt cod x.1 with
  | none => none
  | some (i, n) => (match ck_grp i with
    | 0 => ck_s2x E tab lw M wr i n x.1 x.2.1.1 x.2.1.2.1 x.2.1.2.2 x.2.2.1 x.2.2.2
    | 1 => ck_br M.2.2.1 i n x.1 x.2.1 x.2.2.1 x.2.2.2
    | 2 => if ck_rt M K al i n x.2.1 x.2.2.1 x.2.2.2 = true then some [] else none
    | 3 => ck_alc E tab nt K i n x.1 x.2.1 x.2.2.1 x.2.2.2
    | 4 => ck_or (ck_alc E tab nt K i n x.1 x.2.1 x.2.2.1 x.2.2.2) (ck_thr E cod M K i n x.1 x.2.1 x.2.2.1 x.2.2.2 al)
    | 5 => ck_or (ck_cpy E tab wr K i n x.1 x.2.1 x.2.2.1 x.2.2.2) (ck_or (ck_obi E K i n x.1 x.2.1 x.2.2.1 x.2.2.2) (ck_cal E tab ms cts M K al wr i n x.1 x.2.1 x.2.2.1 x.2.2.2))
    | _ => ck_gp E tab nb M wr i n x.1 x.2.1 x.2.2.1 x.2.2.2)
end CKSTD
section CKSTP
variable {p : Program} {l : Launch} {e : Env} {R : Room} {s : State} {m : MethodId} {args : Array Value} {below : List Frame} {meth : Method} {c : Code} {ce sl : Nat} {Q : State → Prop}
variable {pc : Nat} {nb : Nat × Nat} {al : List (List ck_C × (Option ck_V ⊕ Nat))} {D : va_G} {AC : Nat → ClassId} {S : Nat → Nat} {tab : List ck_D} {L : Heap} {ρ0 : Nat → Int} {wr : List Nat} {G0 : Nat → Nat} {N0 : List Nat} {H0 : Heap}
variable {A : List (Nat × ck_V)} {st : List ck_V} {T : List ck_C} {M : ck_M} {K : ck_Ct} {E : ck_E} {ms : List ck_MM} {cts : List (Nat × ck_Kt)} {cod : List (List (Nat × Instr × Nat))} {nt : List (Nat × Nat × Nat)}
theorem cw_s5 (hy : ck_Hy p l e R s m meth c M K E ms cts tab nb D AC S L cod) {lw : Bool} (hlw : lw = true → ρ0 149 = (S 3 : Int)) {i : Instr} {X : List ck_N} (hd : decode M.2.1 pc = .ok (i, 1)) (h : ck_s5 tab lw i pc A st T ce sl = some X)
    (k : ∀ x ∈ X, ck_W p l e R s m args below meth c Q D AC S tab L M.2.2.1 ρ0 wr G0 N0 H0 x.1 x.2.1 x.2.2.1 x.2.2.2) : ck_W p l e R s m args below meth c Q D AC S tab L M.2.2.1 ρ0 wr G0 N0 H0 pc (A, st, T) ce sl := by
  obtain ⟨⟨hexec, hb, hml, hret, hlk, hown, hhd, hnm⟩, htr, -, ⟨nS, hn1, hn2, hKf⟩, -⟩ := hy
  unfold ck_s5 at h
  split at h
  · split at h
    · rename_i v hv
      cases h
      exact cw_ld hexec hb hKf hlw hd hv (k _ (List.mem_singleton.mpr rfl))
    · cases h
  · cases h
theorem cw_s4 (hy : ck_Hy p l e R s m meth c M K E ms cts tab nb D AC S L cod) {lw : Bool} (hlw : lw = true → ρ0 149 = (S 3 : Int)) {i : Instr} {X : List ck_N} (hd : decode M.2.1 pc = .ok (i, 1)) (h : ck_s4 tab lw wr i pc A st T ce sl = some X)
    (k : ∀ x ∈ X, ck_W p l e R s m args below meth c Q D AC S tab L M.2.2.1 ρ0 wr G0 N0 H0 x.1 x.2.1 x.2.2.1 x.2.2.2) : ck_W p l e R s m args below meth c Q D AC S tab L M.2.2.1 ρ0 wr G0 N0 H0 pc (A, st, T) ce sl := by
  have hy' := hy
  obtain ⟨⟨hexec, hb, hml, hret, hlk, hown, hhd, hnm⟩, htr, -, ⟨nS, hn1, hn2, hKf⟩, -⟩ := hy
  unfold ck_s4 at h
  split at h
  · split at h
    · rename_i v hv
      cases h
      exact cw_as hexec hb hKf hd hv (k _ (List.mem_singleton.mpr rfl))
    · exact cw_s5 hy' hlw hd h k
  · exact cw_s5 hy' hlw hd h k
theorem cw_s3 (hy : ck_Hy p l e R s m meth c M K E ms cts tab nb D AC S L cod) {lw : Bool} (hlw : lw = true → ρ0 149 = (S 3 : Int)) {i : Instr} {X : List ck_N} (hd : decode M.2.1 pc = .ok (i, 1)) (h : ck_s3 tab lw wr i pc A st T ce sl = some X)
    (k : ∀ x ∈ X, ck_W p l e R s m args below meth c Q D AC S tab L M.2.2.1 ρ0 wr G0 N0 H0 x.1 x.2.1 x.2.2.1 x.2.2.2) : ck_W p l e R s m args below meth c Q D AC S tab L M.2.2.1 ρ0 wr G0 N0 H0 pc (A, st, T) ce sl := by
  have hy' := hy
  obtain ⟨⟨hexec, hb, hml, hret, hlk, hown, hhd, hnm⟩, htr, -, ⟨nS, hn1, hn2, hKf⟩, -⟩ := hy
  unfold ck_s3 at h
  split at h
  · split at h
    · rename_i v hv
      cases h
      exact cw_bin hexec hb hd hv (k _ (List.mem_singleton.mpr rfl))
    · exact cw_s4 hy' hlw hd h k
  · split at h
    · rename_i v hv
      cases h
      exact cw_jb hexec hb hd hv (k _ (List.mem_singleton.mpr rfl))
    · exact cw_s4 hy' hlw hd h k
  · split at h
    · rename_i v hv
      cases h
      exact cw_js hexec hb hd hv (k _ (List.mem_singleton.mpr rfl))
    · exact cw_s4 hy' hlw hd h k
  · exact cw_s4 hy' hlw hd h k
theorem cw_s2x (hy : ck_Hy p l e R s m meth c M K E ms cts tab nb D AC S L cod) {lw : Bool} (hlw : lw = true → ρ0 149 = (S 3 : Int)) {i : Instr} {n : Nat} {X : List ck_N} (hd : decode M.2.1 pc = .ok (i, n)) (h : ck_s2x E tab lw M wr i n pc A st T ce sl = some X)
    (k : ∀ x ∈ X, ck_W p l e R s m args below meth c Q D AC S tab L M.2.2.1 ρ0 wr G0 N0 H0 x.1 x.2.1 x.2.2.1 x.2.2.2) : ck_W p l e R s m args below meth c Q D AC S tab L M.2.2.1 ρ0 wr G0 N0 H0 pc (A, st, T) ce sl := by
  have hy' := hy
  obtain ⟨⟨hexec, hb, hml, hret, hlk, hown, hhd, hnm⟩, htr, -, ⟨nS, hn1, hn2, hKf⟩, hE, hEM, -⟩ := hy
  have hts : ∀ w ∈ ck_tb, w.before args s = true := hKf.ts
  rw [← hEM] at hown
  unfold ck_s2x at h
  split at h
  · rename_i v hv
    cases h
    exact cw_psh hexec hb hown (fun q hq => by obtain ⟨v, v1, v2⟩ := hE.2.1 q hq; exact ⟨v, v1, hts _ v2⟩) (fun q hq => by obtain ⟨v, v1, v2⟩ := hE.2.2.1 q hq; exact ⟨v, v1, hts _ v2⟩) hd hv (k _ (List.mem_singleton.mpr rfl))
  · split at h
    · cases h
    · split at h
      · rename_i A' hA
        cases h
        exact cw_sto hexec hb hd hA (cw_tgS (k _ (List.mem_singleton.mpr rfl)))
      · split at h
        · rename_i hn
          subst hn
          split at h
          · rename_i st' hst
            cases h
            exact cw_stks hexec hb hd hst (k _ (List.mem_singleton.mpr rfl))
          · exact cw_s3 hy' hlw hd h k
        · cases h
theorem cw_gp (hy : ck_Hy p l e R s m meth c M K E ms cts tab nb D AC S L cod) {i : Instr} {n : Nat} {B : ck_A} {X : List ck_N} (hd : decode M.2.1 pc = .ok (i, n)) (h : ck_gp E tab nb M wr i n pc B ce sl = some X)
    (k : ∀ x ∈ X, ck_W p l e R s m args below meth c Q D AC S tab L M.2.2.1 ρ0 wr G0 N0 H0 x.1 x.2.1 x.2.2.1 x.2.2.2) : ck_W p l e R s m args below meth c Q D AC S tab L M.2.2.1 ρ0 wr G0 N0 H0 pc B ce sl := by
  obtain ⟨⟨hexec, hb, hml, hret, hlk, hown, hhd, hnm⟩, htr, -, ⟨nS, hn1, hn2, hKf⟩, hE, hEM, -⟩ := hy
  have hts : ∀ w ∈ ck_tb, w.before args s = true := hKf.ts
  rw [← hEM] at hown
  unfold ck_gp at h
  split at h
  · split at h
    · rename_i hn
      subst hn
      split at h
      · rename_i v hv
        cases h
        exact cw_gf hexec hb hown hKf.1 hts hE.1 hd hv (k _ (List.mem_singleton.mpr rfl))
      · cases h
    · cases h
  · split at h
    · rename_i hn
      subst hn
      split at h
      · rename_i v hv
        cases h
        exact cw_pf hexec hb hown hKf.1 hts hnm hE.1 hd hv (k _ (List.mem_singleton.mpr rfl))
      · cases h
    · cases h
  · split at h
    · rename_i hn
      subst hn
      split at h
      · rename_i v hv
        cases h
        exact cw_len hexec hb hKf hn1 hn2 hd hv (k _ (List.mem_singleton.mpr rfl))
      · cases h
    · cases h
  · split at h
    · rename_i hn
      subst hn
      cases h
      exact cw_lcmp hexec hb hd (k _ (List.mem_singleton.mpr rfl))
    · cases h
  · cases h
theorem cw_step (hy : ck_Hy p l e R s m meth c M K E ms cts tab nb D AC S L cod) (hnp : N0.length = K.2.1.length) {lw : Bool} (hlw : lw = true → ρ0 149 = (S 3 : Int)) (hQ : ∀ a ∈ al, ∀ t, ck_Fin D AC S tab L ρ0 wr G0 N0 (ck_alt K a) below s t → Q t) {x : ck_N} {X : List ck_N} (h : ck_step E tab nb lw ms cts nt cod M K al wr x = some X)
    (k : ∀ x ∈ X, ck_W p l e R s m args below meth c Q D AC S tab L M.2.2.1 ρ0 wr G0 N0 s.heap x.1 x.2.1 x.2.2.1 x.2.2.2) : ck_W p l e R s m args below meth c Q D AC S tab L M.2.2.1 ρ0 wr G0 N0 s.heap x.1 x.2.1 x.2.2.1 x.2.2.2 := by
  have hcod := hy.2.2.2.2.2.2.2.2.2
  unfold ck_step at h
  split at h
  · cases h
  · rename_i i n hi
    have hd := hcod _ _ _ hi
    split at h
    · exact cw_s2x hy hlw hd h k
    · exact cw_br hy hd h k
    · split at h
      · rename_i hr
        exact cw_rt hy hnp hd hr hQ
      · cases h
    · exact cw_alc hy hd h k
    · unfold ck_or at h
      split at h
      · rename_i z hz
        cases h
        exact cw_alc hy hd hz k
      · exact cw_thr hy rfl hnp hd hQ h
    · unfold ck_or at h
      split at h
      · rename_i z hz
        cases h
        exact cw_cpy hy rfl hd hz k
      · split at h
        · rename_i z hz
          cases h
          exact cw_obi hy rfl hd hz k
        · exact cw_cal hy rfl hnp hQ hd h k
    · exact cw_gp hy hd h k
end CKSTP
end
section
/-! ===== the checker: what is done between instructions ===== -/
def ck_tagK (T : List ck_C) (i k g : Nat) : Option (List ck_C) := match T[i]? with
  | some (h, fs) => (match fs[k]? with
    | some (.inl (lo, hi, _)) => if h.1 = 0 ∨ h.1 = 1 ∨ h.1 = 5 ∨ (h.1 = 3 ∨ 7 ≤ h.1) then some (T.set i (h, fs.set k (.inl (lo, hi, some (g, 0))))) else none
    | _ => none)
  | none => none
/-- a ghost is given up -/
def ck_ung (g : Nat) : ck_V → ck_V
  | .inl (lo, hi, some (h, c)) => if h = g then .inl (lo, hi, none) else .inl (lo, hi, some (h, c))
  | x => x
def ck_ungA (g : Nat) (B : ck_A) : ck_A := (B.1.map (fun q => (q.1, ck_ung g q.2)), B.2.1.map (ck_ung g), B.2.2.map (fun c => (c.1, c.2.map (ck_ung g))))
/-- where the named places of an array begin -/
def ck_base (B : ck_A) (l : List (Nat × Nat)) : Option Nat := match l with
  | [(_, mult), (off, sk), (sa, sb)] => (match sk with
    | 0 => some off
    | 1 => (match ck_loc B.1 sa with
      | some (.inl q) => (match ck_one q with
        | some x => some (mult * x + off)
        | none => none)
      | _ => none)
    | _ => (match B.2.2[sa]? with
      | some (_, fs) => (match fs[sb]? with
        | some (.inl q) => (match ck_one q with
          | some x => some (mult * x + off)
          | none => none)
        | _ => none)
      | none => none))
  | _ => none
def ck_cnt (l : List (Nat × Nat)) : Nat := match l with
  | (n, _) :: _ => n
  | [] => 0
/-- the cells behind the first n are named no more -/
def ck_drp (n : Nat) (B : ck_A) : ck_A := (B.1.map (fun q => (q.1, ck_unf B.2.2 q.2)), B.2.1.map (ck_unf B.2.2), (B.2.2.map (fun c => (c.1, c.2.map (ck_unf B.2.2)))).take n)
def ck_drok (n : Nat) (B : ck_A) : Bool := B.1.all (fun q => ck_nrf n q.2) && B.2.1.all (ck_nrf n) && B.2.2.all (fun c => c.2.all (ck_nrf n))
abbrev ck_O : Type := Nat × Nat × Nat × Int × List (Nat × Nat)
def ck_op1 (tab : List ck_D) (np : Nat) (o : ck_O) (B : ck_A) : Option (List ck_A) := match o.1 with
  | 0 => (match B.2.2[o.2.1]? with
    | some d => if ck_fitsT tab o.2.1 o.2.2.1 d = true ∧ o.2.2.1 ≠ 0 ∧ np ≤ o.2.1 then some [ck_clo o.2.1 o.2.2.1 B] else none
    | none => none)
  | 1 => (match ck_loc B.1 o.2.1 with
    | some (.inr (.inr (2, τ))) => (match tab[τ]? with
      | some (.inr (_, ks)) => if ks.all ck_plain = true then some [(ck_setl B.1 o.2.1 (.inr (.inr (1, B.2.2.length))), B.2.1, B.2.2 ++ [((3, τ), ks)])] else none
      | _ => none)
    | _ => none)
  | 2 => (match B.2.2[o.2.1]? with
    | some (h, fs) => (match fs[o.2.2.1]? with
      | some (.inl q) => if q.1 ≤ o.2.2.2.1 ∧ o.2.2.2.1 < q.2.1 then some [(B.1, B.2.1, B.2.2.set o.2.1 (h, fs.set o.2.2.1 (.inl (q.1, o.2.2.2.1, q.2.2)))), (B.1, B.2.1, B.2.2.set o.2.1 (h, fs.set o.2.2.1 (.inl (o.2.2.2.1 + 1, q.2.1, q.2.2))))] else some [B]
      | _ => some [B])
    | none => some [B])
  | 3 => (match ck_loc B.1 o.2.1 with
    | some (.inl q) => if q.1 ≤ o.2.2.2.1 ∧ o.2.2.2.1 < q.2.1 then some [(ck_setl B.1 o.2.1 (.inl (q.1, o.2.2.2.1, q.2.2)), B.2.1, B.2.2), (ck_setl B.1 o.2.1 (.inl (o.2.2.2.1 + 1, q.2.1, q.2.2)), B.2.1, B.2.2)] else some [B]
    | _ => none)
  | 4 => if ck_ugA o.2.2.2.1.toNat (ck_ungA o.2.2.2.1.toNat B) = false ∧ 200 ≤ o.2.2.2.1.toNat then (match ck_tagK (ck_ungA o.2.2.2.1.toNat B).2.2 o.2.1 o.2.2.1 o.2.2.2.1.toNat with
    | some T' => some [((ck_ungA o.2.2.2.1.toNat B).1, (ck_ungA o.2.2.2.1.toNat B).2.1, T')]
    | none => none) else none
  | 6 => (match B.2.1[o.2.1]? with
    | some (.inr (.inr (1, i))) => (match B.2.2[i]? with
      | some d => if ck_fitsT tab i o.2.2.1 d = true ∧ o.2.2.1 ≠ 0 ∧ np ≤ i then some [ck_clo i o.2.2.1 B] else none
      | none => none)
    | _ => none)
  | 7 => if ck_drok o.2.1 (ck_drp o.2.1 B) = true ∧ np ≤ o.2.1 ∧ o.2.1 ≤ B.2.2.length then some [ck_drp o.2.1 B] else none
  | 8 => (match ck_base B o.2.2.2.2 with
    | some b => (match B.2.2[o.2.1]? with
      | some (h, fs) => (match fs[o.2.2.1]? with
        | some (.inr (.inr (2, τ))) => (match tab[τ]? with
          | some (.inl (_, nn, sg)) => if (h.1 = 0 ∨ h.1 = 3) ∧ b + ck_cnt o.2.2.2.2 ≤ nn ∧ (List.range (ck_cnt o.2.2.2.2)).all (fun j => ck_plain (ck_kat sg (b + j))) = true then some [(B.1, B.2.1, B.2.2.set o.2.1 (h, fs.set o.2.2.1 (.inr (.inr (1, B.2.2.length)))) ++ [((b + 7, τ), (List.range (ck_cnt o.2.2.2.2)).map (fun j => ck_kat sg (b + j)))])] else some [B]
          | _ => none)
        | _ => none)
      | none => none)
    | none => some [B])
  | _ => none
def ck_alT {α : Type} (p : α → Bool) : List α → Bool
  | [] => true
  | [y] => p y
  | y :: z :: t => (match p y with
    | true => ck_alT p (z :: t)
    | false => false)
theorem ck_alT_ok {α : Type} {p : α → Bool} : ∀ {X : List α}, ck_alT p X = true → ∀ y ∈ X, p y = true
  | [], _, y, hy => by cases hy
  | [x], h, y, hy => by
    rw [List.mem_singleton] at hy
    rw [hy]
    exact h
  | x :: z :: t, h, y, hy => by
    unfold ck_alT at h
    split at h
    · rename_i hx
      rcases List.mem_cons.mp hy with rfl | hy
      · exact hx
      · exact ck_alT_ok h y hy
    · cases h
def ck_opsK (tab : List ck_D) (np : Nat) (k : ck_A → Bool) : List ck_O → ck_A → Bool
  | [], B => k B
  | o :: t, B => (match ck_op1 tab np o B with
    | some Bs => ck_alT (ck_opsK tab np k t) Bs
    | none => false)
section CKOP
variable {p : Program} {l : Launch} {e : Env} {R : Room} {s : State} {m : MethodId} {args : Array Value} {below : List Frame} {meth : Method} {c : Code} {ce sl : Nat} {Q : State → Prop}
variable {pc nL : Nat} {nb : Nat × Nat} {al : List (List ck_C × (Option ck_V ⊕ Nat))} {D : va_G} {AC : Nat → ClassId} {S : Nat → Nat} {tab : List ck_D} {L : Heap} {ρ0 : Nat → Int} {wr : List Nat} {G0 : Nat → Nat} {N0 : List Nat} {H0 : Heap}
variable {A : List (Nat × ck_V)} {st : List ck_V} {T : List ck_C}
theorem ck_ung_ok {g : Nat} {ρ : Nat → Int} {G : Nat → Nat} {N : List Nat} {k : ck_V} {v : Value} (h : ck_R S ρ G N k v) : ck_R S ρ G N (ck_ung g k) v := by
  match k, h with
  | .inl (lo, hi, none), h => exact h
  | .inl (lo, hi, some (h', c)), h =>
    show ck_R S ρ G N (if h' = g then .inl (lo, hi, none) else .inl (lo, hi, some (h', c))) v
    split
    · exact ck_R.strip h
    · exact h
  | .inr z, h => exact h
theorem cw_ungA {g : Nat} {B : ck_A} (kk : ck_W p l e R s m args below meth c Q D AC S tab L nL ρ0 wr G0 N0 H0 pc (ck_ungA g B) ce sl) : ck_W p l e R s m args below meth c Q D AC S tab L nL ρ0 wr G0 N0 H0 pc B ce sl := by
  intro H ls vs locs h
  obtain ⟨ρ, G, N, lv, h1, h2, h3, h4, h5, h6, h7⟩ := h
  exact kk H ls vs locs ⟨ρ, G, N, lv, h1, h2.map _ (fun q w hw => ⟨hw.1, ck_ung_ok hw.2⟩), h3.map _ (fun k v hv => ck_ung_ok hv), h4.mapV (ρ' := ρ) (ck_ung g) (fun k v hv => ck_ung_ok hv), h5.mapV _, h6, h7⟩
/-- a ghost for a number in a named cell -/
theorem cw_tagK {B : ck_A} {i k g : Nat} {T' : List ck_C} (hg : ck_ugA g B = false) (hr : g < 100 ∨ 200 ≤ g) (ht : ck_tagK B.2.2 i k g = some T')
    (kk : ck_W p l e R s m args below meth c Q D AC S tab L nL ρ0 wr G0 N0 H0 pc (B.1, B.2.1, T') ce sl) : ck_W p l e R s m args below meth c Q D AC S tab L nL ρ0 wr G0 N0 H0 pc B ce sl := by
  obtain ⟨A, st, T⟩ := B
  intro H ls vs locs h
  obtain ⟨ρ, G, N, lv, h1, h2, h3, h4, h5, h6, h7⟩ := h
  dsimp only at h2 h3 h4 h5 ht kk
  unfold ck_tagK at ht
  split at ht
  · rename_i hh fs hi
    split at ht
    · rename_i lo hi' tg hk
      split at ht
      · rename_i hkind
        cases ht
        have hil : i < T.length := (List.getElem?_eq_some_iff.mp hi).1
        have hkl : k < fs.length := (List.getElem?_eq_some_iff.mp hk).1
        have hNl : i < N.length := by have := h4.2.1; omega
        obtain ⟨a, ha⟩ : ∃ a, N[i]? = some a := ⟨N[i], List.getElem?_eq_getElem hNl⟩
        have htc := h4.2.2.1 i _ a hi ha
        have hval : ∃ f : Nat → Value, (∀ (j : Nat) (v : ck_V), fs[j]? = some v → ck_R S ρ G N v (f j)) ∧ ∀ (ρ' : Nat → Int) (fs' : List ck_V), fs'.length = fs.length → (∀ (j : Nat) (v : ck_V), fs'[j]? = some v → ck_R S ρ' G N v (f j)) → ck_tc D AC S tab L ρ' G N H (hh, fs') a := by
          obtain ⟨f, f1, f2⟩ := ck_vals htc hkind
          exact ⟨f, f1, fun ρ' fs' e1 e2 => f2 ρ' N (_, fs') rfl e1 e2⟩
        obtain ⟨f, f1, f2⟩ := hval
        obtain ⟨x, ex, x1, x2, -⟩ := f1 k _ hk
        unfold ck_ugA at hg
        simp only [Bool.or_eq_false_iff] at hg
        obtain ⟨⟨g1, g2⟩, g3⟩ := hg
        have hρ : ∀ h, h ≠ g → (fun h => if h = g then x.toInt else ρ h) h = ρ h := fun h hne => by simp [hne]
        have gcell : ∀ (d : ck_C), d ∈ T → ∀ v ∈ d.2, ck_ug g v = false := fun d hd v hv => by
          have h9 : ¬ (d.2.any (ck_ug g) = true) := List.any_eq_false.mp g3 d hd
          have h8 : d.2.any (ck_ug g) = false := by simpa using h9
          simpa using List.any_eq_false.mp h8 v hv
        refine kk H ls vs locs ⟨fun h => if h = g then x.toInt else ρ h, G, N, lv, h1, h2.mono (fun q w hq hw => ⟨hw.1, hw.2.ghost hρ (by simpa using List.any_eq_false.mp g1 q hq)⟩), h3.mono (fun k v hk hv => hv.ghost hρ (by simpa using List.any_eq_false.mp g2 k hk)), ⟨h4.1, by simp [h4.2.1], fun j d b hj hb => ?_, fun j1 j2 d1 d2 b e1 e2 o1 o2 n1 n2 => ?_⟩, ?_, h6, fun h a1 a2 => ?_⟩
        · by_cases e : i = j
          · subst e
            rw [List.getElem?_set_self hil] at hj
            cases hj
            cases ha.symm.trans hb
            refine f2 _ _ (by simp) fun j v hv => ?_
            by_cases e : k = j
            · subst e
              rw [List.getElem?_set_self hkl] at hv
              cases hv
              refine ⟨x, ex, x1, x2, fun g' c' hg' => ?_⟩
              cases hg'
              show x.toInt = (if g = g then x.toInt else ρ g) + 0
              rw [if_pos rfl]
              omega
            · rw [List.getElem?_set_ne e] at hv
              exact (f1 j v hv).ghost hρ (gcell _ (List.mem_of_getElem? hi) v (List.mem_of_getElem? hv))
          · rw [List.getElem?_set_ne e] at hj
            have := (h4.2.2.1 j d b hj hb).mapV (ρ' := fun h => if h = g then x.toInt else ρ h) (G' := G) (N' := N) id (fun _ => rfl) (fun _ => rfl) (fun k v hk hv => hv.ghost hρ (gcell d (List.mem_of_getElem? hj) k hk))
            simpa using this
        · obtain ⟨c1, y1, z1⟩ := ck_set_own (c := (hh, fs.set k (.inl (lo, hi', some (g, 0))))) ⟨_, hi, fun o => o⟩ j1 d1 e1 o1
          obtain ⟨c2, y2, z2⟩ := ck_set_own (c := (hh, fs.set k (.inl (lo, hi', some (g, 0))))) ⟨_, hi, fun o => o⟩ j2 d2 e2 o2
          exact h4.2.2.2 j1 j2 c1 c2 b y1 y2 z1 z2 n1 n2
        · obtain ⟨f1, f2, f3, f4, f5, f6⟩ := h5
          refine ⟨f1, f2, f3, f4, f5, fun j d b hd hb ho hn => ?_⟩
          obtain ⟨d', e1, e2⟩ := ck_set_own (c := (hh, fs.set k (.inl (lo, hi', some (g, 0))))) ⟨_, hi, fun o => o⟩ j d hd ho
          exact f6 j d' b e1 hb e2 hn
        · show (if h = g then x.toInt else ρ h) = ρ0 h
          rw [if_neg (by omega)]
          exact h7 h a1 a2
      · cases ht
    · cases ht
  · cases ht
/-- a local number is cut in two -/
theorem cw_splitL {k : Nat} {q : ck_Q} (x : Int) (hk : ck_loc A k = some (.inl q))
    (k1 : ck_W p l e R s m args below meth c Q D AC S tab L nL ρ0 wr G0 N0 H0 pc (ck_setl A k (.inl (q.1, x, q.2.2)), st, T) ce sl)
    (k2 : ck_W p l e R s m args below meth c Q D AC S tab L nL ρ0 wr G0 N0 H0 pc (ck_setl A k (.inl (x + 1, q.2.1, q.2.2)), st, T) ce sl) : ck_W p l e R s m args below meth c Q D AC S tab L nL ρ0 wr G0 N0 H0 pc (A, st, T) ce sl := by
  intro H ls vs locs h
  obtain ⟨ρ, G, N, lv, h1, h2, h3, h4, h5, h6, h7⟩ := h
  obtain ⟨j, v, g1, ⟨y, rfl, y1, y2, y3⟩⟩ := ck_loc_ok h2 hk
  have hls : ls[k]? = some (.val (.int y)) := lv_at h1 j g1
  have go : ∀ v' : ck_V, ck_R S ρ G N v' (.int y) → ck_all (ck_RL S ρ G N) (ck_setl A k v') lv := by
    intro v' hv'
    refine ⟨by simp [ck_setl, h2.1], fun i q w hq hw => ?_⟩
    simp only [ck_setl, List.getElem?_map] at hq
    obtain ⟨q0, hq0, rfl⟩ := Option.map_eq_some_iff.mp hq
    obtain ⟨r1, r2⟩ := h2.2 i q0 w hq0 hw
    split
    · rename_i he
      have he : q0.1 = k := by simpa using he
      refine ⟨r1, ?_⟩
      have hsl : ls[w.1]? = some (.val w.2) := h1.2.2 w (List.mem_of_getElem? hw)
      rw [← r1, he, hls] at hsl
      have hval : Value.int y = w.2 := by simpa using hsl
      dsimp only
      rw [← hval]
      exact hv'
    · exact ⟨r1, r2⟩
  by_cases hx : y.toInt ≤ x
  · exact k1 H ls vs locs ⟨ρ, G, N, lv, h1, go _ ⟨y, rfl, y1, hx, y3⟩, h3, h4, h5, h6, h7⟩
  · exact k2 H ls vs locs ⟨ρ, G, N, lv, h1, go _ ⟨y, rfl, by dsimp only; omega, y2, y3⟩, h3, h4, h5, h6, h7⟩
/-- cells are named no more -/
theorem cw_drop {n : Nat} {B : ck_A} (hok : ck_drok n (ck_drp n B) = true) (hn : N0.length ≤ n) (hl : n ≤ B.2.2.length)
    (kk : ck_W p l e R s m args below meth c Q D AC S tab L nL ρ0 wr G0 N0 H0 pc (ck_drp n B) ce sl) : ck_W p l e R s m args below meth c Q D AC S tab L nL ρ0 wr G0 N0 H0 pc B ce sl := by
  obtain ⟨A, st, T⟩ := B
  intro H ls vs locs h
  obtain ⟨ρ, G, N, lv, h1, h2, h3, h4, h5, h6, h7⟩ := h
  dsimp only at h2 h3 h4 h5 hl
  unfold ck_drok at hok
  simp only [Bool.and_eq_true] at hok
  obtain ⟨⟨k1, k2⟩, k3⟩ := hok
  have hu : ∀ k v, ck_R S ρ G N k v → ck_R S ρ G N (ck_unf T k) v := fun k v hv => ck_unf_ok h4 hv
  have g2 : ck_all (ck_RL S ρ G N) (ck_drp n (A, st, T)).1 lv := h2.map _ (fun q w hw => ⟨hw.1, hu _ _ hw.2⟩)
  have g3 : ck_all (ck_R S ρ G N) (ck_drp n (A, st, T)).2.1 vs := h3.map _ hu
  have g4 := h4.mapV (ρ' := ρ) (ck_unf T) hu
  have g5 := h5.mapV (ck_unf T)
  have hNT : N.length = T.length := h4.2.1
  have hget : ∀ (i : Nat) (d : ck_C), (ck_drp n (A, st, T)).2.2[i]? = some d → i < n ∧ (T.map (fun c => (c.1, c.2.map (ck_unf T))))[i]? = some d := by
    intro i d hi
    have hi' : ((T.map (fun c => (c.1, c.2.map (ck_unf T)))).take n)[i]? = some d := hi
    rw [List.getElem?_take] at hi'
    split at hi'
    · rename_i hlt
      exact ⟨hlt, hi'⟩
    · cases hi'
  have hN : ∀ (i a : Nat), (N.take n)[i]? = some a → N[i]? = some a := by
    intro i a hi
    rw [List.getElem?_take] at hi
    split at hi
    · exact hi
    · cases hi
  refine kk H ls vs locs ⟨ρ, G, N.take n, lv, h1, g2.mono (fun q w hq hw => ⟨hw.1, hw.2.take (List.all_eq_true.mp k1 q hq)⟩), g3.mono (fun k v hk hv => hv.take (List.all_eq_true.mp k2 k hk)), ⟨g4.1, ?_, fun i d a hi ha => ?_, fun i j c1 c2 a e1 e2 o1 o2 n1 n2 => ?_⟩, ?_, h6, h7⟩
  · show (N.take n).length = ((T.map (fun c => (c.1, c.2.map (ck_unf T)))).take n).length
    simp [hNT]
  · obtain ⟨-, hi'⟩ := hget i d hi
    have htc := g4.2.2.1 i d a hi' (hN i a ha)
    have := htc.mapV (ρ' := ρ) (G' := G) (N' := N.take n) id (fun _ => rfl) (fun _ => rfl) (fun k v hk hv => hv.take (List.all_eq_true.mp (List.all_eq_true.mp k3 d (List.mem_of_getElem? hi)) k hk))
    simpa using this
  · exact g4.2.2.2 i j c1 c2 a (hget i c1 e1).2 (hget j c2 e2).2 o1 o2 (hN i a n1) (hN j a n2)
  · obtain ⟨f1, f2, f3, f4, f5, f6⟩ := g5
    refine ⟨f1, f2, f3, by simp; omega, fun i hi => by rw [List.getElem?_take, if_pos (by omega)]; exact f5 i hi, fun i d b hd hb ho hn' => f6 i d b (hget i d hd).2 (hN i b hb) ho hn'⟩
theorem cw_opn {np : Nat} {o : ck_O} {B : ck_A} {Bs : List ck_A} (hnp : N0.length = np) (h : ck_op1 tab np o B = some Bs)
    (k : ∀ B' ∈ Bs, ck_W p l e R s m args below meth c Q D AC S tab L nL ρ0 wr G0 N0 H0 pc B' ce sl) : ck_W p l e R s m args below meth c Q D AC S tab L nL ρ0 wr G0 N0 H0 pc B ce sl := by
  obtain ⟨A, st, T⟩ := B
  unfold ck_op1 at h
  split at h
  · split at h
    · rename_i d hd
      split at h
      · rename_i hc
        cases h
        exact cw_close hd hc.1 hc.2.1 (by omega) (k _ (List.mem_singleton.mpr rfl))
      · cases h
    · cases h
  · split at h
    · rename_i τ hk
      split at h
      · rename_i ci ks hτ
        split at h
        · rename_i hp
          cases h
          exact cw_focus hk hτ hp (k _ (List.mem_singleton.mpr rfl))
        · cases h
      · cases h
    · cases h
  · split at h
    · rename_i hh fs hi
      split at h
      · rename_i q hq
        split at h
        · cases h
          exact cw_split _ hi hq (k _ List.mem_cons_self) (k _ (List.mem_cons_of_mem _ List.mem_cons_self))
        · cases h
          exact k _ (List.mem_singleton.mpr rfl)
      · cases h
        exact k _ (List.mem_singleton.mpr rfl)
    · cases h
      exact k _ (List.mem_singleton.mpr rfl)
  · split at h
    · rename_i q hq
      split at h
      · cases h
        exact cw_splitL _ hq (k _ List.mem_cons_self) (k _ (List.mem_cons_of_mem _ List.mem_cons_self))
      · cases h
        exact k _ (List.mem_singleton.mpr rfl)
    · cases h
  · split at h
    · rename_i hc
      split at h
      · rename_i T' hT
        cases h
        exact cw_ungA (cw_tagK hc.1 (Or.inr hc.2) hT (k _ (List.mem_singleton.mpr rfl)))
      · cases h
    · cases h
  · split at h
    · rename_i i hi
      split at h
      · rename_i d hd
        split at h
        · rename_i hc
          cases h
          exact cw_close hd hc.1 hc.2.1 (by omega) (k _ (List.mem_singleton.mpr rfl))
        · cases h
      · cases h
    · cases h
  · split at h
    · rename_i hc
      cases h
      exact cw_drop hc.1 (by omega) hc.2.2 (k _ (List.mem_singleton.mpr rfl))
    · cases h
  · split at h
    · rename_i b hb
      split at h
      · rename_i hh fs hi
        split at h
        · rename_i τ hk
          split at h
          · rename_i ac nn sg hτ
            split at h
            · rename_i hc
              cases h
              exact cw_focA hi hk hc.1 hτ hc.2.1 hc.2.2 (k _ (List.mem_singleton.mpr rfl))
            · cases h
              exact k _ (List.mem_singleton.mpr rfl)
          · cases h
        · cases h
      · cases h
    · cases h
      exact k _ (List.mem_singleton.mpr rfl)
  · cases h
theorem cw_opsK {np : Nat} {kb : ck_A → Bool} (hnp : N0.length = np) (k : ∀ B', kb B' = true → ck_W p l e R s m args below meth c Q D AC S tab L nL ρ0 wr G0 N0 H0 pc B' ce sl) :
    ∀ {os : List ck_O} {B : ck_A}, ck_opsK tab np kb os B = true → ck_W p l e R s m args below meth c Q D AC S tab L nL ρ0 wr G0 N0 H0 pc B ce sl
  | [], B, h => k B h
  | o :: t, B, h => by
    unfold ck_opsK at h
    split at h
    · rename_i Bs hB
      exact cw_opn hnp hB fun B' hB' => cw_opsK hnp k (ck_alT_ok h B' hB')
    · cases h
end CKOP
end
section
/-! ===== the checker: runs from one marked place to the next; a measure falls ===== -/
def ck_lvI (ls : Array Slot) (i : Nat) : Int := match ls[i]? with
  | some (.val (.int x)) => x.toInt
  | _ => 0
abbrev ck_Ms : Type := Int × List (Nat × Int)
def ck_ev (σ : Nat → Int) (l : List (Nat × Int)) : Int := (l.map (fun q => q.2 * σ q.1)).sum
def ck_ins (g : Nat) (c : Int) : List (Nat × Int) → List (Nat × Int)
  | [] => [(g, c)]
  | (h, d) :: t => if h = g then (h, d + c) :: t else (h, d) :: ck_ins g c t
theorem ck_ins_ev (σ : Nat → Int) (g : Nat) (c : Int) : ∀ l : List (Nat × Int), ck_ev σ (ck_ins g c l) = ck_ev σ l + c * σ g
  | [] => by simp [ck_ins, ck_ev]
  | (h, d) :: t => by
    unfold ck_ins
    split
    · rename_i e
      subst e
      simp only [ck_ev, List.map_cons, List.sum_cons]
      rw [Int.add_mul]
      omega
    · have := ck_ins_ev σ g c t
      simp only [ck_ev, List.map_cons, List.sum_cons] at this ⊢
      omega
def ck_subL (l : List (Nat × Int)) : List (Nat × Int) → List (Nat × Int)
  | [] => l
  | (g, c) :: t => ck_ins g (-c) (ck_subL l t)
theorem ck_subL_ev (σ : Nat → Int) (l : List (Nat × Int)) : ∀ m : List (Nat × Int), ck_ev σ (ck_subL l m) = ck_ev σ l - ck_ev σ m
  | [] => by simp [ck_subL, ck_ev]
  | (g, c) :: t => by
    have := ck_subL_ev σ l t
    unfold ck_subL
    rw [ck_ins_ev, this]
    simp only [ck_ev, List.map_cons, List.sum_cons]
    rw [Int.neg_mul]
    omega
def ck_mx (c lo hi : Int) : Int := ck_max (c * lo) (c * hi)
theorem ck_mx_ok {c lo hi x : Int} (h1 : lo ≤ x) (h2 : x ≤ hi) : c * x ≤ ck_mx c lo hi := by
  have := (ck_lin c h1 h2).2
  unfold ck_mx
  rw [Int.mul_comm c lo, Int.mul_comm c hi, Int.mul_comm c x]
  exact this
theorem ck_mn_ok {c lo hi x : Int} (h1 : lo ≤ x) (h2 : x ≤ hi) : ck_min (c * lo) (c * hi) ≤ c * x := by
  have := (ck_lin c h1 h2).1
  rw [Int.mul_comm c lo, Int.mul_comm c hi, Int.mul_comm c x]
  exact this
def ck_lb (A : List (Nat × ck_V)) : List (Nat × Int) → Option Int
  | [] => some 0
  | (i, c) :: t => (match ck_loc A i, ck_lb A t with
    | some (.inl (lo, hi, _)), some k => some (k + ck_min (c * lo) (c * hi))
    | _, _ => none)
def ck_eb (A : List (Nat × ck_V)) : List (Nat × Int) → Option (Int × List (Nat × Int))
  | [] => some (0, [])
  | (i, c) :: t => (match ck_loc A i, ck_eb A t with
    | some (.inl (_, _, some (g, d))), some (k, l) => if 150 ≤ g ∧ g < 200 then some (k + c * d, ck_ins (g - 150) c l) else none
    | some (.inl (lo, hi, none)), some (k, l) => some (k + ck_mx c lo hi, l)
    | _, _ => none)
def ck_ub (A : List (Nat × ck_V)) : List (Nat × Int) → Option Int
  | [] => some 0
  | (g, c) :: t => (match ck_ub A t with
    | some k => if c = 0 then some k else (match ck_loc A g with
      | some (.inl (lo, hi, _)) => some (k + ck_mx c lo hi)
      | _ => none)
    | none => none)
def ck_dec (m0 : ck_Ms) (A0 : List (Nat × ck_V)) (m1 : ck_Ms) (A1 : List (Nat × ck_V)) : Bool := match ck_eb A1 m1.2 with
  | some (k, l) => (match ck_ub A0 (ck_subL l m0.2) with
    | some u => decide (m1.1 + k + u < m0.1)
    | none => false)
  | none => false
abbrev ck_An : Type := ck_A × ck_Ms × Nat × Nat
def ck_leA (B B' : ck_A) : Bool := B'.1.all (fun q => match ck_loc B.1 q.1 with
    | some v => ck_le v q.2
    | none => false) && B.2.1.length == B'.2.1.length && (B.2.1.zip B'.2.1).all (fun q => ck_le q.1 q.2) && ck_leT B.2.2 B'.2.2
/-- coming to a marked place -/
def ck_arr (z : Option (ck_Ms × List (Nat × ck_V))) (a : ck_An) (y : ck_N) : Bool := decide (y.2.2.1 ≤ a.2.2.1) && decide (y.2.2.2 ≤ a.2.2.2) && ck_leA y.2.1 a.1 && (match ck_lb y.2.1.1 a.2.1.2 with
    | some k => decide (0 ≤ a.2.1.1 + k)
    | none => false) && (match z with
    | none => true
    | some (m0, A0) => ck_dec m0 A0 a.2.1 y.2.1.1)
def ck_oz (ops : List (Nat × List ck_O)) (pc : Nat) : List ck_O := match ck_lk ops pc with
  | some l => l
  | none => []
def ck_ex (E : ck_E) (tab : List ck_D) (nb : Nat × Nat) (lw : Bool) (ms : List ck_MM) (cts : List (Nat × ck_Kt)) (nt : List (Nat × Nat × Nat)) (cod : List (List (Nat × Instr × Nat))) (M : ck_M) (K : ck_Ct) (al : List (List ck_C × (Option ck_V ⊕ Nat))) (wr : List Nat) (ops : List (Nat × List ck_O)) (ann : List (Nat × ck_An)) (z : Option (ck_Ms × List (Nat × ck_V))) : Nat → ck_N → Bool
  | 0, _ => false
  | f + 1, x => ck_opsK tab K.2.1.length (fun B => match ck_step E tab nb lw ms cts nt cod M K al wr (x.1, B, x.2.2) with
    | some X => ck_alT (fun y => match ck_lk ann y.1 with
      | some _ => ann.any (fun a => a.1 == y.1 && ck_arr z a.2 y)
      | none => ck_ex E tab nb lw ms cts nt cod M K al wr ops ann z f y) X
    | none => false) (ck_oz ops x.1) x.2.1
section CKEX
variable {p : Program} {l : Launch} {e : Env} {R : Room} {s : State} {m : MethodId} {args : Array Value} {below : List Frame} {meth : Method} {c : Code} {ce sl : Nat} {Q : State → Prop}
variable {pc : Nat} {nb : Nat × Nat} {al : List (List ck_C × (Option ck_V ⊕ Nat))} {D : va_G} {AC : Nat → ClassId} {S : Nat → Nat} {tab : List ck_D} {L : Heap} {ρ0 : Nat → Int} {wr : List Nat} {G0 : Nat → Nat} {N0 : List Nat} {H0 : Heap}
variable {A : List (Nat × ck_V)} {st : List ck_V} {T : List ck_C} {M : ck_M} {K : ck_Ct} {E : ck_E} {ms : List ck_MM} {cts : List (Nat × ck_Kt)} {cod : List (List (Nat × Instr × Nat))} {nt : List (Nat × Nat × Nat)}
theorem cw_ex (hy : ck_Hy p l e R s m meth c M K E ms cts tab nb D AC S L cod) (hQ : ∀ a ∈ al, ∀ t, ck_Fin D AC S tab L ρ0 wr G0 N0 (ck_alt K a) below s t → Q t) (hnp : N0.length = K.2.1.length) {lw : Bool} (hlw : lw = true → ρ0 149 = (S 3 : Int)) {ops : List (Nat × List ck_O)} {ann : List (Nat × ck_An)} {z : Option (ck_Ms × List (Nat × ck_V))}
    (ha : ∀ (y : ck_N) (a : ck_An), (y.1, a) ∈ ann → ck_arr z a y = true → ck_W p l e R s m args below meth c Q D AC S tab L M.2.2.1 ρ0 wr G0 N0 s.heap y.1 y.2.1 y.2.2.1 y.2.2.2) :
    ∀ (f : Nat) (x : ck_N), ck_ex E tab nb lw ms cts nt cod M K al wr ops ann z f x = true → ck_W p l e R s m args below meth c Q D AC S tab L M.2.2.1 ρ0 wr G0 N0 s.heap x.1 x.2.1 x.2.2.1 x.2.2.2
  | 0, _, h => by cases h
  | f + 1, x, h => by
    unfold ck_ex at h
    refine cw_opsK hnp (fun B hB => ?_) h
    split at hB
    · rename_i X hX
      refine cw_step (x := (x.1, B, x.2.2)) hy hnp hlw hQ hX fun y hyX => ?_
      have := ck_alT_ok hB y hyX
      split at this
      · obtain ⟨a, ham, hab⟩ := List.any_eq_true.mp this
        simp only [Bool.and_eq_true, beq_iff_eq] at hab
        exact ha y a.2 (by rw [← hab.1]; exact ham) hab.2
      · exact cw_ex hy hQ hnp hlw ha f y this
    · cases hB
theorem ck_loc_int {ρ : Nat → Int} {G : Nat → Nat} {N : List Nat} {nL : Nat} {ls : Array Slot} {lv : List (Nat × Value)} (h1 : lv_has ls nL lv) (h2 : ck_all (ck_RL S ρ G N) A lv) {i : Nat} {q : ck_Q} (h : ck_loc A i = some (.inl q)) : q.1 ≤ ck_lvI ls i ∧ ck_lvI ls i ≤ q.2.1 ∧ ∀ g c, q.2.2 = some (g, c) → ck_lvI ls i = ρ g + c := by
  obtain ⟨j, v, g1, ⟨x, rfl, gx⟩⟩ := ck_loc_ok h2 h
  have hls : ls[i]? = some (.val (.int x)) := lv_at h1 j g1
  have e : ck_lvI ls i = x.toInt := by
    unfold ck_lvI
    rw [hls]
  rw [e]
  exact gx
theorem ck_lb_ok {ρ : Nat → Int} {G : Nat → Nat} {N : List Nat} {nL : Nat} {ls : Array Slot} {lv : List (Nat × Value)} (h1 : lv_has ls nL lv) (h2 : ck_all (ck_RL S ρ G N) A lv) : ∀ {t : List (Nat × Int)} {k : Int}, ck_lb A t = some k → k ≤ ck_ev (ck_lvI ls) t
  | [], k, h => by cases h; exact Int.le_refl _
  | (i, c) :: t, k, h => by
    unfold ck_lb at h
    split at h
    · rename_i lo hi tg k' hl hk
      cases h
      have := ck_lb_ok h1 h2 hk
      obtain ⟨a1, a2, -⟩ := ck_loc_int h1 h2 hl
      have := ck_mn_ok (c := c) a1 a2
      simp only [ck_ev, List.map_cons, List.sum_cons] at *
      omega
    · cases h
theorem ck_eb_ok {σ : Nat → Int} {ρ : Nat → Int} {G : Nat → Nat} {N : List Nat} {nL : Nat} {ls : Array Slot} {lv : List (Nat × Value)} (hσ : ∀ g, 150 ≤ g → g < 200 → ρ g = σ (g - 150)) (h1 : lv_has ls nL lv) (h2 : ck_all (ck_RL S ρ G N) A lv) : ∀ {t : List (Nat × Int)} {k : Int} {l : List (Nat × Int)}, ck_eb A t = some (k, l) → ck_ev (ck_lvI ls) t ≤ k + ck_ev σ l
  | [], k, l, h => by cases h; simp [ck_ev]
  | (i, c) :: t, k, l, h => by
    unfold ck_eb at h
    split at h
    · rename_i lo hi g d k' l' hl hk
      split at h
      · rename_i hg
        cases h
        have ih := ck_eb_ok hσ h1 h2 hk
        obtain ⟨-, -, a3⟩ := ck_loc_int h1 h2 hl
        have a4 := a3 g d rfl
        rw [hσ g hg.1 hg.2] at a4
        rw [ck_ins_ev]
        simp only [ck_ev, List.map_cons, List.sum_cons] at ih ⊢
        rw [a4, Int.mul_add]
        omega
      · cases h
    · rename_i lo hi k' l' hl hk
      cases h
      have ih := ck_eb_ok hσ h1 h2 hk
      obtain ⟨a1, a2, -⟩ := ck_loc_int h1 h2 hl
      have := ck_mx_ok (c := c) a1 a2
      dsimp only at this
      simp only [ck_ev, List.map_cons, List.sum_cons] at ih ⊢
      omega
    · cases h
theorem ck_ub_ok {σ : Nat → Int} (hσ : ∀ (i : Nat) (q : ck_Q), ck_loc A i = some (.inl q) → q.1 ≤ σ i ∧ σ i ≤ q.2.1) : ∀ {t : List (Nat × Int)} {k : Int}, ck_ub A t = some k → ck_ev σ t ≤ k
  | [], k, h => by cases h; exact Int.le_refl _
  | (g, c) :: t, k, h => by
    unfold ck_ub at h
    split at h
    · rename_i k' hk
      have ih := ck_ub_ok hσ hk
      split at h
      · rename_i hc
        cases h
        simp only [ck_ev, List.map_cons, List.sum_cons] at ih ⊢
        rw [hc, Int.zero_mul]
        omega
      · split at h
        · rename_i lo hi tg hl
          cases h
          obtain ⟨a1, a2⟩ := hσ g _ hl
          have := ck_mx_ok (c := c) a1 a2
          simp only [ck_ev, List.map_cons, List.sum_cons] at ih ⊢
          dsimp only at this
          omega
        · cases h
    · cases h
def ck_me (a : ck_Ms) (ls : Array Slot) : Int := a.1 + ck_ev (ck_lvI ls) a.2
/-- what is described by one state is by a wider one -/
theorem ck_st.le {ρ1 : Nat → Int} {B B' : ck_A} {nL : Nat} {H : Heap} {ls : Array Slot} {vs : List Value} {locs : List Loc} (hl : ck_leA B B' = true) (h : ck_st D AC S tab L nL ρ1 wr G0 N0 H0 B H ls vs locs) : ck_st D AC S tab L nL ρ1 wr G0 N0 H0 B' H ls vs locs := by
  obtain ⟨ρ, G, N, lv, h1, h2, h3, h4, h5, h6, h7⟩ := h
  unfold ck_leA at hl
  simp only [Bool.and_eq_true, beq_iff_eq] at hl
  obtain ⟨⟨⟨l1, l2⟩, l3⟩, l4⟩ := hl
  have key : ∀ A' : List (Nat × ck_V), A'.all (fun q => match ck_loc B.1 q.1 with
    | some v => ck_le v q.2
    | none => false) = true → ∃ lv', lv_has ls nL lv' ∧ ck_all (ck_RL S ρ G N) A' lv' := by
    intro A'
    induction A' with
    | nil => exact fun _ => ⟨[], ⟨h1.1, h1.2.1, fun q hq => by cases hq⟩, ck_all.nil⟩
    | cons q t ih =>
      intro hall
      rw [List.all_cons, Bool.and_eq_true] at hall
      obtain ⟨lv', i1, i2⟩ := ih hall.2
      have hq := hall.1
      split at hq
      · rename_i v hv
        obtain ⟨j, w, g1, g2⟩ := ck_loc_ok h2 hv
        have hls : ls[q.1]? = some (.val w) := lv_at h1 j g1
        refine ⟨(q.1, w) :: lv', ⟨h1.1, h1.2.1, fun r hr => ?_⟩, ck_all.cons ⟨rfl, g2.le hq⟩ i2⟩
        rcases List.mem_cons.mp hr with rfl | hr
        · exact hls
        · exact i1.2.2 r hr
      · cases hq
  obtain ⟨lv', i1, i2⟩ := key B'.1 l1
  refine ⟨ρ, G, N, lv', i1, i2, ⟨by rw [← l2]; exact h3.1, fun i k v hk hv => ?_⟩, h4.leT l4, h5.leT l4, h6, h7⟩
  have hil : i < B.2.1.length := by rw [l2]; exact (List.getElem?_eq_some_iff.mp hk).1
  have hk0 : B.2.1[i]? = some B.2.1[i] := List.getElem?_eq_getElem hil
  have hz : (B.2.1[i], k) ∈ B.2.1.zip B'.2.1 := List.mem_of_getElem? (i := i) (by rw [List.getElem?_zip_eq_some]; exact ⟨hk0, hk⟩)
  exact (h3.2 i _ v hk0 hv).le (List.all_eq_true.mp l3 _ hz)
end CKEX
end
section
/-! ===== the checker: a whole method ===== -/
def ck_ngv : ck_V → Bool
  | .inl (_, _, some (g, _)) => !(decide (150 ≤ g) && decide (g < 200))
  | _ => true
def ck_ngA (B : ck_A) : Bool := B.1.all (fun q => ck_ngv q.2) && B.2.1.all ck_ngv && B.2.2.all (fun c => c.2.all ck_ngv)
def ck_tgM (A : List (Nat × ck_V)) : List (Nat × ck_V) := A.map (fun q => (q.1, match q.2 with
  | .inl (lo, hi, none) => if q.1 < 50 then .inl (lo, hi, some (150 + q.1, 0)) else .inl (lo, hi, none)
  | x => x))
def ck_sg (ρ : Nat → Int) (ls : Array Slot) (g : Nat) : Int := if 150 ≤ g ∧ g < 200 then ck_lvI ls (g - 150) else ρ g
def ck_resg1 (K : ck_Ct) : Bool := K.2.2.1.all (fun c => c.2.all ck_ngv) && (match K.2.2.2.1 with
  | .inl (some k) => ck_ngv k
  | _ => true)
def ck_resg (X : ck_Kt) : Bool := X.2.1.all (fun a => ck_resg1 (ck_alt X.1 a))
def ck_meth (E : ck_E) (tab : List ck_D) (nb : Nat × Nat) (lw : Bool) (ms : List ck_MM) (cts : List (Nat × ck_Kt)) (nt : List (Nat × Nat × Nat)) (cod : List (List (Nat × Instr × Nat))) (M : ck_M) (X : ck_Kt) (ops : List (Nat × List ck_O)) (ann : List (Nat × ck_An)) (f : Nat) : Bool :=
  ck_resg X && X.1.1.all ck_kn && decide (ck_words X.1.1 ≤ M.2.2.1) && ck_ngA (ck_largs 0 X.1.1, [], ck_etag X.1.2.1) &&
  ck_ex E tab nb lw ms cts nt cod M X.1 X.2.1 X.2.2 ops ann none f (0, (ck_tgM (ck_largs 0 X.1.1), [], ck_etag X.1.2.1), 0, 0) &&
  ann.all (fun a => ck_ngA a.2.1 && ck_ex E tab nb lw ms cts nt cod M X.1 X.2.1 X.2.2 ops ann (some (a.2.2.1, a.2.1.1)) f (a.1, (ck_tgM a.2.1.1, a.2.1.2.1, a.2.1.2.2), a.2.2.2.1, a.2.2.2.2))
section CKME
variable {p : Program} {l : Launch} {e : Env} {R : Room} {s : State} {m : MethodId} {args : Array Value} {below : List Frame} {meth : Method} {c : Code} {ce sl : Nat} {Q : State → Prop}
variable {pc : Nat} {nb : Nat × Nat} {al : List (List ck_C × (Option ck_V ⊕ Nat))} {D : va_G} {AC : Nat → ClassId} {S : Nat → Nat} {tab : List ck_D} {L : Heap} {ρ0 : Nat → Int} {wr : List Nat} {G0 : Nat → Nat} {N0 : List Nat} {H0 : Heap}
variable {M : ck_M} {K : ck_Ct} {E : ck_E} {ms : List ck_MM} {cts : List (Nat × ck_Kt)} {cod : List (List (Nat × Instr × Nat))} {nt : List (Nat × Nat × Nat)}
theorem ck_R.ng {ρ ρ' : Nat → Int} {G : Nat → Nat} {N : List Nat} {k : ck_V} {v : Value} (hg : ∀ g, (g < 150 ∨ 200 ≤ g) → ρ' g = ρ g) (hk : ck_ngv k = true) (h : ck_R S ρ G N k v) : ck_R S ρ' G N k v := by
  match k, h with
  | .inl (lo, hi, none), h => obtain ⟨x, ex, x1, x2, -⟩ := h; exact ⟨x, ex, x1, x2, fun g c q => by cases q⟩
  | .inl (lo, hi, some (g, d)), h =>
    obtain ⟨x, ex, x1, x2, x3⟩ := h
    refine ⟨x, ex, x1, x2, fun g' c' q => ?_⟩
    cases q
    simp only [ck_ngv, Bool.not_eq_true', Bool.and_eq_false_iff, decide_eq_false_iff_not] at hk
    rw [hg g (by omega)]
    exact x3 g d rfl
  | .inr (.inl q), h => exact h
  | .inr (.inr (0, _)), h => exact h
  | .inr (.inr (1, i)), h => exact h
  | .inr (.inr (2, τ)), h => exact h
  | .inr (.inr (3, j)), h => exact h
  | .inr (.inr (4, _)), h => exact h
  | .inr (.inr (n + 5, _)), h => exact trivial
theorem ck_H.ng {ρ ρ' : Nat → Int} {G : Nat → Nat} {N : List Nat} {T : List ck_C} {H : Heap} (hg : ∀ g, (g < 150 ∨ 200 ≤ g) → ρ' g = ρ g) (hT : T.all (fun c => c.2.all ck_ngv) = true) (h : ck_H D AC S tab L ρ G N T H) : ck_H D AC S tab L ρ' G N T H := by
  refine ⟨h.1, h.2.1, fun j d a hj ha => ?_, h.2.2.2⟩
  have := (h.2.2.1 j d a hj ha).mapV (ρ' := ρ') (G' := G) (N' := N) id (fun _ => rfl) (fun _ => rfl) (fun k v hk hv => hv.ng hg (List.all_eq_true.mp (List.all_eq_true.mp hT d (List.mem_of_getElem? hj)) k hk))
  simpa using this
/-- a run begins: its locals have ghosts -/
theorem ck_st.seg {ρ1 : Nat → Int} {B : ck_A} {nL : Nat} {H : Heap} {ls : Array Slot} {vs : List Value} {locs : List Loc} (hn : ck_ngA B = true) (h : ck_st D AC S tab L nL ρ1 wr G0 N0 H0 B H ls vs locs) : ck_st D AC S tab L nL (ck_sg ρ1 ls) wr G0 N0 H0 (ck_tgM B.1, B.2.1, B.2.2) H ls vs locs := by
  obtain ⟨ρ, G, N, lv, h1, h2, h3, h4, h5, h6, h7⟩ := h
  unfold ck_ngA at hn
  simp only [Bool.and_eq_true] at hn
  obtain ⟨⟨n1, n2⟩, n3⟩ := hn
  have hg : ∀ g, (g < 150 ∨ 200 ≤ g) → ck_sg ρ ls g = ρ g := fun g hg => by
    unfold ck_sg
    rw [if_neg (by omega)]
  refine ⟨ck_sg ρ ls, G, N, lv, h1, ⟨by simp [ck_tgM, h2.1], fun i q w hq hw => ?_⟩, h3.mono (fun k v hk hv => hv.ng hg (List.all_eq_true.mp n2 k hk)), h4.ng hg n3, h5, h6, fun g a1 a2 => ?_⟩
  · simp only [ck_tgM, List.getElem?_map] at hq
    obtain ⟨q0, hq0, rfl⟩ := Option.map_eq_some_iff.mp hq
    obtain ⟨r1, r2⟩ := h2.2 i q0 w hq0 hw
    have r3 := r2.ng hg (List.all_eq_true.mp n1 q0 (List.mem_of_getElem? hq0))
    refine ⟨r1, ?_⟩
    obtain ⟨q1, q2⟩ := q0
    dsimp only at r1 r2 r3 ⊢
    split
    · split
      · rename_i lo hi hlt
        obtain ⟨x, ex, x1, x2, -⟩ := r2
        refine ⟨x, ex, x1, x2, fun g c hgc => ?_⟩
        cases hgc
        have hsl : ls[w.1]? = some (.val w.2) := h1.2.2 w (List.mem_of_getElem? hw)
        have : ck_sg ρ ls (150 + q1) = x.toInt := by
          unfold ck_sg
          rw [if_pos (by omega), show 150 + q1 - 150 = q1 by omega]
          unfold ck_lvI
          rw [r1, hsl, ex]
        rw [this]
        omega
      · exact r3
    · exact r3
  · unfold ck_sg
    split
    · rfl
    · exact h7 g a1 a2
theorem ck_Fin.sg {ρ0 ρ1 : Nat → Int} (hK : ck_resg1 K = true) (hg : ∀ g, (g < 150 ∨ 200 ≤ g) → ρ1 g = ρ0 g) {t : State} (h : ck_Fin D AC S tab L ρ1 wr G0 N0 K below s t) : ck_Fin D AC S tab L ρ0 wr G0 N0 K below s t := by
  unfold ck_resg1 at hK
  simp only [Bool.and_eq_true] at hK
  obtain ⟨k1, k2⟩ := hK
  obtain ⟨o, a1, a2, a3, a4, ρ, G, N, b1, b2, b3, b4⟩ := h
  have hg' : ∀ g, (g < 150 ∨ 200 ≤ g) → (fun g => if 150 ≤ g ∧ g < 200 then ρ0 g else ρ g) g = ρ g := fun g hg => by
    dsimp only
    rw [if_neg (by omega)]
  refine ⟨o, a1, a2, a3, a4, fun g => if 150 ≤ g ∧ g < 200 then ρ0 g else ρ g, G, N, b1.ng hg' k1, b2, fun g c1 c2 => ?_, ?_⟩
  · dsimp only
    split
    · rfl
    · rw [b3 g c1 c2, hg g (by omega)]
  · generalize hr : K.2.2.2.1 = r at b4 k2
    match r, b4, k2 with
    | .inl none, b4, k2 => exact b4
    | .inl (some k), b4, k2 =>
      obtain ⟨w, w1, w2⟩ := b4
      exact ⟨w, w1, w2.ng hg' k2⟩
    | .inr x, b4, k2 => exact b4
/-- a method that the checker takes keeps its contract -/
theorem ck_run {X : ck_Kt} (hy : ck_Hy p l e R s m meth c M X.1 E ms cts tab nb D AC S L cod) (hnp : N0.length = X.1.2.1.length) {ops : List (Nat × List ck_O)} {ann : List (Nat × ck_An)} {f : Nat} (h : ck_meth E tab nb false ms cts nt cod M X ops ann f = true)
    {vs : List Value} (hargs : args = vs.toArray) (hv : ck_all (ck_R S ρ0 G0 N0) X.1.1 vs) (hH : ck_H D AC S tab L ρ0 G0 N0 (ck_etag X.1.2.1) s.heap) :
    W p l e R s m args below meth c s.heap [] 0 0 (fun t => ∃ a ∈ X.2.1, ck_Fin D AC S tab L ρ0 X.2.2 G0 N0 (ck_alt X.1 a) below s t) (entryFrame m args M.2.2.1) := by
  unfold ck_meth at h
  simp only [Bool.and_eq_true, decide_eq_true_eq] at h
  obtain ⟨⟨⟨⟨⟨hres, hkn⟩, hwd⟩, hng⟩, hent⟩, hann⟩ := h
  have hQ : ∀ (ρ1 : Nat → Int) (ls : Array Slot), (∀ g, (g < 150 ∨ 200 ≤ g) → ρ1 g = ρ0 g) → ∀ a ∈ X.2.1, ∀ t, ck_Fin D AC S tab L (ck_sg ρ1 ls) X.2.2 G0 N0 (ck_alt X.1 a) below s t → ∃ a ∈ X.2.1, ck_Fin D AC S tab L ρ0 X.2.2 G0 N0 (ck_alt X.1 a) below s t := fun ρ1 ls h1 a ha t ht => ⟨a, ha, ht.sg (List.all_eq_true.mp hres a ha) (fun g hg => by
    unfold ck_sg
    rw [if_neg (by omega)]
    exact h1 g hg)⟩
  have key : ∀ (n : Nat) (ρ1 : Nat → Int), (∀ g, (g < 150 ∨ 200 ≤ g) → ρ1 g = ρ0 g) → ∀ (pc : Nat) (a : ck_An), (pc, a) ∈ ann → ∀ (H : Heap) (ls : Array Slot) (st : List Value) (locs : List Loc), ck_st D AC S tab L M.2.2.1 ρ1 X.2.2 G0 N0 s.heap a.1 H ls st locs → ck_me a.2.1 ls < (n : Int) → 0 ≤ ck_me a.2.1 ls → W p l e R s m args below meth c H locs a.2.2.1 a.2.2.2 (fun t => ∃ a ∈ X.2.1, ck_Fin D AC S tab L ρ0 X.2.2 G0 N0 (ck_alt X.1 a) below s t) (F0 m pc ls st) := by
    intro n
    induction n with
    | zero => intro _ _ _ _ _ _ _ _ _ _ h1 h2; omega
    | succ n ih =>
      intro ρ1 hρ1 pc a hmem H ls st locs hst hm hm0
      have hseg := List.all_eq_true.mp hann _ hmem
      simp only [Bool.and_eq_true] at hseg
      obtain ⟨g1, g2⟩ := hseg
      have hst' := hst.seg g1
      refine cw_ex hy (hQ ρ1 ls hρ1) hnp (fun h => by cases h) (fun y a' hl harr => ?_) f _ g2 H ls st locs hst'
      intro H' ls' st' locs' hs'
      unfold ck_arr at harr
      simp only [Bool.and_eq_true, decide_eq_true_eq] at harr
      obtain ⟨⟨⟨⟨e1, e2⟩, e3⟩, e4⟩, e5⟩ := harr
      obtain ⟨ρ, G, N, lv, z1, z2, z3, z4, z5, z6, z7⟩ := hs'
      have hs' : ck_st D AC S tab L M.2.2.1 (ck_sg ρ1 ls) X.2.2 G0 N0 s.heap y.2.1 H' ls' st' locs' := ⟨ρ, G, N, lv, z1, z2, z3, z4, z5, z6, z7⟩
      refine W.widen e1 e2 ?_
      have hlow : 0 ≤ ck_me a'.2.1 ls' := by
        split at e4
        · rename_i k hk
          have := ck_lb_ok z1 z2 hk
          have := of_decide_eq_true e4
          unfold ck_me
          omega
        · cases e4
      refine ih (ck_sg ρ1 ls) (fun g hg => by
        unfold ck_sg
        rw [if_neg (by omega)]
        exact hρ1 g hg) y.1 a' hl H' ls' st' locs' (hs'.le e3) ?_ hlow
      unfold ck_dec at e5
      split at e5
      · rename_i k lt hk
        split at e5
        · rename_i u hu
          have e5 := of_decide_eq_true e5
          have b1 := ck_eb_ok (σ := ck_lvI ls) (fun g q1 q2 => by
            rw [z7 g (by omega) q2]
            unfold ck_sg
            rw [if_pos ⟨q1, q2⟩]) z1 z2 hk
          obtain ⟨ρs, Gs, Ns, lvs, y1, y2, y3⟩ := hst
          have b2 := ck_ub_ok (σ := ck_lvI ls) (fun i q hq => by
            obtain ⟨u1, u2, -⟩ := ck_loc_int y1 y2 hq
            exact ⟨u1, u2⟩) hu
          rw [ck_subL_ev] at b2
          unfold ck_me at hm ⊢
          omega
        · cases e5
      · cases e5
  refine cw_entry (M := M) (K := X.1) (wr := X.2.2) hy.1.2.2.1 hargs hv hH hkn hwd ?_
  intro H ls st locs hst
  refine cw_ex hy (hQ ρ0 ls (fun _ _ => rfl)) hnp (fun h => by cases h) (fun y a' hl harr => ?_) f _ hent H ls st locs (hst.seg hng)
  intro H' ls' st' locs' hs'
  unfold ck_arr at harr
  simp only [Bool.and_eq_true, decide_eq_true_eq] at harr
  obtain ⟨⟨⟨⟨e1, e2⟩, e3⟩, e4⟩, e5⟩ := harr
  obtain ⟨ρ, G, N, lv, z1, z2, z3, z4, z5, z6, z7⟩ := hs'
  have hs' : ck_st D AC S tab L M.2.2.1 (ck_sg ρ0 ls) X.2.2 G0 N0 s.heap y.2.1 H' ls' st' locs' := ⟨ρ, G, N, lv, z1, z2, z3, z4, z5, z6, z7⟩
  refine W.widen e1 e2 ?_
  have hlow : 0 ≤ ck_me a'.2.1 ls' := by
    split at e4
    · rename_i k hk
      have := ck_lb_ok z1 z2 hk
      have := of_decide_eq_true e4
      unfold ck_me
      omega
    · cases e4
  exact key (ck_me a'.2.1 ls' + 1).toNat (ck_sg ρ0 ls) (fun g hg => by
    unfold ck_sg
    rw [if_neg (by omega)]) y.1 a' hl H' ls' st' locs' (hs'.le e3) (by omega) hlow
/-- so it may be called -/
theorem ck_done {X : ck_Kt} {ops : List (Nat × List ck_O)} {ann : List (Nat × ck_An)} {f : Nat} (h : ck_meth E tab nb false ms cts nt cod M X ops ann f = true) (hE : ck_Eok ms E) (hEM : E.1 = M.1.cls) (hms : ∀ q ∈ ms, ck_Mok q) (hcts : ∀ q ∈ cts, ∃ M' : ck_MM, ms[q.1]? = some M' ∧ ck_Ok l tab nb M'.1 q.2) (hg : ck_Glob) (hcod : ∀ pc i n, ck_cdAt cod pc = some (i, n) → decode M.2.1 pc = .ok (i, n)) : ck_Ok l tab nb M X := by
  intro p e R s m args below meth c D AC S L ρ0 G0 N0 vs n hn1 hn2 hB htr r1 r2 r3 r4 hKf hargs hv hH
  have hnp : N0.length = X.1.2.1.length := by
    rw [hH.2.1]
    match X.1.2.1 with
    | [] => rfl
    | (h, fs) :: t => rfl
  exact ck_run ⟨hB, htr, ⟨r1, r2, r3, r4⟩, ⟨n, hn1, hn2, hKf⟩, hE, hEM, hms, hcts, hg, hcod⟩ hnp h hargs hv hH
theorem ck_Ok.wid {X : ck_Kt} {nb' : Nat × Nat} (h : ck_Ok l tab nb M X) (h1 : nb.1 ≤ nb'.1) (h2 : nb'.2 ≤ nb.2) : ck_Ok l tab nb' M X := fun p e R s m args below meth c D AC S L ρ0 G0 N0 vs n hn1 hn2 => h p e R s m args below meth c D AC S L ρ0 G0 N0 vs n (Nat.le_trans h1 hn1) (Nat.le_trans hn2 h2)
end CKME
end
