/-! ===== the methods, printed ===== -/
def cm_0 : ck_MM := ((⟨"RatchetDesk", "<init>", "(I)V"⟩, prog_1_method_1_code, 3, none, []), 2, 1, 0)
set_option maxRecDepth 100000 in
theorem cm_k0 : ck_Mok cm_0 := ⟨Or.inl ⟨rfl, ck_tabi 24 rfl rfl⟩, by decide +kernel, by decide +kernel, by decide +kernel, ⟨ck_tabi 23 (by decide +kernel) rfl, rfl, ck_tabi 24 rfl rfl⟩⟩
def cm_1 : ck_MM := ((⟨"RatchetDesk", "agree", "(III)V"⟩, prog_1_method_4_code, 4, none, []), 1, 3, 0)
set_option maxRecDepth 100000 in
theorem cm_k1 : ck_Mok cm_1 := ⟨Or.inl ⟨rfl, ck_tabi 527 rfl rfl⟩, by decide +kernel, by decide +kernel, by decide +kernel, ⟨ck_tabi 525 (by decide +kernel) rfl, ck_tabi 526 (by decide +kernel) rfl, _, _, rfl⟩⟩
def cm_2 : ck_MM := ((⟨"RatchetDesk", "answer", "(II)I"⟩, prog_1_method_12_code, 7, some .int, []), 1, 2, 0)
set_option maxRecDepth 100000 in
theorem cm_k2 : ck_Mok cm_2 := ⟨Or.inl ⟨rfl, ck_tabi 802 rfl rfl⟩, by decide +kernel, by decide +kernel, by decide +kernel, ⟨ck_tabi 800 (by decide +kernel) rfl, ck_tabi 801 (by decide +kernel) rfl, _, _, rfl⟩⟩
def cm_3 : ck_MM := ((⟨"RatchetDesk", "begin", "(II)I"⟩, prog_1_method_9_code, 4, some .int, []), 1, 2, 0)
set_option maxRecDepth 100000 in
theorem cm_k3 : ck_Mok cm_3 := ⟨Or.inl ⟨rfl, ck_tabi 661 rfl rfl⟩, by decide +kernel, by decide +kernel, by decide +kernel, ⟨ck_tabi 659 (by decide +kernel) rfl, ck_tabi 660 (by decide +kernel) rfl, _, _, rfl⟩⟩
def cm_4 : ck_MM := ((⟨"RatchetDesk", "canAnswer", "(ILRatchetDesk$Letter;)Z"⟩, prog_1_method_30_code, 3, some .boolean, []), 1, 2, 0)
set_option maxRecDepth 100000 in
theorem cm_k4 : ck_Mok cm_4 := ⟨Or.inl ⟨rfl, ck_tabi 806 rfl rfl⟩, by decide +kernel, by decide +kernel, by decide +kernel, ⟨ck_tabi 805 (by decide +kernel) rfl, ck_seli 10 (by decide +kernel) rfl, _, _, rfl⟩⟩
def cm_5 : ck_MM := ((⟨"RatchetDesk", "checkIndex", "(II)V"⟩, prog_1_method_23_code, 2, none, []), 0, 2, 0)
set_option maxRecDepth 100000 in
theorem cm_k5 : ck_Mok cm_5 := ⟨Or.inl ⟨rfl, ck_tabi 439 rfl rfl⟩, by decide +kernel, by decide +kernel, by decide +kernel, ⟨ck_tabi 438 (by decide +kernel) rfl, ck_tabi 1 (by decide +kernel) rfl⟩⟩
def cm_6 : ck_MM := ((⟨"RatchetDesk", "checkRoom", "(II)V"⟩, prog_1_method_24_code, 2, none, []), 0, 2, 0)
set_option maxRecDepth 100000 in
theorem cm_k6 : ck_Mok cm_6 := ⟨Or.inl ⟨rfl, ck_tabi 622 rfl rfl⟩, by decide +kernel, by decide +kernel, by decide +kernel, ⟨ck_tabi 621 (by decide +kernel) rfl, ck_tabi 1 (by decide +kernel) rfl⟩⟩
def cm_7 : ck_MM := ((⟨"RatchetDesk", "copyKey", "([I[I)V"⟩, prog_1_method_32_code, 2, none, []), 0, 2, 0)
set_option maxRecDepth 100000 in
theorem cm_k7 : ck_Mok cm_7 := ⟨Or.inl ⟨rfl, ck_tabi 585 rfl rfl⟩, by decide +kernel, by decide +kernel, by decide +kernel, ⟨ck_tabi 584 (by decide +kernel) rfl, ck_tabi 1 (by decide +kernel) rfl⟩⟩
def cm_8 : ck_MM := ((⟨"RatchetDesk", "count", "(II)I"⟩, prog_1_method_20_code, 4, some .int, []), 1, 2, 0)
set_option maxRecDepth 100000 in
theorem cm_k8 : ck_Mok cm_8 := ⟨Or.inl ⟨rfl, ck_tabi 941 rfl rfl⟩, by decide +kernel, by decide +kernel, by decide +kernel, ⟨ck_tabi 939 (by decide +kernel) rfl, ck_tabi 940 (by decide +kernel) rfl, _, _, rfl⟩⟩
def cm_9 : ck_MM := ((⟨"RatchetDesk", "digest", "(II)V"⟩, prog_1_method_6_code, 4, none, []), 1, 2, 0)
set_option maxRecDepth 100000 in
theorem cm_k9 : ck_Mok cm_9 := ⟨Or.inl ⟨rfl, ck_tabi 608 rfl rfl⟩, by decide +kernel, by decide +kernel, by decide +kernel, ⟨ck_tabi 606 (by decide +kernel) rfl, ck_tabi 607 (by decide +kernel) rfl, _, _, rfl⟩⟩
def cm_10 : ck_MM := ((⟨"RatchetDesk", "ends", "()I"⟩, prog_1_method_15_code, 1, some .int, []), 1, 0, 0)
set_option maxRecDepth 100000 in
theorem cm_k10 : ck_Mok cm_10 := ⟨Or.inl ⟨rfl, ck_tabi 421 rfl rfl⟩, by decide +kernel, by decide +kernel, by decide +kernel, ⟨ck_tabi 419 (by decide +kernel) rfl, ck_tabi 420 (by decide +kernel) rfl, _, _, rfl⟩⟩
def cm_11 : ck_MM := ((⟨"RatchetDesk", "forge", "(III)I"⟩, prog_1_method_11_code, 4, some .int, []), 1, 3, 0)
set_option maxRecDepth 100000 in
theorem cm_k11 : ck_Mok cm_11 := ⟨Or.inl ⟨rfl, ck_tabi 789 rfl rfl⟩, by decide +kernel, by decide +kernel, by decide +kernel, ⟨ck_tabi 787 (by decide +kernel) rfl, ck_tabi 788 (by decide +kernel) rfl, _, _, rfl⟩⟩
def cm_12 : ck_MM := ((⟨"RatchetDesk", "get", "(II)J"⟩, prog_1_method_3_code, 3, some .long, []), 1, 2, 0)
set_option maxRecDepth 100000 in
theorem cm_k12 : ck_Mok cm_12 := ⟨Or.inl ⟨rfl, ck_tabi 517 rfl rfl⟩, by decide +kernel, by decide +kernel, by decide +kernel, ⟨ck_tabi 515 (by decide +kernel) rfl, ck_tabi 516 (by decide +kernel) rfl, _, _, rfl⟩⟩
def cm_13 : ck_MM := ((⟨"RatchetDesk", "keeps", "(II)Z"⟩, prog_1_method_21_code, 3, some .boolean, []), 1, 2, 0)
set_option maxRecDepth 100000 in
theorem cm_k13 : ck_Mok cm_13 := ⟨Or.inl ⟨rfl, ck_tabi 948 rfl rfl⟩, by decide +kernel, by decide +kernel, by decide +kernel, ⟨ck_tabi 946 (by decide +kernel) rfl, ck_tabi 947 (by decide +kernel) rfl, _, _, rfl⟩⟩
def cm_14 : ck_MM := ((⟨"RatchetDesk", "length", "(I)I"⟩, prog_1_method_18_code, 2, some .int, []), 1, 1, 0)
set_option maxRecDepth 100000 in
theorem cm_k14 : ck_Mok cm_14 := ⟨Or.inl ⟨rfl, ck_tabi 927 rfl rfl⟩, by decide +kernel, by decide +kernel, by decide +kernel, ⟨ck_tabi 925 (by decide +kernel) rfl, ck_tabi 926 (by decide +kernel) rfl, _, _, rfl⟩⟩
def cm_15 : ck_MM := ((⟨"RatchetDesk", "letters", "()I"⟩, prog_1_method_17_code, 1, some .int, []), 1, 0, 0)
set_option maxRecDepth 100000 in
theorem cm_k15 : ck_Mok cm_15 := ⟨Or.inl ⟨rfl, ck_tabi 425 rfl rfl⟩, by decide +kernel, by decide +kernel, by decide +kernel, ⟨ck_tabi 423 (by decide +kernel) rfl, ck_tabi 424 (by decide +kernel) rfl, _, _, rfl⟩⟩
def cm_16 : ck_MM := ((⟨"RatchetDesk", "mac", "(III)V"⟩, prog_1_method_5_code, 4, none, []), 1, 3, 0)
set_option maxRecDepth 100000 in
theorem cm_k16 : ck_Mok cm_16 := ⟨Or.inl ⟨rfl, ck_tabi 578 rfl rfl⟩, by decide +kernel, by decide +kernel, by decide +kernel, ⟨ck_tabi 576 (by decide +kernel) rfl, ck_tabi 577 (by decide +kernel) rfl, _, _, rfl⟩⟩
def cm_17 : ck_MM := ((⟨"RatchetDesk", "makeFirstSecrets", "()V"⟩, prog_1_method_25_code, 2, none, []), 1, 0, 0)
set_option maxRecDepth 100000 in
theorem cm_k17 : ck_Mok cm_17 := ⟨Or.inl ⟨rfl, ck_tabi 344 rfl rfl⟩, by decide +kernel, by decide +kernel, by decide +kernel, ⟨ck_tabi 343 (by decide +kernel) rfl, ck_seli 0 (by decide +kernel) rfl, _, _, rfl⟩⟩
def cm_18 : ck_MM := ((⟨"RatchetDesk", "makeSecret", "(LRatchetDesk$Secret;)V"⟩, prog_1_method_26_code, 2, none, []), 1, 1, 0)
set_option maxRecDepth 100000 in
theorem cm_k18 : ck_Mok cm_18 := ⟨Or.inl ⟨rfl, ck_tabi 348 rfl rfl⟩, by decide +kernel, by decide +kernel, by decide +kernel, ⟨ck_tabi 347 (by decide +kernel) rfl, ck_seli 1 (by decide +kernel) rfl, _, _, rfl⟩⟩
def cm_19 : ck_MM := ((⟨"RatchetDesk", "offers", "(I)I"⟩, prog_1_method_8_code, 2, some .int, []), 1, 1, 0)
set_option maxRecDepth 100000 in
theorem cm_k19 : ck_Mok cm_19 := ⟨Or.inl ⟨rfl, ck_tabi 649 rfl rfl⟩, by decide +kernel, by decide +kernel, by decide +kernel, ⟨ck_tabi 647 (by decide +kernel) rfl, ck_tabi 648 (by decide +kernel) rfl, _, _, rfl⟩⟩
def cm_20 : ck_MM := ((⟨"RatchetDesk", "open", "(II)I"⟩, prog_1_method_13_code, 4, some .int, []), 1, 2, 0)
set_option maxRecDepth 100000 in
theorem cm_k20 : ck_Mok cm_20 := ⟨Or.inl ⟨rfl, ck_tabi 891 rfl rfl⟩, by decide +kernel, by decide +kernel, by decide +kernel, ⟨ck_tabi 889 (by decide +kernel) rfl, ck_tabi 890 (by decide +kernel) rfl, _, _, rfl⟩⟩
def cm_21 : ck_MM := ((⟨"RatchetDesk", "person", "(IZ)I"⟩, prog_1_method_16_code, 3, some .int, []), 1, 2, 0)
set_option maxRecDepth 100000 in
theorem cm_k21 : ck_Mok cm_21 := ⟨Or.inl ⟨rfl, ck_tabi 920 rfl rfl⟩, by decide +kernel, by decide +kernel, by decide +kernel, ⟨ck_tabi 918 (by decide +kernel) rfl, ck_tabi 919 (by decide +kernel) rfl, _, _, rfl⟩⟩
def cm_22 : ck_MM := ((⟨"RatchetDesk", "placeTrial", "(I)V"⟩, prog_1_method_31_code, 3, none, []), 1, 1, 0)
set_option maxRecDepth 100000 in
theorem cm_k22 : ck_Mok cm_22 := ⟨Or.inl ⟨rfl, ck_tabi 734 rfl rfl⟩, by decide +kernel, by decide +kernel, by decide +kernel, ⟨ck_tabi 733 (by decide +kernel) rfl, ck_seli 9 (by decide +kernel) rfl, _, _, rfl⟩⟩
def cm_23 : ck_MM := ((⟨"RatchetDesk", "put", "(IIJ)V"⟩, prog_1_method_2_code, 5, none, []), 1, 3, 0)
set_option maxRecDepth 100000 in
theorem cm_k23 : ck_Mok cm_23 := ⟨Or.inl ⟨rfl, ck_tabi 436 rfl rfl⟩, by decide +kernel, by decide +kernel, by decide +kernel, ⟨ck_tabi 434 (by decide +kernel) rfl, ck_tabi 435 (by decide +kernel) rfl, _, _, rfl⟩⟩
def cm_24 : ck_MM := ((⟨"RatchetDesk", "readEight", "([II)J"⟩, prog_1_method_34_code, 5, some .long, []), 0, 2, 0)
set_option maxRecDepth 100000 in
theorem cm_k24 : ck_Mok cm_24 := ⟨Or.inl ⟨rfl, ck_tabi 520 rfl rfl⟩, by decide +kernel, by decide +kernel, by decide +kernel, ⟨ck_tabi 519 (by decide +kernel) rfl, ck_tabi 1 (by decide +kernel) rfl⟩⟩
def cm_25 : ck_MM := ((⟨"RatchetDesk", "reckonRootOfAnswerer", "(LRatchetDesk$Person;LRatchetDesk$Person;LRatchetDesk$Letter;)V"⟩, prog_1_method_29_code, 5, none, []), 1, 3, 0)
set_option maxRecDepth 100000 in
theorem cm_k25 : ck_Mok cm_25 := ⟨Or.inl ⟨rfl, ck_tabi 822 rfl rfl⟩, by decide +kernel, by decide +kernel, by decide +kernel, ⟨ck_tabi 821 (by decide +kernel) rfl, ck_seli 11 (by decide +kernel) rfl, _, _, rfl⟩⟩
def cm_26 : ck_MM := ((⟨"RatchetDesk", "reckonRootOfBeginner", "(LRatchetDesk$Person;LRatchetDesk$Person;I)V"⟩, prog_1_method_28_code, 4, none, []), 1, 3, 0)
set_option maxRecDepth 100000 in
theorem cm_k26 : ck_Mok cm_26 := ⟨Or.inl ⟨rfl, ck_tabi 702 rfl rfl⟩, by decide +kernel, by decide +kernel, by decide +kernel, ⟨ck_tabi 701 (by decide +kernel) rfl, ck_seli 8 (by decide +kernel) rfl, _, _, rfl⟩⟩
def cm_27 : ck_MM := ((⟨"RatchetDesk", "sameBytes", "([II[II)Z"⟩, prog_1_method_33_code, 5, some .boolean, []), 0, 4, 0)
set_option maxRecDepth 100000 in
theorem cm_k27 : ck_Mok cm_27 := ⟨Or.inl ⟨rfl, ck_tabi 846 rfl rfl⟩, by decide +kernel, by decide +kernel, by decide +kernel, ⟨ck_tabi 845 (by decide +kernel) rfl, ck_tabi 1 (by decide +kernel) rfl⟩⟩
def cm_28 : ck_MM := ((⟨"RatchetDesk", "send", "(IJ)I"⟩, prog_1_method_10_code, 4, some .int, []), 1, 2, 0)
set_option maxRecDepth 100000 in
theorem cm_k28 : ck_Mok cm_28 := ⟨Or.inl ⟨rfl, ck_tabi 748 rfl rfl⟩, by decide +kernel, by decide +kernel, by decide +kernel, ⟨ck_tabi 746 (by decide +kernel) rfl, ck_tabi 747 (by decide +kernel) rfl, _, _, rfl⟩⟩
def cm_29 : ck_MM := ((⟨"RatchetDesk", "stock", "(I)I"⟩, prog_1_method_7_code, 3, some .int, []), 1, 1, 0)
set_option maxRecDepth 100000 in
theorem cm_k29 : ck_Mok cm_29 := ⟨Or.inl ⟨rfl, ck_tabi 619 rfl rfl⟩, by decide +kernel, by decide +kernel, by decide +kernel, ⟨ck_tabi 617 (by decide +kernel) rfl, ck_tabi 618 (by decide +kernel) rfl, _, _, rfl⟩⟩
def cm_30 : ck_MM := ((⟨"RatchetDesk", "text", "(I)J"⟩, prog_1_method_14_code, 2, some .long, []), 1, 1, 0)
set_option maxRecDepth 100000 in
theorem cm_k30 : ck_Mok cm_30 := ⟨Or.inl ⟨rfl, ck_tabi 913 rfl rfl⟩, by decide +kernel, by decide +kernel, by decide +kernel, ⟨ck_tabi 911 (by decide +kernel) rfl, ck_tabi 912 (by decide +kernel) rfl, _, _, rfl⟩⟩
def cm_31 : ck_MM := ((⟨"RatchetDesk", "tieTrial", "(II)V"⟩, prog_1_method_27_code, 5, none, []), 1, 2, 0)
set_option maxRecDepth 100000 in
theorem cm_k31 : ck_Mok cm_31 := ⟨Or.inl ⟨rfl, ck_tabi 693 rfl rfl⟩, by decide +kernel, by decide +kernel, by decide +kernel, ⟨ck_tabi 692 (by decide +kernel) rfl, ck_seli 7 (by decide +kernel) rfl, _, _, rfl⟩⟩
def cm_32 : ck_MM := ((⟨"RatchetDesk", "wire", "(II)I"⟩, prog_1_method_19_code, 3, some .int, []), 1, 2, 0)
set_option maxRecDepth 100000 in
theorem cm_k32 : ck_Mok cm_32 := ⟨Or.inl ⟨rfl, ck_tabi 934 rfl rfl⟩, by decide +kernel, by decide +kernel, by decide +kernel, ⟨ck_tabi 932 (by decide +kernel) rfl, ck_tabi 933 (by decide +kernel) rfl, _, _, rfl⟩⟩
def cm_33 : ck_MM := ((⟨"RatchetDesk", "word", "(III)J"⟩, prog_1_method_22_code, 5, some .long, []), 1, 3, 0)
set_option maxRecDepth 100000 in
theorem cm_k33 : ck_Mok cm_33 := ⟨Or.inl ⟨rfl, ck_tabi 956 rfl rfl⟩, by decide +kernel, by decide +kernel, by decide +kernel, ⟨ck_tabi 954 (by decide +kernel) rfl, ck_tabi 955 (by decide +kernel) rfl, _, _, rfl⟩⟩
def cm_34 : ck_MM := ((⟨"RatchetDesk", "writeEight", "([IIJ)V"⟩, prog_1_method_35_code, 5, none, []), 0, 3, 0)
set_option maxRecDepth 100000 in
theorem cm_k34 : ck_Mok cm_34 := ⟨Or.inl ⟨rfl, ck_tabi 510 rfl rfl⟩, by decide +kernel, by decide +kernel, by decide +kernel, ⟨ck_tabi 509 (by decide +kernel) rfl, ck_tabi 1 (by decide +kernel) rfl⟩⟩
def cm_35 : ck_MM := ((⟨"RatchetDesk$Chain", "<init>", "()V"⟩, prog_2_method_1_code, 1, none, []), 2, 0, 7)
set_option maxRecDepth 100000 in
theorem cm_k35 : ck_Mok cm_35 := ⟨Or.inl ⟨rfl, ck_tabi 202 rfl rfl⟩, by decide +kernel, by decide +kernel, by decide +kernel, ⟨ck_tabi 201 (by decide +kernel) rfl, rfl, ck_tabi 202 rfl rfl⟩⟩
def cm_36 : ck_MM := ((⟨"RatchetDesk$Chain", "clear", "()V"⟩, prog_2_method_2_code, 1, none, []), 1, 0, 7)
set_option maxRecDepth 100000 in
theorem cm_k36 : ck_Mok cm_36 := ⟨Or.inl ⟨rfl, ck_tabi 689 rfl rfl⟩, by decide +kernel, by decide +kernel, by decide +kernel, ⟨ck_tabi 687 (by decide +kernel) rfl, ck_tabi 688 (by decide +kernel) rfl, _, _, rfl⟩⟩
def cm_37 : ck_MM := ((⟨"RatchetDesk$Chain", "copyOf", "(LRatchetDesk$Chain;)V"⟩, prog_2_method_3_code, 2, none, []), 1, 1, 7)
set_option maxRecDepth 100000 in
theorem cm_k37 : ck_Mok cm_37 := ⟨Or.inl ⟨rfl, ck_tabi 900 rfl rfl⟩, by decide +kernel, by decide +kernel, by decide +kernel, ⟨ck_tabi 898 (by decide +kernel) rfl, ck_tabi 899 (by decide +kernel) rfl, _, _, rfl⟩⟩
def cm_38 : ck_MM := ((⟨"RatchetDesk$Chain", "restart", "([I[I[ILRatchetDesk$Tools;)V"⟩, prog_2_method_4_code, 5, none, []), 1, 4, 7)
set_option maxRecDepth 100000 in
theorem cm_k38 : ck_Mok cm_38 := ⟨Or.inl ⟨rfl, ck_tabi 738 rfl rfl⟩, by decide +kernel, by decide +kernel, by decide +kernel, ⟨ck_tabi 736 (by decide +kernel) rfl, ck_tabi 737 (by decide +kernel) rfl, _, _, rfl⟩⟩
def cm_39 : ck_MM := ((⟨"RatchetDesk$Chain", "step", "(LRatchetDesk$Hash;[I)V"⟩, prog_2_method_5_code, 3, none, []), 1, 2, 7)
set_option maxRecDepth 100000 in
theorem cm_k39 : ck_Mok cm_39 := ⟨Or.inl ⟨rfl, ck_tabi 759 rfl rfl⟩, by decide +kernel, by decide +kernel, by decide +kernel, ⟨ck_tabi 757 (by decide +kernel) rfl, ck_tabi 758 (by decide +kernel) rfl, _, _, rfl⟩⟩
def cm_40 : ck_MM := ((⟨"RatchetDesk$Curve", "<init>", "()V"⟩, prog_3_method_1_code, 1, none, []), 2, 0, 4)
set_option maxRecDepth 100000 in
theorem cm_k40 : ck_Mok cm_40 := ⟨Or.inl ⟨rfl, ck_tabi 98 rfl rfl⟩, by decide +kernel, by decide +kernel, by decide +kernel, ⟨ck_tabi 97 (by decide +kernel) rfl, rfl, ck_tabi 98 rfl rfl⟩⟩
def cm_41 : ck_MM := ((⟨"RatchetDesk$Curve", "add", "([J[J[J)V"⟩, prog_3_method_10_code, 4, none, []), 0, 3, 4)
set_option maxRecDepth 100000 in
theorem cm_k41 : ck_Mok cm_41 := ⟨Or.inl ⟨rfl, ck_tabi 548 rfl rfl⟩, by decide +kernel, by decide +kernel, by decide +kernel, ⟨ck_tabi 547 (by decide +kernel) rfl, ck_tabi 5 (by decide +kernel) rfl⟩⟩
def cm_42 : ck_MM := ((⟨"RatchetDesk$Curve", "invert", "([J[J)V"⟩, prog_3_method_5_code, 3, none, []), 0, 2, 4)
set_option maxRecDepth 100000 in
theorem cm_k42 : ck_Mok cm_42 := ⟨Or.inl ⟨rfl, ck_tabi 565 rfl rfl⟩, by decide +kernel, by decide +kernel, by decide +kernel, ⟨ck_tabi 564 (by decide +kernel) rfl, ck_tabi 5 (by decide +kernel) rfl⟩⟩
def cm_43 : ck_MM := ((⟨"RatchetDesk$Curve", "isSet", "([II)Z"⟩, prog_3_method_3_code, 2, some .boolean, []), 0, 2, 4)
set_option maxRecDepth 100000 in
theorem cm_k43 : ck_Mok cm_43 := ⟨Or.inl ⟨rfl, ck_tabi 541 rfl rfl⟩, by decide +kernel, by decide +kernel, by decide +kernel, ⟨ck_tabi 540 (by decide +kernel) rfl, ck_tabi 5 (by decide +kernel) rfl⟩⟩
def cm_44 : ck_MM := ((⟨"RatchetDesk$Curve", "multiply", "([J[J[J)V"⟩, prog_3_method_13_code, 83, none, []), 0, 3, 4)
set_option maxRecDepth 100000 in
theorem cm_k44 : ck_Mok cm_44 := ⟨Or.inl ⟨rfl, ck_tabi 554 rfl rfl⟩, by decide +kernel, by decide +kernel, by decide +kernel, ⟨ck_tabi 553 (by decide +kernel) rfl, ck_tabi 5 (by decide +kernel) rfl⟩⟩
def cm_45 : ck_MM := ((⟨"RatchetDesk$Curve", "readNumber", "([I[J)V"⟩, prog_3_method_7_code, 6, none, []), 0, 2, 4)
set_option maxRecDepth 100000 in
theorem cm_k45 : ck_Mok cm_45 := ⟨Or.inl ⟨rfl, ck_tabi 534 rfl rfl⟩, by decide +kernel, by decide +kernel, by decide +kernel, ⟨ck_tabi 533 (by decide +kernel) rfl, ck_tabi 5 (by decide +kernel) rfl⟩⟩
def cm_46 : ck_MM := ((⟨"RatchetDesk$Curve", "reckon", "([I[I[I)V"⟩, prog_3_method_2_code, 5, none, []), 1, 3, 4)
set_option maxRecDepth 100000 in
theorem cm_k46 : ck_Mok cm_46 := ⟨Or.inl ⟨rfl, ck_tabi 531 rfl rfl⟩, by decide +kernel, by decide +kernel, by decide +kernel, ⟨ck_tabi 529 (by decide +kernel) rfl, ck_tabi 530 (by decide +kernel) rfl, _, _, rfl⟩⟩
def cm_47 : ck_MM := ((⟨"RatchetDesk$Curve", "reduce", "([J)V"⟩, prog_3_method_9_code, 9, none, []), 0, 1, 4)
set_option maxRecDepth 100000 in
theorem cm_k47 : ck_Mok cm_47 := ⟨Or.inl ⟨rfl, ck_tabi 568 rfl rfl⟩, by decide +kernel, by decide +kernel, by decide +kernel, ⟨ck_tabi 567 (by decide +kernel) rfl, ck_tabi 5 (by decide +kernel) rfl⟩⟩
def cm_48 : ck_MM := ((⟨"RatchetDesk$Curve", "scale", "([J[J)V"⟩, prog_3_method_12_code, 8, none, []), 0, 2, 4)
set_option maxRecDepth 100000 in
theorem cm_k48 : ck_Mok cm_48 := ⟨Or.inl ⟨rfl, ck_tabi 561 rfl rfl⟩, by decide +kernel, by decide +kernel, by decide +kernel, ⟨ck_tabi 560 (by decide +kernel) rfl, ck_tabi 5 (by decide +kernel) rfl⟩⟩
def cm_49 : ck_MM := ((⟨"RatchetDesk$Curve", "setNumber", "([JI)V"⟩, prog_3_method_6_code, 3, none, []), 0, 2, 4)
set_option maxRecDepth 100000 in
theorem cm_k49 : ck_Mok cm_49 := ⟨Or.inl ⟨rfl, ck_tabi 537 rfl rfl⟩, by decide +kernel, by decide +kernel, by decide +kernel, ⟨ck_tabi 536 (by decide +kernel) rfl, ck_tabi 5 (by decide +kernel) rfl⟩⟩
def cm_50 : ck_MM := ((⟨"RatchetDesk$Curve", "step", "([J[J[J[J)V"⟩, prog_3_method_4_code, 5, none, []), 1, 4, 4)
set_option maxRecDepth 100000 in
theorem cm_k50 : ck_Mok cm_50 := ⟨Or.inl ⟨rfl, ck_tabi 545 rfl rfl⟩, by decide +kernel, by decide +kernel, by decide +kernel, ⟨ck_tabi 544 (by decide +kernel) rfl, ck_seli 5 (by decide +kernel) rfl, _, _, rfl⟩⟩
def cm_51 : ck_MM := ((⟨"RatchetDesk$Curve", "subtract", "([J[J[J)V"⟩, prog_3_method_11_code, 4, none, []), 0, 3, 4)
set_option maxRecDepth 100000 in
theorem cm_k51 : ck_Mok cm_51 := ⟨Or.inl ⟨rfl, ck_tabi 551 rfl rfl⟩, by decide +kernel, by decide +kernel, by decide +kernel, ⟨ck_tabi 550 (by decide +kernel) rfl, ck_tabi 5 (by decide +kernel) rfl⟩⟩
def cm_52 : ck_MM := ((⟨"RatchetDesk$Curve", "writeNumber", "([J[I)V"⟩, prog_3_method_8_code, 6, none, []), 0, 2, 4)
set_option maxRecDepth 100000 in
theorem cm_k52 : ck_Mok cm_52 := ⟨Or.inl ⟨rfl, ck_tabi 571 rfl rfl⟩, by decide +kernel, by decide +kernel, by decide +kernel, ⟨ck_tabi 570 (by decide +kernel) rfl, ck_tabi 5 (by decide +kernel) rfl⟩⟩
def cm_53 : ck_MM := ((⟨"RatchetDesk$End", "<init>", "()V"⟩, prog_4_method_1_code, 1, none, []), 2, 0, 6)
set_option maxRecDepth 100000 in
theorem cm_k53 : ck_Mok cm_53 := ⟨Or.inl ⟨rfl, ck_tabi 194 rfl rfl⟩, by decide +kernel, by decide +kernel, by decide +kernel, ⟨ck_tabi 193 (by decide +kernel) rfl, rfl, ck_tabi 194 rfl rfl⟩⟩
def cm_54 : ck_MM := ((⟨"RatchetDesk$End", "copyOf", "(LRatchetDesk$End;)V"⟩, prog_4_method_3_code, 2, none, []), 1, 1, 6)
set_option maxRecDepth 100000 in
theorem cm_k54 : ck_Mok cm_54 := ⟨Or.inl ⟨rfl, ck_tabi 895 rfl rfl⟩, by decide +kernel, by decide +kernel, by decide +kernel, ⟨ck_tabi 893 (by decide +kernel) rfl, ck_tabi 894 (by decide +kernel) rfl, _, _, rfl⟩⟩
def cm_55 : ck_MM := ((⟨"RatchetDesk$End", "introduce", "(II[I)V"⟩, prog_4_method_4_code, 4, none, []), 1, 3, 6)
set_option maxRecDepth 100000 in
theorem cm_k55 : ck_Mok cm_55 := ⟨Or.inl ⟨rfl, ck_tabi 729 rfl rfl⟩, by decide +kernel, by decide +kernel, by decide +kernel, ⟨ck_tabi 727 (by decide +kernel) rfl, ck_tabi 728 (by decide +kernel) rfl, _, _, rfl⟩⟩
def cm_56 : ck_MM := ((⟨"RatchetDesk$End", "keepUpTo", "(ILRatchetDesk$Tools;)V"⟩, prog_4_method_8_code, 4, none, []), 1, 2, 6)
set_option maxRecDepth 100000 in
theorem cm_k56 : ck_Mok cm_56 := ⟨Or.inl ⟨rfl, ck_tabi 865 rfl rfl⟩, by decide +kernel, by decide +kernel, by decide +kernel, ⟨ck_tabi 864 (by decide +kernel) rfl, ck_seli 13 (by decide +kernel) rfl, _, _, rfl⟩⟩
def cm_57 : ck_MM := ((⟨"RatchetDesk$End", "passedOver", "(LRatchetDesk$Letter;)I"⟩, prog_4_method_7_code, 3, some .int, []), 1, 1, 6)
set_option maxRecDepth 100000 in
theorem cm_k57 : ck_Mok cm_57 := ⟨Or.inl ⟨rfl, ck_tabi 857 rfl rfl⟩, by decide +kernel, by decide +kernel, by decide +kernel, ⟨ck_tabi 856 (by decide +kernel) rfl, ck_seli 12 (by decide +kernel) rfl, _, _, rfl⟩⟩
def cm_58 : ck_MM := ((⟨"RatchetDesk$End", "renew", "(II)V"⟩, prog_4_method_2_code, 3, none, []), 1, 2, 6)
set_option maxRecDepth 100000 in
theorem cm_k58 : ck_Mok cm_58 := ⟨Or.inl ⟨rfl, ck_tabi 685 rfl rfl⟩, by decide +kernel, by decide +kernel, by decide +kernel, ⟨ck_tabi 683 (by decide +kernel) rfl, ck_tabi 684 (by decide +kernel) rfl, _, _, rfl⟩⟩
def cm_59 : ck_MM := ((⟨"RatchetDesk$End", "take", "(LRatchetDesk$Letter;LRatchetDesk$Tools;)I"⟩, prog_4_method_6_code, 4, some .int, []), 1, 2, 6)
set_option maxRecDepth 100000 in
theorem cm_k59 : ck_Mok cm_59 := ⟨Or.inl ⟨rfl, ck_tabi 831 rfl rfl⟩, by decide +kernel, by decide +kernel, by decide +kernel, ⟨ck_tabi 829 (by decide +kernel) rfl, ck_tabi 830 (by decide +kernel) rfl, _, _, rfl⟩⟩
def cm_60 : ck_MM := ((⟨"RatchetDesk$End", "write", "(LRatchetDesk$Letter;JLRatchetDesk$Tools;)V"⟩, prog_4_method_5_code, 5, none, []), 1, 3, 6)
set_option maxRecDepth 100000 in
theorem cm_k60 : ck_Mok cm_60 := ⟨Or.inl ⟨rfl, ck_tabi 752 rfl rfl⟩, by decide +kernel, by decide +kernel, by decide +kernel, ⟨ck_tabi 750 (by decide +kernel) rfl, ck_tabi 751 (by decide +kernel) rfl, _, _, rfl⟩⟩
def cm_61 : ck_MM := ((⟨"RatchetDesk$Hash", "<init>", "()V"⟩, prog_5_method_1_code, 1, none, []), 2, 0, 3)
set_option maxRecDepth 100000 in
theorem cm_k61 : ck_Mok cm_61 := ⟨Or.inl ⟨rfl, ck_tabi 65 rfl rfl⟩, by decide +kernel, by decide +kernel, by decide +kernel, ⟨ck_tabi 64 (by decide +kernel) rfl, rfl, ck_tabi 65 rfl rfl⟩⟩
def cm_62 : ck_MM := ((⟨"RatchetDesk$Hash", "add", "(I)V"⟩, prog_5_method_3_code, 2, none, []), 1, 1, 3)
set_option maxRecDepth 100000 in
theorem cm_k62 : ck_Mok cm_62 := ⟨Or.inl ⟨rfl, ck_tabi 364 rfl rfl⟩, by decide +kernel, by decide +kernel, by decide +kernel, ⟨ck_tabi 362 (by decide +kernel) rfl, ck_tabi 363 (by decide +kernel) rfl, _, _, rfl⟩⟩
def cm_63 : ck_MM := ((⟨"RatchetDesk$Hash", "addRow", "([II)V"⟩, prog_5_method_4_code, 4, none, []), 1, 2, 3)
set_option maxRecDepth 100000 in
theorem cm_k63 : ck_Mok cm_63 := ⟨Or.inl ⟨rfl, ck_tabi 595 rfl rfl⟩, by decide +kernel, by decide +kernel, by decide +kernel, ⟨ck_tabi 593 (by decide +kernel) rfl, ck_tabi 594 (by decide +kernel) rfl, _, _, rfl⟩⟩
def cm_64 : ck_MM := ((⟨"RatchetDesk$Hash", "addWord", "(I)V"⟩, prog_5_method_5_code, 3, none, []), 1, 1, 3)
set_option maxRecDepth 100000 in
theorem cm_k64 : ck_Mok cm_64 := ⟨Or.inl ⟨rfl, ck_tabi 360 rfl rfl⟩, by decide +kernel, by decide +kernel, by decide +kernel, ⟨ck_tabi 358 (by decide +kernel) rfl, ck_tabi 359 (by decide +kernel) rfl, _, _, rfl⟩⟩
def cm_65 : ck_MM := ((⟨"RatchetDesk$Hash", "fillWords", "(I)V"⟩, prog_5_method_11_code, 7, none, []), 1, 1, 3)
set_option maxRecDepth 100000 in
theorem cm_k65 : ck_Mok cm_65 := ⟨Or.inl ⟨rfl, ck_tabi 377 rfl rfl⟩, by decide +kernel, by decide +kernel, by decide +kernel, ⟨ck_tabi 376 (by decide +kernel) rfl, ck_seli 2 (by decide +kernel) rfl, _, _, rfl⟩⟩
def cm_66 : ck_MM := ((⟨"RatchetDesk$Hash", "finish", "([I)V"⟩, prog_5_method_6_code, 4, none, []), 1, 1, 3)
set_option maxRecDepth 100000 in
theorem cm_k66 : ck_Mok cm_66 := ⟨Or.inl ⟨rfl, ck_tabi 368 rfl rfl⟩, by decide +kernel, by decide +kernel, by decide +kernel, ⟨ck_tabi 366 (by decide +kernel) rfl, ck_tabi 367 (by decide +kernel) rfl, _, _, rfl⟩⟩
def cm_67 : ck_MM := ((⟨"RatchetDesk$Hash", "finishMac", "([I)V"⟩, prog_5_method_8_code, 2, none, []), 1, 1, 3)
set_option maxRecDepth 100000 in
theorem cm_k67 : ck_Mok cm_67 := ⟨Or.inl ⟨rfl, ck_tabi 599 rfl rfl⟩, by decide +kernel, by decide +kernel, by decide +kernel, ⟨ck_tabi 597 (by decide +kernel) rfl, ck_tabi 598 (by decide +kernel) rfl, _, _, rfl⟩⟩
def cm_68 : ck_MM := ((⟨"RatchetDesk$Hash", "finishSpread", "(I[I[I)V"⟩, prog_5_method_9_code, 4, none, []), 1, 3, 3)
set_option maxRecDepth 100000 in
theorem cm_k68 : ck_Mok cm_68 := ⟨Or.inl ⟨rfl, ck_tabi 722 rfl rfl⟩, by decide +kernel, by decide +kernel, by decide +kernel, ⟨ck_tabi 720 (by decide +kernel) rfl, ck_tabi 721 (by decide +kernel) rfl, _, _, rfl⟩⟩
def cm_69 : ck_MM := ((⟨"RatchetDesk$Hash", "mixWords", "()V"⟩, prog_5_method_12_code, 12, none, []), 1, 0, 3)
set_option maxRecDepth 100000 in
theorem cm_k69 : ck_Mok cm_69 := ⟨Or.inl ⟨rfl, ck_tabi 381 rfl rfl⟩, by decide +kernel, by decide +kernel, by decide +kernel, ⟨ck_tabi 380 (by decide +kernel) rfl, ck_seli 3 (by decide +kernel) rfl, _, _, rfl⟩⟩
def cm_70 : ck_MM := ((⟨"RatchetDesk$Hash", "start", "()V"⟩, prog_5_method_2_code, 1, none, []), 1, 0, 3)
set_option maxRecDepth 100000 in
theorem cm_k70 : ck_Mok cm_70 := ⟨Or.inl ⟨rfl, ck_tabi 356 rfl rfl⟩, by decide +kernel, by decide +kernel, by decide +kernel, ⟨ck_tabi 354 (by decide +kernel) rfl, ck_tabi 355 (by decide +kernel) rfl, _, _, rfl⟩⟩
def cm_71 : ck_MM := ((⟨"RatchetDesk$Hash", "startMac", "([I)V"⟩, prog_5_method_7_code, 2, none, []), 1, 1, 3)
set_option maxRecDepth 100000 in
theorem cm_k71 : ck_Mok cm_71 := ⟨Or.inl ⟨rfl, ck_tabi 582 rfl rfl⟩, by decide +kernel, by decide +kernel, by decide +kernel, ⟨ck_tabi 580 (by decide +kernel) rfl, ck_tabi 581 (by decide +kernel) rfl, _, _, rfl⟩⟩
def cm_72 : ck_MM := ((⟨"RatchetDesk$Hash", "startPad", "(I)V"⟩, prog_5_method_10_code, 3, none, []), 1, 1, 3)
set_option maxRecDepth 100000 in
theorem cm_k72 : ck_Mok cm_72 := ⟨Or.inl ⟨rfl, ck_tabi 590 rfl rfl⟩, by decide +kernel, by decide +kernel, by decide +kernel, ⟨ck_tabi 589 (by decide +kernel) rfl, ck_seli 6 (by decide +kernel) rfl, _, _, rfl⟩⟩
def cm_73 : ck_MM := ((⟨"RatchetDesk$KeptKeys", "<init>", "()V"⟩, prog_6_method_1_code, 1, none, []), 2, 0, 8)
set_option maxRecDepth 100000 in
theorem cm_k73 : ck_Mok cm_73 := ⟨Or.inl ⟨rfl, ck_tabi 223 rfl rfl⟩, by decide +kernel, by decide +kernel, by decide +kernel, ⟨ck_tabi 222 (by decide +kernel) rfl, rfl, ck_tabi 223 rfl rfl⟩⟩
def cm_74 : ck_MM := ((⟨"RatchetDesk$KeptKeys", "copyOf", "(LRatchetDesk$KeptKeys;)V"⟩, prog_6_method_2_code, 3, none, []), 1, 1, 8)
set_option maxRecDepth 100000 in
theorem cm_k74 : ck_Mok cm_74 := ⟨Or.inl ⟨rfl, ck_tabi 905 rfl rfl⟩, by decide +kernel, by decide +kernel, by decide +kernel, ⟨ck_tabi 903 (by decide +kernel) rfl, ck_tabi 904 (by decide +kernel) rfl, _, _, rfl⟩⟩
def cm_75 : ck_MM := ((⟨"RatchetDesk$KeptKeys", "find", "(LRatchetDesk$Letter;)I"⟩, prog_6_method_4_code, 3, some .int, []), 1, 1, 8)
set_option maxRecDepth 100000 in
theorem cm_k75 : ck_Mok cm_75 := ⟨Or.inl ⟨rfl, ck_tabi 835 rfl rfl⟩, by decide +kernel, by decide +kernel, by decide +kernel, ⟨ck_tabi 833 (by decide +kernel) rfl, ck_tabi 834 (by decide +kernel) rfl, _, _, rfl⟩⟩
def cm_76 : ck_MM := ((⟨"RatchetDesk$KeptKeys", "keep", "([II[I)V"⟩, prog_6_method_3_code, 4, none, []), 1, 3, 8)
set_option maxRecDepth 100000 in
theorem cm_k76 : ck_Mok cm_76 := ⟨Or.inl ⟨rfl, ck_tabi 869 rfl rfl⟩, by decide +kernel, by decide +kernel, by decide +kernel, ⟨ck_tabi 867 (by decide +kernel) rfl, ck_tabi 868 (by decide +kernel) rfl, _, _, rfl⟩⟩
def cm_77 : ck_MM := ((⟨"RatchetDesk$KeptKeys", "takeOut", "(I[I)V"⟩, prog_6_method_5_code, 4, none, []), 1, 2, 8)
set_option maxRecDepth 100000 in
theorem cm_k77 : ck_Mok cm_77 := ⟨Or.inl ⟨rfl, ck_tabi 851 rfl rfl⟩, by decide +kernel, by decide +kernel, by decide +kernel, ⟨ck_tabi 849 (by decide +kernel) rfl, ck_tabi 850 (by decide +kernel) rfl, _, _, rfl⟩⟩
def cm_78 : ck_MM := ((⟨"RatchetDesk$Letter", "<init>", "()V"⟩, prog_7_method_1_code, 1, none, []), 2, 0, 10)
set_option maxRecDepth 100000 in
theorem cm_k78 : ck_Mok cm_78 := ⟨Or.inl ⟨rfl, ck_tabi 327 rfl rfl⟩, by decide +kernel, by decide +kernel, by decide +kernel, ⟨ck_tabi 326 (by decide +kernel) rfl, rfl, ck_tabi 327 rfl rfl⟩⟩
def cm_79 : ck_MM := ((⟨"RatchetDesk$Letter", "before", "()I"⟩, prog_7_method_3_code, 1, some .int, []), 1, 0, 10)
set_option maxRecDepth 100000 in
theorem cm_k79 : ck_Mok cm_79 := ⟨Or.inl ⟨rfl, ck_tabi 861 rfl rfl⟩, by decide +kernel, by decide +kernel, by decide +kernel, ⟨ck_tabi 859 (by decide +kernel) rfl, ck_tabi 860 (by decide +kernel) rfl, _, _, rfl⟩⟩
def cm_80 : ck_MM := ((⟨"RatchetDesk$Letter", "beginner", "()I"⟩, prog_7_method_5_code, 1, some .int, []), 1, 0, 10)
set_option maxRecDepth 100000 in
theorem cm_k80 : ck_Mok cm_80 := ⟨Or.inl ⟨rfl, ck_tabi 810 rfl rfl⟩, by decide +kernel, by decide +kernel, by decide +kernel, ⟨ck_tabi 808 (by decide +kernel) rfl, ck_tabi 809 (by decide +kernel) rfl, _, _, rfl⟩⟩
def cm_81 : ck_MM := ((⟨"RatchetDesk$Letter", "copyOf", "(LRatchetDesk$Letter;)V"⟩, prog_7_method_2_code, 2, none, []), 1, 1, 10)
set_option maxRecDepth 100000 in
theorem cm_k81 : ck_Mok cm_81 := ⟨Or.inl ⟨rfl, ck_tabi 794 rfl rfl⟩, by decide +kernel, by decide +kernel, by decide +kernel, ⟨ck_tabi 792 (by decide +kernel) rfl, ck_tabi 793 (by decide +kernel) rfl, _, _, rfl⟩⟩
def cm_82 : ck_MM := ((⟨"RatchetDesk$Letter", "isUnder", "([I)Z"⟩, prog_7_method_7_code, 2, some .boolean, []), 1, 1, 10)
set_option maxRecDepth 100000 in
theorem cm_k82 : ck_Mok cm_82 := ⟨Or.inl ⟨rfl, ck_tabi 843 rfl rfl⟩, by decide +kernel, by decide +kernel, by decide +kernel, ⟨ck_tabi 841 (by decide +kernel) rfl, ck_tabi 842 (by decide +kernel) rfl, _, _, rfl⟩⟩
def cm_83 : ck_MM := ((⟨"RatchetDesk$Letter", "number", "()I"⟩, prog_7_method_4_code, 1, some .int, []), 1, 0, 10)
set_option maxRecDepth 100000 in
theorem cm_k83 : ck_Mok cm_83 := ⟨Or.inl ⟨rfl, ck_tabi 839 rfl rfl⟩, by decide +kernel, by decide +kernel, by decide +kernel, ⟨ck_tabi 837 (by decide +kernel) rfl, ck_tabi 838 (by decide +kernel) rfl, _, _, rfl⟩⟩
def cm_84 : ck_MM := ((⟨"RatchetDesk$Letter", "oneTime", "()I"⟩, prog_7_method_6_code, 1, some .int, []), 1, 0, 10)
set_option maxRecDepth 100000 in
theorem cm_k84 : ck_Mok cm_84 := ⟨Or.inl ⟨rfl, ck_tabi 814 rfl rfl⟩, by decide +kernel, by decide +kernel, by decide +kernel, ⟨ck_tabi 812 (by decide +kernel) rfl, ck_tabi 813 (by decide +kernel) rfl, _, _, rfl⟩⟩
def cm_85 : ck_MM := ((⟨"RatchetDesk$Person", "<init>", "()V"⟩, prog_8_method_1_code, 2, none, []), 2, 0, 9)
set_option maxRecDepth 100000 in
theorem cm_k85 : ck_Mok cm_85 := ⟨Or.inl ⟨rfl, ck_tabi 299 rfl rfl⟩, by decide +kernel, by decide +kernel, by decide +kernel, ⟨ck_tabi 298 (by decide +kernel) rfl, rfl, ck_tabi 299 rfl rfl⟩⟩
def cm_86 : ck_MM := ((⟨"RatchetDesk$Person", "has", "(I)Z"⟩, prog_8_method_5_code, 2, some .boolean, []), 1, 1, 9)
set_option maxRecDepth 100000 in
theorem cm_k86 : ck_Mok cm_86 := ⟨Or.inl ⟨rfl, ck_tabi 818 rfl rfl⟩, by decide +kernel, by decide +kernel, by decide +kernel, ⟨ck_tabi 816 (by decide +kernel) rfl, ck_tabi 817 (by decide +kernel) rfl, _, _, rfl⟩⟩
def cm_87 : ck_MM := ((⟨"RatchetDesk$Person", "offerNext", "()I"⟩, prog_8_method_2_code, 1, some .int, []), 1, 0, 9)
set_option maxRecDepth 100000 in
theorem cm_k87 : ck_Mok cm_87 := ⟨Or.inl ⟨rfl, ck_tabi 642 rfl rfl⟩, by decide +kernel, by decide +kernel, by decide +kernel, ⟨ck_tabi 640 (by decide +kernel) rfl, ck_tabi 641 (by decide +kernel) rfl, _, _, rfl⟩⟩
def cm_88 : ck_MM := ((⟨"RatchetDesk$Person", "offered", "()I"⟩, prog_8_method_3_code, 3, some .int, []), 1, 0, 9)
set_option maxRecDepth 100000 in
theorem cm_k88 : ck_Mok cm_88 := ⟨Or.inl ⟨rfl, ck_tabi 653 rfl rfl⟩, by decide +kernel, by decide +kernel, by decide +kernel, ⟨ck_tabi 651 (by decide +kernel) rfl, ck_tabi 652 (by decide +kernel) rfl, _, _, rfl⟩⟩
def cm_89 : ck_MM := ((⟨"RatchetDesk$Person", "takeOffer", "()I"⟩, prog_8_method_4_code, 2, some .int, []), 1, 0, 9)
set_option maxRecDepth 100000 in
theorem cm_k89 : ck_Mok cm_89 := ⟨Or.inl ⟨rfl, ck_tabi 681 rfl rfl⟩, by decide +kernel, by decide +kernel, by decide +kernel, ⟨ck_tabi 679 (by decide +kernel) rfl, ck_tabi 680 (by decide +kernel) rfl, _, _, rfl⟩⟩
def cm_90 : ck_MM := ((⟨"RatchetDesk$Person", "use", "(I)V"⟩, prog_8_method_6_code, 2, none, []), 1, 1, 9)
set_option maxRecDepth 100000 in
theorem cm_k90 : ck_Mok cm_90 := ⟨Or.inl ⟨rfl, ck_tabi 884 rfl rfl⟩, by decide +kernel, by decide +kernel, by decide +kernel, ⟨ck_tabi 882 (by decide +kernel) rfl, ck_tabi 883 (by decide +kernel) rfl, _, _, rfl⟩⟩
def cm_91 : ck_MM := ((⟨"RatchetDesk$Seal", "<init>", "()V"⟩, prog_9_method_1_code, 1, none, []), 2, 0, 5)
set_option maxRecDepth 100000 in
theorem cm_k91 : ck_Mok cm_91 := ⟨Or.inl ⟨rfl, ck_tabi 146 rfl rfl⟩, by decide +kernel, by decide +kernel, by decide +kernel, ⟨ck_tabi 145 (by decide +kernel) rfl, rfl, ck_tabi 146 rfl rfl⟩⟩
def cm_92 : ck_MM := ((⟨"RatchetDesk$Seal", "coverLetter", "(LRatchetDesk$Letter;)V"⟩, prog_9_method_4_code, 3, none, []), 1, 1, 5)
set_option maxRecDepth 100000 in
theorem cm_k92 : ck_Mok cm_92 := ⟨Or.inl ⟨rfl, ck_tabi 773 rfl rfl⟩, by decide +kernel, by decide +kernel, by decide +kernel, ⟨ck_tabi 771 (by decide +kernel) rfl, ck_tabi 772 (by decide +kernel) rfl, _, _, rfl⟩⟩
def cm_93 : ck_MM := ((⟨"RatchetDesk$Seal", "fits", "(LRatchetDesk$Letter;)Z"⟩, prog_9_method_6_code, 2, some .boolean, []), 1, 1, 5)
set_option maxRecDepth 100000 in
theorem cm_k93 : ck_Mok cm_93 := ⟨Or.inl ⟨rfl, ck_tabi 874 rfl rfl⟩, by decide +kernel, by decide +kernel, by decide +kernel, ⟨ck_tabi 872 (by decide +kernel) rfl, ck_tabi 873 (by decide +kernel) rfl, _, _, rfl⟩⟩
def cm_94 : ck_MM := ((⟨"RatchetDesk$Seal", "markLetter", "(LRatchetDesk$Letter;)V"⟩, prog_9_method_5_code, 2, none, []), 1, 1, 5)
set_option maxRecDepth 100000 in
theorem cm_k94 : ck_Mok cm_94 := ⟨Or.inl ⟨rfl, ck_tabi 781 rfl rfl⟩, by decide +kernel, by decide +kernel, by decide +kernel, ⟨ck_tabi 779 (by decide +kernel) rfl, ck_tabi 780 (by decide +kernel) rfl, _, _, rfl⟩⟩
def cm_95 : ck_MM := ((⟨"RatchetDesk$Seal", "prepare", "([ILRatchetDesk$Letter;LRatchetDesk$Hash;)V"⟩, prog_9_method_2_code, 4, none, []), 1, 3, 5)
set_option maxRecDepth 100000 in
theorem cm_k95 : ck_Mok cm_95 := ⟨Or.inl ⟨rfl, ck_tabi 765 rfl rfl⟩, by decide +kernel, by decide +kernel, by decide +kernel, ⟨ck_tabi 763 (by decide +kernel) rfl, ck_tabi 764 (by decide +kernel) rfl, _, _, rfl⟩⟩
def cm_96 : ck_MM := ((⟨"RatchetDesk$Seal", "reckonMark", "([ILRatchetDesk$Letter;LRatchetDesk$Hash;)V"⟩, prog_9_method_3_code, 4, none, []), 1, 3, 5)
set_option maxRecDepth 100000 in
theorem cm_k96 : ck_Mok cm_96 := ⟨Or.inl ⟨rfl, ck_tabi 777 rfl rfl⟩, by decide +kernel, by decide +kernel, by decide +kernel, ⟨ck_tabi 775 (by decide +kernel) rfl, ck_tabi 776 (by decide +kernel) rfl, _, _, rfl⟩⟩
def cm_97 : ck_MM := ((⟨"RatchetDesk$Seal", "uncovered", "(LRatchetDesk$Letter;)J"⟩, prog_9_method_7_code, 2, some .long, []), 1, 1, 5)
set_option maxRecDepth 100000 in
theorem cm_k97 : ck_Mok cm_97 := ⟨Or.inl ⟨rfl, ck_tabi 879 rfl rfl⟩, by decide +kernel, by decide +kernel, by decide +kernel, ⟨ck_tabi 877 (by decide +kernel) rfl, ck_tabi 878 (by decide +kernel) rfl, _, _, rfl⟩⟩
def cm_98 : ck_MM := ((⟨"RatchetDesk$Secret", "<init>", "()V"⟩, prog_10_method_1_code, 1, none, []), 2, 0, 1)
set_option maxRecDepth 100000 in
theorem cm_k98 : ck_Mok cm_98 := ⟨Or.inl ⟨rfl, ck_tabi 40 rfl rfl⟩, by decide +kernel, by decide +kernel, by decide +kernel, ⟨ck_tabi 39 (by decide +kernel) rfl, rfl, ck_tabi 40 rfl rfl⟩⟩
def cm_99 : ck_MM := ((⟨"RatchetDesk$Secret", "copyOf", "(LRatchetDesk$Secret;)V"⟩, prog_10_method_3_code, 2, none, []), 1, 1, 1)
set_option maxRecDepth 100000 in
theorem cm_k99 : ck_Mok cm_99 := ⟨Or.inl ⟨rfl, ck_tabi 826 rfl rfl⟩, by decide +kernel, by decide +kernel, by decide +kernel, ⟨ck_tabi 824 (by decide +kernel) rfl, ck_tabi 825 (by decide +kernel) rfl, _, _, rfl⟩⟩
def cm_100 : ck_MM := ((⟨"RatchetDesk$Secret", "make", "(IILRatchetDesk$Hash;)V"⟩, prog_10_method_2_code, 4, none, []), 1, 3, 1)
set_option maxRecDepth 100000 in
theorem cm_k100 : ck_Mok cm_100 := ⟨Or.inl ⟨rfl, ck_tabi 352 rfl rfl⟩, by decide +kernel, by decide +kernel, by decide +kernel, ⟨ck_tabi 350 (by decide +kernel) rfl, ck_tabi 351 (by decide +kernel) rfl, _, _, rfl⟩⟩
def cm_101 : ck_MM := ((⟨"RatchetDesk$Secret", "shown", "(LRatchetDesk$Curve;)[I"⟩, prog_10_method_4_code, 2, some (.array .int), []), 1, 1, 1)
set_option maxRecDepth 100000 in
theorem cm_k101 : ck_Mok cm_101 := ⟨Or.inl ⟨rfl, ck_tabi 697 rfl rfl⟩, by decide +kernel, by decide +kernel, by decide +kernel, ⟨ck_tabi 695 (by decide +kernel) rfl, ck_tabi 696 (by decide +kernel) rfl, _, _, rfl⟩⟩
def cm_102 : ck_MM := ((⟨"RatchetDesk$Tools", "<init>", "()V"⟩, prog_11_method_1_code, 1, none, []), 2, 0, 2)
set_option maxRecDepth 100000 in
theorem cm_k102 : ck_Mok cm_102 := ⟨Or.inl ⟨rfl, ck_tabi 59 rfl rfl⟩, by decide +kernel, by decide +kernel, by decide +kernel, ⟨ck_tabi 58 (by decide +kernel) rfl, rfl, ck_tabi 59 rfl rfl⟩⟩
def cm_103 : ck_MM := ((⟨"RatchetDesk$Tools", "addAgreement", "([I[I)V"⟩, prog_11_method_3_code, 3, none, []), 1, 2, 2)
set_option maxRecDepth 100000 in
theorem cm_k103 : ck_Mok cm_103 := ⟨Or.inl ⟨rfl, ck_tabi 712 rfl rfl⟩, by decide +kernel, by decide +kernel, by decide +kernel, ⟨ck_tabi 710 (by decide +kernel) rfl, ck_tabi 711 (by decide +kernel) rfl, _, _, rfl⟩⟩
def cm_104 : ck_MM := ((⟨"RatchetDesk$Tools", "finishRoot", "([I)V"⟩, prog_11_method_4_code, 2, none, []), 1, 1, 2)
set_option maxRecDepth 100000 in
theorem cm_k104 : ck_Mok cm_104 := ⟨Or.inl ⟨rfl, ck_tabi 718 rfl rfl⟩, by decide +kernel, by decide +kernel, by decide +kernel, ⟨ck_tabi 716 (by decide +kernel) rfl, ck_tabi 717 (by decide +kernel) rfl, _, _, rfl⟩⟩
def cm_105 : ck_MM := ((⟨"RatchetDesk$Tools", "startRoot", "()V"⟩, prog_11_method_2_code, 2, none, []), 1, 0, 2)
set_option maxRecDepth 100000 in
theorem cm_k105 : ck_Mok cm_105 := ⟨Or.inl ⟨rfl, ck_tabi 706 rfl rfl⟩, by decide +kernel, by decide +kernel, by decide +kernel, ⟨ck_tabi 704 (by decide +kernel) rfl, ck_tabi 705 (by decide +kernel) rfl, _, _, rfl⟩⟩
def cm_106 : ck_MM := ((⟨"RatchetDeskLaw", "agree", "(LRatchetDesk;III)I"⟩, method_5_code, 5, some .int, [(0, 7, 10, 13)]), 0, 4, 99)
set_option maxRecDepth 100000 in
theorem cm_k106 : ck_Mok cm_106 := ⟨Or.inr (ck_tabi 523 rfl rfl), by decide +kernel, by decide +kernel, by decide +kernel, ⟨ck_tabi 522 (by decide +kernel) rfl, ck_tabi 0 (by decide +kernel) rfl⟩⟩
def cm_107 : ck_MM := ((⟨"RatchetDeskLaw", "answer", "(LRatchetDesk;II[J)I"⟩, method_13_code, 5, some .int, [(0, 10, 13, 13), (0, 10, 17, 34)]), 0, 4, 99)
set_option maxRecDepth 100000 in
theorem cm_k107 : ck_Mok cm_107 := ⟨Or.inr (ck_tabi 798 rfl rfl), by decide +kernel, by decide +kernel, by decide +kernel, ⟨ck_tabi 797 (by decide +kernel) rfl, ck_tabi 0 (by decide +kernel) rfl⟩⟩
def cm_108 : ck_MM := ((⟨"RatchetDeskLaw", "begin", "(LRatchetDesk;II[J)I"⟩, method_10_code, 5, some .int, [(0, 10, 13, 13), (0, 10, 17, 43), (0, 10, 21, 34)]), 0, 4, 99)
set_option maxRecDepth 100000 in
theorem cm_k108 : ck_Mok cm_108 := ⟨Or.inr (ck_tabi 656 rfl rfl), by decide +kernel, by decide +kernel, by decide +kernel, ⟨ck_tabi 655 (by decide +kernel) rfl, ck_tabi 0 (by decide +kernel) rfl⟩⟩
def cm_109 : ck_MM := ((⟨"RatchetDeskLaw", "cell", "([II)I"⟩, method_2_code, 2, some .int, []), 0, 2, 99)
set_option maxRecDepth 100000 in
theorem cm_k109 : ck_Mok cm_109 := ⟨Or.inl ⟨rfl, ck_tabi 428 rfl rfl⟩, by decide +kernel, by decide +kernel, by decide +kernel, ⟨ck_tabi 427 (by decide +kernel) rfl, ck_tabi 0 (by decide +kernel) rfl⟩⟩
def cm_110 : ck_MM := ((⟨"RatchetDeskLaw", "count", "(LRatchetDesk;II[J)I"⟩, method_19_code, 5, some .int, [(0, 10, 13, 13)]), 0, 4, 99)
set_option maxRecDepth 100000 in
theorem cm_k110 : ck_Mok cm_110 := ⟨Or.inr (ck_tabi 937 rfl rfl), by decide +kernel, by decide +kernel, by decide +kernel, ⟨ck_tabi 936 (by decide +kernel) rfl, ck_tabi 0 (by decide +kernel) rfl⟩⟩
def cm_111 : ck_MM := ((⟨"RatchetDeskLaw", "digest", "(LRatchetDesk;II)I"⟩, method_7_code, 4, some .int, [(0, 6, 9, 13)]), 0, 3, 99)
set_option maxRecDepth 100000 in
theorem cm_k111 : ck_Mok cm_111 := ⟨Or.inr (ck_tabi 604 rfl rfl), by decide +kernel, by decide +kernel, by decide +kernel, ⟨ck_tabi 603 (by decide +kernel) rfl, ck_tabi 0 (by decide +kernel) rfl⟩⟩
def cm_112 : ck_MM := ((⟨"RatchetDeskLaw", "forge", "(LRatchetDesk;III[J)I"⟩, method_12_code, 6, some .int, [(0, 12, 15, 13), (0, 12, 19, 43), (0, 12, 23, 34)]), 0, 5, 99)
set_option maxRecDepth 100000 in
theorem cm_k112 : ck_Mok cm_112 := ⟨Or.inr (ck_tabi 785 rfl rfl), by decide +kernel, by decide +kernel, by decide +kernel, ⟨ck_tabi 784 (by decide +kernel) rfl, ck_tabi 0 (by decide +kernel) rfl⟩⟩
def cm_113 : ck_MM := ((⟨"RatchetDeskLaw", "get", "(LRatchetDesk;II[J)I"⟩, method_4_code, 5, some .int, [(0, 9, 12, 13)]), 0, 4, 99)
set_option maxRecDepth 100000 in
theorem cm_k113 : ck_Mok cm_113 := ⟨Or.inr (ck_tabi 513 rfl rfl), by decide +kernel, by decide +kernel, by decide +kernel, ⟨ck_tabi 512 (by decide +kernel) rfl, ck_tabi 0 (by decide +kernel) rfl⟩⟩
def cm_114 : ck_MM := ((⟨"RatchetDeskLaw", "keeps", "(LRatchetDesk;II[J)I"⟩, method_20_code, 5, some .int, [(0, 17, 20, 13)]), 0, 4, 99)
set_option maxRecDepth 100000 in
theorem cm_k114 : ck_Mok cm_114 := ⟨Or.inr (ck_tabi 944 rfl rfl), by decide +kernel, by decide +kernel, by decide +kernel, ⟨ck_tabi 943 (by decide +kernel) rfl, ck_tabi 0 (by decide +kernel) rfl⟩⟩
def cm_115 : ck_MM := ((⟨"RatchetDeskLaw", "length", "(LRatchetDesk;I[J)I"⟩, method_17_code, 4, some .int, [(0, 9, 12, 13)]), 0, 3, 99)
set_option maxRecDepth 100000 in
theorem cm_k115 : ck_Mok cm_115 := ⟨Or.inr (ck_tabi 923 rfl rfl), by decide +kernel, by decide +kernel, by decide +kernel, ⟨ck_tabi 922 (by decide +kernel) rfl, ck_tabi 0 (by decide +kernel) rfl⟩⟩
def cm_116 : ck_MM := ((⟨"RatchetDeskLaw", "mac", "(LRatchetDesk;III)I"⟩, method_6_code, 5, some .int, [(0, 7, 10, 13)]), 0, 4, 99)
set_option maxRecDepth 100000 in
theorem cm_k116 : ck_Mok cm_116 := ⟨Or.inr (ck_tabi 574 rfl rfl), by decide +kernel, by decide +kernel, by decide +kernel, ⟨ck_tabi 573 (by decide +kernel) rfl, ck_tabi 0 (by decide +kernel) rfl⟩⟩
def cm_117 : ck_MM := ((⟨"RatchetDeskLaw", "offers", "(LRatchetDesk;I[J)I"⟩, method_9_code, 4, some .int, [(0, 9, 12, 13)]), 0, 3, 99)
set_option maxRecDepth 100000 in
theorem cm_k117 : ck_Mok cm_117 := ⟨Or.inr (ck_tabi 645 rfl rfl), by decide +kernel, by decide +kernel, by decide +kernel, ⟨ck_tabi 644 (by decide +kernel) rfl, ck_tabi 0 (by decide +kernel) rfl⟩⟩
def cm_118 : ck_MM := ((⟨"RatchetDeskLaw", "open", "(LRatchetDesk;II[J)I"⟩, method_14_code, 5, some .int, [(0, 10, 13, 13)]), 0, 4, 99)
set_option maxRecDepth 100000 in
theorem cm_k118 : ck_Mok cm_118 := ⟨Or.inr (ck_tabi 887 rfl rfl), by decide +kernel, by decide +kernel, by decide +kernel, ⟨ck_tabi 886 (by decide +kernel) rfl, ck_tabi 0 (by decide +kernel) rfl⟩⟩
def cm_119 : ck_MM := ((⟨"RatchetDeskLaw", "person", "(LRatchetDesk;IZ[J)I"⟩, method_16_code, 5, some .int, [(0, 10, 13, 13)]), 0, 4, 99)
set_option maxRecDepth 100000 in
theorem cm_k119 : ck_Mok cm_119 := ⟨Or.inr (ck_tabi 916 rfl rfl), by decide +kernel, by decide +kernel, by decide +kernel, ⟨ck_tabi 915 (by decide +kernel) rfl, ck_tabi 0 (by decide +kernel) rfl⟩⟩
def cm_120 : ck_MM := ((⟨"RatchetDeskLaw", "put", "(LRatchetDesk;IIJ)I"⟩, method_3_code, 6, some .int, [(0, 7, 10, 13)]), 0, 4, 99)
set_option maxRecDepth 100000 in
theorem cm_k120 : ck_Mok cm_120 := ⟨Or.inr (ck_tabi 431 rfl rfl), by decide +kernel, by decide +kernel, by decide +kernel, ⟨ck_tabi 430 (by decide +kernel) rfl, ck_tabi 0 (by decide +kernel) rfl⟩⟩
def cm_121 : ck_MM := ((⟨"RatchetDeskLaw", "send", "(LRatchetDesk;IJ[J)I"⟩, method_11_code, 6, some .int, [(0, 11, 14, 13), (0, 11, 18, 34)]), 0, 4, 99)
set_option maxRecDepth 100000 in
theorem cm_k121 : ck_Mok cm_121 := ⟨Or.inr (ck_tabi 744 rfl rfl), by decide +kernel, by decide +kernel, by decide +kernel, ⟨ck_tabi 743 (by decide +kernel) rfl, ck_tabi 0 (by decide +kernel) rfl⟩⟩
def cm_122 : ck_MM := ((⟨"RatchetDeskLaw", "stock", "(LRatchetDesk;I[J)I"⟩, method_8_code, 4, some .int, [(0, 9, 12, 13), (0, 9, 15, 34)]), 0, 3, 99)
set_option maxRecDepth 100000 in
theorem cm_k122 : ck_Mok cm_122 := ⟨Or.inr (ck_tabi 614 rfl rfl), by decide +kernel, by decide +kernel, by decide +kernel, ⟨ck_tabi 613 (by decide +kernel) rfl, ck_tabi 0 (by decide +kernel) rfl⟩⟩
def cm_123 : ck_MM := ((⟨"RatchetDeskLaw", "text", "(LRatchetDesk;I[J)I"⟩, method_15_code, 4, some .int, [(0, 8, 11, 13)]), 0, 3, 99)
set_option maxRecDepth 100000 in
theorem cm_k123 : ck_Mok cm_123 := ⟨Or.inr (ck_tabi 909 rfl rfl), by decide +kernel, by decide +kernel, by decide +kernel, ⟨ck_tabi 908 (by decide +kernel) rfl, ck_tabi 0 (by decide +kernel) rfl⟩⟩
def cm_124 : ck_MM := ((⟨"RatchetDeskLaw", "wire", "(LRatchetDesk;II[J)I"⟩, method_18_code, 5, some .int, [(0, 10, 13, 13)]), 0, 4, 99)
set_option maxRecDepth 100000 in
theorem cm_k124 : ck_Mok cm_124 := ⟨Or.inr (ck_tabi 930 rfl rfl), by decide +kernel, by decide +kernel, by decide +kernel, ⟨ck_tabi 929 (by decide +kernel) rfl, ck_tabi 0 (by decide +kernel) rfl⟩⟩
def cm_125 : ck_MM := ((⟨"RatchetDeskLaw", "word", "(LRatchetDesk;III[J)I"⟩, method_21_code, 6, some .int, [(0, 11, 14, 13)]), 0, 5, 99)
set_option maxRecDepth 100000 in
theorem cm_k125 : ck_Mok cm_125 := ⟨Or.inr (ck_tabi 952 rfl rfl), by decide +kernel, by decide +kernel, by decide +kernel, ⟨ck_tabi 951 (by decide +kernel) rfl, ck_tabi 0 (by decide +kernel) rfl⟩⟩
def cm_126 : ck_MM := ((⟨"RatchetDeskModel", "<init>", "(I)V"⟩, prog_13_method_1_code, 2, none, []), 2, 1, 11)
set_option maxRecDepth 100000 in
theorem cm_k126 : ck_Mok cm_126 := ⟨Or.inl ⟨rfl, ck_tabi 961 rfl rfl⟩, by decide +kernel, by decide +kernel, by decide +kernel, ⟨ck_tabi 960 (by decide +kernel) rfl, rfl, ck_tabi 961 rfl rfl⟩⟩
def cm_127 : ck_MM := ((⟨"RatchetDeskModel", "advance", "(II)V"⟩, prog_13_method_46_code, 3, none, []), 1, 2, 11)
set_option maxRecDepth 100000 in
theorem cm_k127 : ck_Mok cm_127 := ⟨Or.inl ⟨rfl, ck_tabi 1327 rfl rfl⟩, by decide +kernel, by decide +kernel, by decide +kernel, ⟨ck_tabi 1326 (by decide +kernel) rfl, ck_seli 43 (by decide +kernel) rfl, _, _, rfl⟩⟩
def cm_128 : ck_MM := ((⟨"RatchetDeskModel", "agree", "(III)V"⟩, prog_13_method_34_code, 4, none, []), 1, 3, 11)
set_option maxRecDepth 100000 in
theorem cm_k128 : ck_Mok cm_128 := ⟨Or.inl ⟨rfl, ck_tabi 1178 rfl rfl⟩, by decide +kernel, by decide +kernel, by decide +kernel, ⟨ck_tabi 1176 (by decide +kernel) rfl, ck_tabi 1177 (by decide +kernel) rfl, _, _, rfl⟩⟩
def cm_129 : ck_MM := ((⟨"RatchetDeskModel", "answer", "(II)I"⟩, prog_13_method_61_code, 7, some .int, []), 1, 2, 11)
set_option maxRecDepth 100000 in
theorem cm_k129 : ck_Mok cm_129 := ⟨Or.inl ⟨rfl, ck_tabi 1387 rfl rfl⟩, by decide +kernel, by decide +kernel, by decide +kernel, ⟨ck_tabi 1385 (by decide +kernel) rfl, ck_tabi 1386 (by decide +kernel) rfl, _, _, rfl⟩⟩
def cm_130 : ck_MM := ((⟨"RatchetDeskModel", "begin", "(II)I"⟩, prog_13_method_45_code, 7, some .int, []), 1, 2, 11)
set_option maxRecDepth 100000 in
theorem cm_k130 : ck_Mok cm_130 := ⟨Or.inl ⟨rfl, ck_tabi 1280 rfl rfl⟩, by decide +kernel, by decide +kernel, by decide +kernel, ⟨ck_tabi 1278 (by decide +kernel) rfl, ck_tabi 1279 (by decide +kernel) rfl, _, _, rfl⟩⟩
def cm_131 : ck_MM := ((⟨"RatchetDeskModel", "bitOf", "(II)I"⟩, prog_13_method_25_code, 2, some .int, []), 0, 2, 11)
set_option maxRecDepth 100000 in
theorem cm_k131 : ck_Mok cm_131 := ⟨Or.inl ⟨rfl, ck_tabi 1194 rfl rfl⟩, by decide +kernel, by decide +kernel, by decide +kernel, ⟨ck_tabi 1193 (by decide +kernel) rfl, ck_tabi 13 (by decide +kernel) rfl⟩⟩
def cm_132 : ck_MM := ((⟨"RatchetDeskModel", "block", "(I)V"⟩, prog_13_method_7_code, 8, none, []), 1, 1, 11)
set_option maxRecDepth 100000 in
theorem cm_k132 : ck_Mok cm_132 := ⟨Or.inl ⟨rfl, ck_tabi 1261 rfl rfl⟩, by decide +kernel, by decide +kernel, by decide +kernel, ⟨ck_tabi 1260 (by decide +kernel) rfl, ck_seli 33 (by decide +kernel) rfl, _, _, rfl⟩⟩
def cm_133 : ck_MM := ((⟨"RatchetDeskModel", "carry", "(I)V"⟩, prog_13_method_17_code, 6, none, []), 1, 1, 11)
set_option maxRecDepth 100000 in
theorem cm_k133 : ck_Mok cm_133 := ⟨Or.inl ⟨rfl, ck_tabi 1206 rfl rfl⟩, by decide +kernel, by decide +kernel, by decide +kernel, ⟨ck_tabi 1205 (by decide +kernel) rfl, ck_seli 22 (by decide +kernel) rfl, _, _, rfl⟩⟩
def cm_134 : ck_MM := ((⟨"RatchetDeskModel", "change", "(II)V"⟩, prog_13_method_21_code, 6, none, []), 1, 2, 11)
set_option maxRecDepth 100000 in
theorem cm_k134 : ck_Mok cm_134 := ⟨Or.inl ⟨rfl, ck_tabi 1198 rfl rfl⟩, by decide +kernel, by decide +kernel, by decide +kernel, ⟨ck_tabi 1197 (by decide +kernel) rfl, ck_seli 20 (by decide +kernel) rfl, _, _, rfl⟩⟩
def cm_135 : ck_MM := ((⟨"RatchetDeskModel", "clearEnd", "(IIIZ)V"⟩, prog_13_method_42_code, 6, none, []), 1, 4, 11)
set_option maxRecDepth 100000 in
theorem cm_k135 : ck_Mok cm_135 := ⟨Or.inl ⟨rfl, ck_tabi 1284 rfl rfl⟩, by decide +kernel, by decide +kernel, by decide +kernel, ⟨ck_tabi 1283 (by decide +kernel) rfl, ck_seli 34 (by decide +kernel) rfl, _, _, rfl⟩⟩
def cm_136 : ck_MM := ((⟨"RatchetDeskModel", "clearMessage", "()V"⟩, prog_13_method_9_code, 1, none, []), 1, 0, 11)
set_option maxRecDepth 100000 in
theorem cm_k136 : ck_Mok cm_136 := ⟨Or.inl ⟨rfl, ck_tabi 1237 rfl rfl⟩, by decide +kernel, by decide +kernel, by decide +kernel, ⟨ck_tabi 1236 (by decide +kernel) rfl, ck_seli 27 (by decide +kernel) rfl, _, _, rfl⟩⟩
def cm_137 : ck_MM := ((⟨"RatchetDeskModel", "copyEnd", "(II)V"⟩, prog_13_method_43_code, 4, none, []), 1, 2, 11)
set_option maxRecDepth 100000 in
theorem cm_k137 : ck_Mok cm_137 := ⟨Or.inl ⟨rfl, ck_tabi 1355 rfl rfl⟩, by decide +kernel, by decide +kernel, by decide +kernel, ⟨ck_tabi 1354 (by decide +kernel) rfl, ck_seli 48 (by decide +kernel) rfl, _, _, rfl⟩⟩
def cm_138 : ck_MM := ((⟨"RatchetDeskModel", "copyKey", "(II)V"⟩, prog_13_method_15_code, 4, none, []), 1, 2, 11)
set_option maxRecDepth 100000 in
theorem cm_k138 : ck_Mok cm_138 := ⟨Or.inl ⟨rfl, ck_tabi 1229 rfl rfl⟩, by decide +kernel, by decide +kernel, by decide +kernel, ⟨ck_tabi 1228 (by decide +kernel) rfl, ck_seli 26 (by decide +kernel) rfl, _, _, rfl⟩⟩
def cm_139 : ck_MM := ((⟨"RatchetDeskModel", "count", "(II)I"⟩, prog_13_method_68_code, 3, some .int, []), 1, 2, 11)
set_option maxRecDepth 100000 in
theorem cm_k139 : ck_Mok cm_139 := ⟨Or.inl ⟨rfl, ck_tabi 1419 rfl rfl⟩, by decide +kernel, by decide +kernel, by decide +kernel, ⟨ck_tabi 1417 (by decide +kernel) rfl, ck_tabi 1418 (by decide +kernel) rfl, _, _, rfl⟩⟩
def cm_140 : ck_MM := ((⟨"RatchetDeskModel", "digest", "(II)V"⟩, prog_13_method_36_code, 4, none, []), 1, 2, 11)
set_option maxRecDepth 100000 in
theorem cm_k140 : ck_Mok cm_140 := ⟨Or.inl ⟨rfl, ck_tabi 1268 rfl rfl⟩, by decide +kernel, by decide +kernel, by decide +kernel, ⟨ck_tabi 1266 (by decide +kernel) rfl, ck_tabi 1267 (by decide +kernel) rfl, _, _, rfl⟩⟩
def cm_141 : ck_MM := ((⟨"RatchetDeskModel", "dropKept", "(II)V"⟩, prog_13_method_55_code, 5, none, []), 1, 2, 11)
set_option maxRecDepth 100000 in
theorem cm_k141 : ck_Mok cm_141 := ⟨Or.inl ⟨rfl, ck_tabi 1375 rfl rfl⟩, by decide +kernel, by decide +kernel, by decide +kernel, ⟨ck_tabi 1374 (by decide +kernel) rfl, ck_seli 53 (by decide +kernel) rfl, _, _, rfl⟩⟩
def cm_142 : ck_MM := ((⟨"RatchetDeskModel", "eightAt", "(I)J"⟩, prog_13_method_32_code, 5, some .long, []), 1, 1, 11)
set_option maxRecDepth 100000 in
theorem cm_k142 : ck_Mok cm_142 := ⟨Or.inl ⟨rfl, ck_tabi 1174 rfl rfl⟩, by decide +kernel, by decide +kernel, by decide +kernel, ⟨ck_tabi 1173 (by decide +kernel) rfl, ck_seli 16 (by decide +kernel) rfl, _, _, rfl⟩⟩
def cm_143 : ck_MM := ((⟨"RatchetDeskModel", "ends", "()I"⟩, prog_13_method_63_code, 1, some .int, []), 1, 0, 11)
set_option maxRecDepth 100000 in
theorem cm_k143 : ck_Mok cm_143 := ⟨Or.inl ⟨rfl, ck_tabi 1399 rfl rfl⟩, by decide +kernel, by decide +kernel, by decide +kernel, ⟨ck_tabi 1397 (by decide +kernel) rfl, ck_tabi 1398 (by decide +kernel) rfl, _, _, rfl⟩⟩
def cm_144 : ck_MM := ((⟨"RatchetDeskModel", "findKey", "(IZ)I"⟩, prog_13_method_57_code, 5, some .int, []), 1, 2, 11)
set_option maxRecDepth 100000 in
theorem cm_k144 : ck_Mok cm_144 := ⟨Or.inl ⟨rfl, ck_tabi 1379 rfl rfl⟩, by decide +kernel, by decide +kernel, by decide +kernel, ⟨ck_tabi 1378 (by decide +kernel) rfl, ck_seli 54 (by decide +kernel) rfl, _, _, rfl⟩⟩
def cm_145 : ck_MM := ((⟨"RatchetDeskModel", "firstRoot", "(II)V"⟩, prog_13_method_44_code, 4, none, []), 1, 2, 11)
set_option maxRecDepth 100000 in
theorem cm_k145 : ck_Mok cm_145 := ⟨Or.inl ⟨rfl, ck_tabi 1307 rfl rfl⟩, by decide +kernel, by decide +kernel, by decide +kernel, ⟨ck_tabi 1306 (by decide +kernel) rfl, ck_seli 39 (by decide +kernel) rfl, _, _, rfl⟩⟩
def cm_146 : ck_MM := ((⟨"RatchetDeskModel", "forge", "(III)I"⟩, prog_13_method_52_code, 6, some .int, []), 1, 3, 11)
set_option maxRecDepth 100000 in
theorem cm_k146 : ck_Mok cm_146 := ⟨Or.inl ⟨rfl, ck_tabi 1347 rfl rfl⟩, by decide +kernel, by decide +kernel, by decide +kernel, ⟨ck_tabi 1345 (by decide +kernel) rfl, ck_tabi 1346 (by decide +kernel) rfl, _, _, rfl⟩⟩
def cm_147 : ck_MM := ((⟨"RatchetDeskModel", "four", "(IIIII)V"⟩, prog_13_method_2_code, 6, none, []), 1, 5, 11)
set_option maxRecDepth 100000 in
theorem cm_k147 : ck_Mok cm_147 := ⟨Or.inl ⟨rfl, ck_tabi 970 rfl rfl⟩, by decide +kernel, by decide +kernel, by decide +kernel, ⟨ck_tabi 969 (by decide +kernel) rfl, ck_seli 14 (by decide +kernel) rfl, _, _, rfl⟩⟩
def cm_148 : ck_MM := ((⟨"RatchetDeskModel", "get", "(II)J"⟩, prog_13_method_33_code, 3, some .long, []), 1, 2, 11)
set_option maxRecDepth 100000 in
theorem cm_k148 : ck_Mok cm_148 := ⟨Or.inl ⟨rfl, ck_tabi 1170 rfl rfl⟩, by decide +kernel, by decide +kernel, by decide +kernel, ⟨ck_tabi 1168 (by decide +kernel) rfl, ck_tabi 1169 (by decide +kernel) rfl, _, _, rfl⟩⟩
def cm_149 : ck_MM := ((⟨"RatchetDeskModel", "hashRow", "(II)V"⟩, prog_13_method_8_code, 5, none, []), 1, 2, 11)
set_option maxRecDepth 100000 in
theorem cm_k149 : ck_Mok cm_149 := ⟨Or.inl ⟨rfl, ck_tabi 1257 rfl rfl⟩, by decide +kernel, by decide +kernel, by decide +kernel, ⟨ck_tabi 1256 (by decide +kernel) rfl, ck_seli 32 (by decide +kernel) rfl, _, _, rfl⟩⟩
def cm_150 : ck_MM := ((⟨"RatchetDeskModel", "headerKey", "(I)I"⟩, prog_13_method_53_code, 3, some .int, []), 1, 1, 11)
set_option maxRecDepth 100000 in
theorem cm_k150 : ck_Mok cm_150 := ⟨Or.inl ⟨rfl, ck_tabi 1367 rfl rfl⟩, by decide +kernel, by decide +kernel, by decide +kernel, ⟨ck_tabi 1366 (by decide +kernel) rfl, ck_seli 51 (by decide +kernel) rfl, _, _, rfl⟩⟩
def cm_151 : ck_MM := ((⟨"RatchetDeskModel", "invert", "()V"⟩, prog_13_method_24_code, 2, none, []), 1, 0, 11)
set_option maxRecDepth 100000 in
theorem cm_k151 : ck_Mok cm_151 := ⟨Or.inl ⟨rfl, ck_tabi 1217 rfl rfl⟩, by decide +kernel, by decide +kernel, by decide +kernel, ⟨ck_tabi 1216 (by decide +kernel) rfl, ck_seli 24 (by decide +kernel) rfl, _, _, rfl⟩⟩
def cm_152 : ck_MM := ((⟨"RatchetDeskModel", "isFirst", "(II)Z"⟩, prog_13_method_60_code, 6, some .boolean, []), 1, 2, 11)
set_option maxRecDepth 100000 in
theorem cm_k152 : ck_Mok cm_152 := ⟨Or.inl ⟨rfl, ck_tabi 1391 rfl rfl⟩, by decide +kernel, by decide +kernel, by decide +kernel, ⟨ck_tabi 1390 (by decide +kernel) rfl, ck_seli 56 (by decide +kernel) rfl, _, _, rfl⟩⟩
def cm_153 : ck_MM := ((⟨"RatchetDeskModel", "isIn", "(II)Z"⟩, prog_13_method_5_code, 2, some .boolean, []), 0, 2, 11)
set_option maxRecDepth 100000 in
theorem cm_k153 : ck_Mok cm_153 := ⟨Or.inl ⟨rfl, ck_tabi 1162 rfl rfl⟩, by decide +kernel, by decide +kernel, by decide +kernel, ⟨ck_tabi 1161 (by decide +kernel) rfl, ck_tabi 13 (by decide +kernel) rfl⟩⟩
def cm_154 : ck_MM := ((⟨"RatchetDeskModel", "isSameKey", "(II)Z"⟩, prog_13_method_16_code, 5, some .boolean, []), 1, 2, 11)
set_option maxRecDepth 100000 in
theorem cm_k154 : ck_Mok cm_154 := ⟨Or.inl ⟨rfl, ck_tabi 1371 rfl rfl⟩, by decide +kernel, by decide +kernel, by decide +kernel, ⟨ck_tabi 1370 (by decide +kernel) rfl, ck_seli 52 (by decide +kernel) rfl, _, _, rfl⟩⟩
def cm_155 : ck_MM := ((⟨"RatchetDeskModel", "keepUpTo", "(II)Z"⟩, prog_13_method_56_code, 5, some .boolean, []), 1, 2, 11)
set_option maxRecDepth 100000 in
theorem cm_k155 : ck_Mok cm_155 := ⟨Or.inl ⟨rfl, ck_tabi 1383 rfl rfl⟩, by decide +kernel, by decide +kernel, by decide +kernel, ⟨ck_tabi 1382 (by decide +kernel) rfl, ck_seli 55 (by decide +kernel) rfl, _, _, rfl⟩⟩
def cm_156 : ck_MM := ((⟨"RatchetDeskModel", "keeps", "(II)Z"⟩, prog_13_method_69_code, 3, some .boolean, []), 1, 2, 11)
set_option maxRecDepth 100000 in
theorem cm_k156 : ck_Mok cm_156 := ⟨Or.inl ⟨rfl, ck_tabi 1423 rfl rfl⟩, by decide +kernel, by decide +kernel, by decide +kernel, ⟨ck_tabi 1421 (by decide +kernel) rfl, ck_tabi 1422 (by decide +kernel) rfl, _, _, rfl⟩⟩
def cm_157 : ck_MM := ((⟨"RatchetDeskModel", "keptFor", "(II)I"⟩, prog_13_method_54_code, 7, some .int, []), 1, 2, 11)
set_option maxRecDepth 100000 in
theorem cm_k157 : ck_Mok cm_157 := ⟨Or.inl ⟨rfl, ck_tabi 1363 rfl rfl⟩, by decide +kernel, by decide +kernel, by decide +kernel, ⟨ck_tabi 1362 (by decide +kernel) rfl, ck_seli 50 (by decide +kernel) rfl, _, _, rfl⟩⟩
def cm_158 : ck_MM := ((⟨"RatchetDeskModel", "known", "(I)I"⟩, prog_13_method_29_code, 2, some .int, []), 1, 1, 11)
set_option maxRecDepth 100000 in
theorem cm_k158 : ck_Mok cm_158 := ⟨Or.inl ⟨rfl, ck_tabi 1291 rfl rfl⟩, by decide +kernel, by decide +kernel, by decide +kernel, ⟨ck_tabi 1290 (by decide +kernel) rfl, ck_seli 35 (by decide +kernel) rfl, _, _, rfl⟩⟩
def cm_159 : ck_MM := ((⟨"RatchetDeskModel", "knownKept", "(I)I"⟩, prog_13_method_50_code, 2, some .int, []), 1, 1, 11)
set_option maxRecDepth 100000 in
theorem cm_k159 : ck_Mok cm_159 := ⟨Or.inl ⟨rfl, ck_tabi 1343 rfl rfl⟩, by decide +kernel, by decide +kernel, by decide +kernel, ⟨ck_tabi 1342 (by decide +kernel) rfl, ck_seli 47 (by decide +kernel) rfl, _, _, rfl⟩⟩
def cm_160 : ck_MM := ((⟨"RatchetDeskModel", "length", "(I)I"⟩, prog_13_method_66_code, 2, some .int, []), 1, 1, 11)
set_option maxRecDepth 100000 in
theorem cm_k160 : ck_Mok cm_160 := ⟨Or.inl ⟨rfl, ck_tabi 1411 rfl rfl⟩, by decide +kernel, by decide +kernel, by decide +kernel, ⟨ck_tabi 1409 (by decide +kernel) rfl, ck_tabi 1410 (by decide +kernel) rfl, _, _, rfl⟩⟩
def cm_161 : ck_MM := ((⟨"RatchetDeskModel", "letters", "()I"⟩, prog_13_method_65_code, 1, some .int, []), 1, 0, 11)
set_option maxRecDepth 100000 in
theorem cm_k161 : ck_Mok cm_161 := ⟨Or.inl ⟨rfl, ck_tabi 1407 rfl rfl⟩, by decide +kernel, by decide +kernel, by decide +kernel, ⟨ck_tabi 1405 (by decide +kernel) rfl, ck_tabi 1406 (by decide +kernel) rfl, _, _, rfl⟩⟩
def cm_162 : ck_MM := ((⟨"RatchetDeskModel", "mac", "(III)V"⟩, prog_13_method_35_code, 4, none, []), 1, 3, 11)
set_option maxRecDepth 100000 in
theorem cm_k162 : ck_Mok cm_162 := ⟨Or.inl ⟨rfl, ck_tabi 1233 rfl rfl⟩, by decide +kernel, by decide +kernel, by decide +kernel, ⟨ck_tabi 1231 (by decide +kernel) rfl, ck_tabi 1232 (by decide +kernel) rfl, _, _, rfl⟩⟩
def cm_163 : ck_MM := ((⟨"RatchetDeskModel", "makePublic", "(II)V"⟩, prog_13_method_28_code, 3, none, []), 1, 2, 11)
set_option maxRecDepth 100000 in
theorem cm_k163 : ck_Mok cm_163 := ⟨Or.inl ⟨rfl, ck_tabi 1295 rfl rfl⟩, by decide +kernel, by decide +kernel, by decide +kernel, ⟨ck_tabi 1294 (by decide +kernel) rfl, ck_seli 36 (by decide +kernel) rfl, _, _, rfl⟩⟩
def cm_164 : ck_MM := ((⟨"RatchetDeskModel", "makeSecret", "(II)V"⟩, prog_13_method_27_code, 4, none, []), 1, 2, 11)
set_option maxRecDepth 100000 in
theorem cm_k164 : ck_Mok cm_164 := ⟨Or.inl ⟨rfl, ck_tabi 1299 rfl rfl⟩, by decide +kernel, by decide +kernel, by decide +kernel, ⟨ck_tabi 1298 (by decide +kernel) rfl, ck_seli 37 (by decide +kernel) rfl, _, _, rfl⟩⟩
def cm_165 : ck_MM := ((⟨"RatchetDeskModel", "markLetter", "(III)V"⟩, prog_13_method_49_code, 9, none, []), 1, 3, 11)
set_option maxRecDepth 100000 in
theorem cm_k165 : ck_Mok cm_165 := ⟨Or.inl ⟨rfl, ck_tabi 1339 rfl rfl⟩, by decide +kernel, by decide +kernel, by decide +kernel, ⟨ck_tabi 1338 (by decide +kernel) rfl, ck_seli 46 (by decide +kernel) rfl, _, _, rfl⟩⟩
def cm_166 : ck_MM := ((⟨"RatchetDeskModel", "markMessage", "(II)V"⟩, prog_13_method_13_code, 4, none, []), 1, 2, 11)
set_option maxRecDepth 100000 in
theorem cm_k166 : ck_Mok cm_166 := ⟨Or.inl ⟨rfl, ck_tabi 1249 rfl rfl⟩, by decide +kernel, by decide +kernel, by decide +kernel, ⟨ck_tabi 1248 (by decide +kernel) rfl, ck_seli 30 (by decide +kernel) rfl, _, _, rfl⟩⟩
def cm_167 : ck_MM := ((⟨"RatchetDeskModel", "offers", "(I)I"⟩, prog_13_method_38_code, 4, some .int, []), 1, 1, 11)
set_option maxRecDepth 100000 in
theorem cm_k167 : ck_Mok cm_167 := ⟨Or.inl ⟨rfl, ck_tabi 1276 rfl rfl⟩, by decide +kernel, by decide +kernel, by decide +kernel, ⟨ck_tabi 1274 (by decide +kernel) rfl, ck_tabi 1275 (by decide +kernel) rfl, _, _, rfl⟩⟩
def cm_168 : ck_MM := ((⟨"RatchetDeskModel", "open", "(II)I"⟩, prog_13_method_59_code, 4, some .int, []), 1, 2, 11)
set_option maxRecDepth 100000 in
theorem cm_k168 : ck_Mok cm_168 := ⟨Or.inl ⟨rfl, ck_tabi 1351 rfl rfl⟩, by decide +kernel, by decide +kernel, by decide +kernel, ⟨ck_tabi 1349 (by decide +kernel) rfl, ck_tabi 1350 (by decide +kernel) rfl, _, _, rfl⟩⟩
def cm_169 : ck_MM := ((⟨"RatchetDeskModel", "pack", "(II)V"⟩, prog_13_method_23_code, 11, none, []), 1, 2, 11)
set_option maxRecDepth 100000 in
theorem cm_k169 : ck_Mok cm_169 := ⟨Or.inl ⟨rfl, ck_tabi 1221 rfl rfl⟩, by decide +kernel, by decide +kernel, by decide +kernel, ⟨ck_tabi 1220 (by decide +kernel) rfl, ck_seli 25 (by decide +kernel) rfl, _, _, rfl⟩⟩
def cm_170 : ck_MM := ((⟨"RatchetDeskModel", "pad", "(II)V"⟩, prog_13_method_12_code, 4, none, []), 1, 2, 11)
set_option maxRecDepth 100000 in
theorem cm_k170 : ck_Mok cm_170 := ⟨Or.inl ⟨rfl, ck_tabi 1253 rfl rfl⟩, by decide +kernel, by decide +kernel, by decide +kernel, ⟨ck_tabi 1252 (by decide +kernel) rfl, ck_seli 31 (by decide +kernel) rfl, _, _, rfl⟩⟩
def cm_171 : ck_MM := ((⟨"RatchetDeskModel", "person", "(IZ)I"⟩, prog_13_method_64_code, 3, some .int, []), 1, 2, 11)
set_option maxRecDepth 100000 in
theorem cm_k171 : ck_Mok cm_171 := ⟨Or.inl ⟨rfl, ck_tabi 1403 rfl rfl⟩, by decide +kernel, by decide +kernel, by decide +kernel, ⟨ck_tabi 1401 (by decide +kernel) rfl, ck_tabi 1402 (by decide +kernel) rfl, _, _, rfl⟩⟩
def cm_172 : ck_MM := ((⟨"RatchetDeskModel", "placeOf", "(I)I"⟩, prog_13_method_39_code, 1, some .int, []), 0, 1, 11)
set_option maxRecDepth 100000 in
theorem cm_k172 : ck_Mok cm_172 := ⟨Or.inl ⟨rfl, ck_tabi 1287 rfl rfl⟩, by decide +kernel, by decide +kernel, by decide +kernel, ⟨ck_tabi 1286 (by decide +kernel) rfl, ck_tabi 13 (by decide +kernel) rfl⟩⟩
def cm_173 : ck_MM := ((⟨"RatchetDeskModel", "plus", "(IIIJ)V"⟩, prog_13_method_19_code, 7, none, []), 1, 4, 11)
set_option maxRecDepth 100000 in
theorem cm_k173 : ck_Mok cm_173 := ⟨Or.inl ⟨rfl, ck_tabi 1202 rfl rfl⟩, by decide +kernel, by decide +kernel, by decide +kernel, ⟨ck_tabi 1201 (by decide +kernel) rfl, ck_seli 21 (by decide +kernel) rfl, _, _, rfl⟩⟩
def cm_174 : ck_MM := ((⟨"RatchetDeskModel", "put", "(IIJ)V"⟩, prog_13_method_31_code, 6, none, []), 1, 3, 11)
set_option maxRecDepth 100000 in
theorem cm_k174 : ck_Mok cm_174 := ⟨Or.inl ⟨rfl, ck_tabi 1159 rfl rfl⟩, by decide +kernel, by decide +kernel, by decide +kernel, ⟨ck_tabi 1157 (by decide +kernel) rfl, ck_tabi 1158 (by decide +kernel) rfl, _, _, rfl⟩⟩
def cm_175 : ck_MM := ((⟨"RatchetDeskModel", "reckon", "(III)V"⟩, prog_13_method_26_code, 6, none, []), 1, 3, 11)
set_option maxRecDepth 100000 in
theorem cm_k175 : ck_Mok cm_175 := ⟨Or.inl ⟨rfl, ck_tabi 1182 rfl rfl⟩, by decide +kernel, by decide +kernel, by decide +kernel, ⟨ck_tabi 1181 (by decide +kernel) rfl, ck_seli 17 (by decide +kernel) rfl, _, _, rfl⟩⟩
def cm_176 : ck_MM := ((⟨"RatchetDeskModel", "reckonWith", "(III)V"⟩, prog_13_method_30_code, 4, none, []), 1, 3, 11)
set_option maxRecDepth 100000 in
theorem cm_k176 : ck_Mok cm_176 := ⟨Or.inl ⟨rfl, ck_tabi 1303 rfl rfl⟩, by decide +kernel, by decide +kernel, by decide +kernel, ⟨ck_tabi 1302 (by decide +kernel) rfl, ck_seli 38 (by decide +kernel) rfl, _, _, rfl⟩⟩
def cm_177 : ck_MM := ((⟨"RatchetDeskModel", "refused", "(I)Z"⟩, prog_13_method_4_code, 2, some .boolean, []), 1, 1, 11)
set_option maxRecDepth 100000 in
theorem cm_k177 : ck_Mok cm_177 := ⟨Or.inl ⟨rfl, ck_tabi 1166 rfl rfl⟩, by decide +kernel, by decide +kernel, by decide +kernel, ⟨ck_tabi 1165 (by decide +kernel) rfl, ck_seli 15 (by decide +kernel) rfl, _, _, rfl⟩⟩
def cm_178 : ck_MM := ((⟨"RatchetDeskModel", "right", "(II)I"⟩, prog_13_method_6_code, 2, some .int, []), 0, 2, 11)
set_option maxRecDepth 100000 in
theorem cm_k178 : ck_Mok cm_178 := ⟨Or.inl ⟨rfl, ck_tabi 1264 rfl rfl⟩, by decide +kernel, by decide +kernel, by decide +kernel, ⟨ck_tabi 1263 (by decide +kernel) rfl, ck_tabi 13 (by decide +kernel) rfl⟩⟩
def cm_179 : ck_MM := ((⟨"RatchetDeskModel", "say", "(I)V"⟩, prog_13_method_10_code, 2, none, []), 1, 1, 11)
set_option maxRecDepth 100000 in
theorem cm_k179 : ck_Mok cm_179 := ⟨Or.inl ⟨rfl, ck_tabi 1245 rfl rfl⟩, by decide +kernel, by decide +kernel, by decide +kernel, ⟨ck_tabi 1244 (by decide +kernel) rfl, ck_seli 29 (by decide +kernel) rfl, _, _, rfl⟩⟩
def cm_180 : ck_MM := ((⟨"RatchetDeskModel", "sayHeader", "(I)V"⟩, prog_13_method_47_code, 3, none, []), 1, 1, 11)
set_option maxRecDepth 100000 in
theorem cm_k180 : ck_Mok cm_180 := ⟨Or.inl ⟨rfl, ck_tabi 1335 rfl rfl⟩, by decide +kernel, by decide +kernel, by decide +kernel, ⟨ck_tabi 1334 (by decide +kernel) rfl, ck_seli 45 (by decide +kernel) rfl, _, _, rfl⟩⟩
def cm_181 : ck_MM := ((⟨"RatchetDeskModel", "sayKey", "(I)V"⟩, prog_13_method_11_code, 3, none, []), 1, 1, 11)
set_option maxRecDepth 100000 in
theorem cm_k181 : ck_Mok cm_181 := ⟨Or.inl ⟨rfl, ck_tabi 1241 rfl rfl⟩, by decide +kernel, by decide +kernel, by decide +kernel, ⟨ck_tabi 1240 (by decide +kernel) rfl, ck_seli 28 (by decide +kernel) rfl, _, _, rfl⟩⟩
def cm_182 : ck_MM := ((⟨"RatchetDeskModel", "seals", "(II)V"⟩, prog_13_method_48_code, 3, none, []), 1, 2, 11)
set_option maxRecDepth 100000 in
theorem cm_k182 : ck_Mok cm_182 := ⟨Or.inl ⟨rfl, ck_tabi 1331 rfl rfl⟩, by decide +kernel, by decide +kernel, by decide +kernel, ⟨ck_tabi 1330 (by decide +kernel) rfl, ck_seli 44 (by decide +kernel) rfl, _, _, rfl⟩⟩
def cm_183 : ck_MM := ((⟨"RatchetDeskModel", "send", "(IJ)I"⟩, prog_13_method_51_code, 8, some .int, []), 1, 2, 11)
set_option maxRecDepth 100000 in
theorem cm_k183 : ck_Mok cm_183 := ⟨Or.inl ⟨rfl, ck_tabi 1323 rfl rfl⟩, by decide +kernel, by decide +kernel, by decide +kernel, ⟨ck_tabi 1321 (by decide +kernel) rfl, ck_tabi 1322 (by decide +kernel) rfl, _, _, rfl⟩⟩
def cm_184 : ck_MM := ((⟨"RatchetDeskModel", "set", "(IJ)V"⟩, prog_13_method_20_code, 5, none, []), 1, 2, 11)
set_option maxRecDepth 100000 in
theorem cm_k184 : ck_Mok cm_184 := ⟨Or.inl ⟨rfl, ck_tabi 1191 rfl rfl⟩, by decide +kernel, by decide +kernel, by decide +kernel, ⟨ck_tabi 1190 (by decide +kernel) rfl, ck_seli 19 (by decide +kernel) rfl, _, _, rfl⟩⟩
def cm_185 : ck_MM := ((⟨"RatchetDeskModel", "spread", "(II)V"⟩, prog_13_method_14_code, 3, none, []), 1, 2, 11)
set_option maxRecDepth 100000 in
theorem cm_k185 : ck_Mok cm_185 := ⟨Or.inl ⟨rfl, ck_tabi 1311 rfl rfl⟩, by decide +kernel, by decide +kernel, by decide +kernel, ⟨ck_tabi 1310 (by decide +kernel) rfl, ck_seli 40 (by decide +kernel) rfl, _, _, rfl⟩⟩
def cm_186 : ck_MM := ((⟨"RatchetDeskModel", "stock", "(I)I"⟩, prog_13_method_37_code, 3, some .int, []), 1, 1, 11)
set_option maxRecDepth 100000 in
theorem cm_k186 : ck_Mok cm_186 := ⟨Or.inl ⟨rfl, ck_tabi 1272 rfl rfl⟩, by decide +kernel, by decide +kernel, by decide +kernel, ⟨ck_tabi 1270 (by decide +kernel) rfl, ck_tabi 1271 (by decide +kernel) rfl, _, _, rfl⟩⟩
def cm_187 : ck_MM := ((⟨"RatchetDeskModel", "text", "(I)J"⟩, prog_13_method_62_code, 2, some .long, []), 1, 1, 11)
set_option maxRecDepth 100000 in
theorem cm_k187 : ck_Mok cm_187 := ⟨Or.inl ⟨rfl, ck_tabi 1395 rfl rfl⟩, by decide +kernel, by decide +kernel, by decide +kernel, ⟨ck_tabi 1393 (by decide +kernel) rfl, ck_tabi 1394 (by decide +kernel) rfl, _, _, rfl⟩⟩
def cm_188 : ck_MM := ((⟨"RatchetDeskModel", "thrown", "()I"⟩, prog_13_method_3_code, 1, some .int, []), 1, 0, 11)
set_option maxRecDepth 100000 in
theorem cm_k188 : ck_Mok cm_188 := ⟨Or.inl ⟨rfl, ck_tabi 1155 rfl rfl⟩, by decide +kernel, by decide +kernel, by decide +kernel, ⟨ck_tabi 1153 (by decide +kernel) rfl, ck_tabi 1154 (by decide +kernel) rfl, _, _, rfl⟩⟩
def cm_189 : ck_MM := ((⟨"RatchetDeskModel", "times", "(III)V"⟩, prog_13_method_18_code, 6, none, []), 1, 3, 11)
set_option maxRecDepth 100000 in
theorem cm_k189 : ck_Mok cm_189 := ⟨Or.inl ⟨rfl, ck_tabi 1212 rfl rfl⟩, by decide +kernel, by decide +kernel, by decide +kernel, ⟨ck_tabi 1211 (by decide +kernel) rfl, ck_seli 23 (by decide +kernel) rfl, _, _, rfl⟩⟩
def cm_190 : ck_MM := ((⟨"RatchetDeskModel", "tryLetter", "(I)I"⟩, prog_13_method_58_code, 8, some .int, []), 1, 1, 11)
set_option maxRecDepth 100000 in
theorem cm_k190 : ck_Mok cm_190 := ⟨Or.inl ⟨rfl, ck_tabi 1359 rfl rfl⟩, by decide +kernel, by decide +kernel, by decide +kernel, ⟨ck_tabi 1358 (by decide +kernel) rfl, ck_seli 49 (by decide +kernel) rfl, _, _, rfl⟩⟩
def cm_191 : ck_MM := ((⟨"RatchetDeskModel", "turn", "(I)V"⟩, prog_13_method_41_code, 3, none, []), 1, 1, 11)
set_option maxRecDepth 100000 in
theorem cm_k191 : ck_Mok cm_191 := ⟨Or.inl ⟨rfl, ck_tabi 1315 rfl rfl⟩, by decide +kernel, by decide +kernel, by decide +kernel, ⟨ck_tabi 1314 (by decide +kernel) rfl, ck_seli 41 (by decide +kernel) rfl, _, _, rfl⟩⟩
def cm_192 : ck_MM := ((⟨"RatchetDeskModel", "turnRoot", "(III)V"⟩, prog_13_method_40_code, 4, none, []), 1, 3, 11)
set_option maxRecDepth 100000 in
theorem cm_k192 : ck_Mok cm_192 := ⟨Or.inl ⟨rfl, ck_tabi 1319 rfl rfl⟩, by decide +kernel, by decide +kernel, by decide +kernel, ⟨ck_tabi 1318 (by decide +kernel) rfl, ck_seli 42 (by decide +kernel) rfl, _, _, rfl⟩⟩
def cm_193 : ck_MM := ((⟨"RatchetDeskModel", "unpack", "(II)V"⟩, prog_13_method_22_code, 6, none, []), 1, 2, 11)
set_option maxRecDepth 100000 in
theorem cm_k193 : ck_Mok cm_193 := ⟨Or.inl ⟨rfl, ck_tabi 1186 rfl rfl⟩, by decide +kernel, by decide +kernel, by decide +kernel, ⟨ck_tabi 1185 (by decide +kernel) rfl, ck_seli 18 (by decide +kernel) rfl, _, _, rfl⟩⟩
def cm_194 : ck_MM := ((⟨"RatchetDeskModel", "wire", "(II)I"⟩, prog_13_method_67_code, 4, some .int, []), 1, 2, 11)
set_option maxRecDepth 100000 in
theorem cm_k194 : ck_Mok cm_194 := ⟨Or.inl ⟨rfl, ck_tabi 1415 rfl rfl⟩, by decide +kernel, by decide +kernel, by decide +kernel, ⟨ck_tabi 1413 (by decide +kernel) rfl, ck_tabi 1414 (by decide +kernel) rfl, _, _, rfl⟩⟩
def cm_195 : ck_MM := ((⟨"RatchetDeskModel", "word", "(III)J"⟩, prog_13_method_70_code, 4, some .long, []), 1, 3, 11)
set_option maxRecDepth 100000 in
theorem cm_k195 : ck_Mok cm_195 := ⟨Or.inl ⟨rfl, ck_tabi 1427 rfl rfl⟩, by decide +kernel, by decide +kernel, by decide +kernel, ⟨ck_tabi 1425 (by decide +kernel) rfl, ck_tabi 1426 (by decide +kernel) rfl, _, _, rfl⟩⟩
def cm_ms0 : List ck_MM := [cm_0, cm_1, cm_2, cm_3, cm_4, cm_5, cm_6, cm_7, cm_8, cm_9, cm_10, cm_11, cm_12, cm_13, cm_14, cm_15, cm_16, cm_17, cm_18, cm_19]
theorem cm_oc0 : ∀ q ∈ cm_ms0, ck_Mok q := (List.forall_mem_cons.mpr ⟨cm_k0, (List.forall_mem_cons.mpr ⟨cm_k1, (List.forall_mem_cons.mpr ⟨cm_k2, (List.forall_mem_cons.mpr ⟨cm_k3, (List.forall_mem_cons.mpr ⟨cm_k4, (List.forall_mem_cons.mpr ⟨cm_k5, (List.forall_mem_cons.mpr ⟨cm_k6, (List.forall_mem_cons.mpr ⟨cm_k7, (List.forall_mem_cons.mpr ⟨cm_k8, (List.forall_mem_cons.mpr ⟨cm_k9, (List.forall_mem_cons.mpr ⟨cm_k10, (List.forall_mem_cons.mpr ⟨cm_k11, (List.forall_mem_cons.mpr ⟨cm_k12, (List.forall_mem_cons.mpr ⟨cm_k13, (List.forall_mem_cons.mpr ⟨cm_k14, (List.forall_mem_cons.mpr ⟨cm_k15, (List.forall_mem_cons.mpr ⟨cm_k16, (List.forall_mem_cons.mpr ⟨cm_k17, (List.forall_mem_cons.mpr ⟨cm_k18, (List.forall_mem_cons.mpr ⟨cm_k19, (fun _ h => by cases h)⟩)⟩)⟩)⟩)⟩)⟩)⟩)⟩)⟩)⟩)⟩)⟩)⟩)⟩)⟩)⟩)⟩)⟩)⟩)⟩)
def cm_ms1 : List ck_MM := [cm_20, cm_21, cm_22, cm_23, cm_24, cm_25, cm_26, cm_27, cm_28, cm_29, cm_30, cm_31, cm_32, cm_33, cm_34, cm_35, cm_36, cm_37, cm_38, cm_39]
theorem cm_oc1 : ∀ q ∈ cm_ms1, ck_Mok q := (List.forall_mem_cons.mpr ⟨cm_k20, (List.forall_mem_cons.mpr ⟨cm_k21, (List.forall_mem_cons.mpr ⟨cm_k22, (List.forall_mem_cons.mpr ⟨cm_k23, (List.forall_mem_cons.mpr ⟨cm_k24, (List.forall_mem_cons.mpr ⟨cm_k25, (List.forall_mem_cons.mpr ⟨cm_k26, (List.forall_mem_cons.mpr ⟨cm_k27, (List.forall_mem_cons.mpr ⟨cm_k28, (List.forall_mem_cons.mpr ⟨cm_k29, (List.forall_mem_cons.mpr ⟨cm_k30, (List.forall_mem_cons.mpr ⟨cm_k31, (List.forall_mem_cons.mpr ⟨cm_k32, (List.forall_mem_cons.mpr ⟨cm_k33, (List.forall_mem_cons.mpr ⟨cm_k34, (List.forall_mem_cons.mpr ⟨cm_k35, (List.forall_mem_cons.mpr ⟨cm_k36, (List.forall_mem_cons.mpr ⟨cm_k37, (List.forall_mem_cons.mpr ⟨cm_k38, (List.forall_mem_cons.mpr ⟨cm_k39, (fun _ h => by cases h)⟩)⟩)⟩)⟩)⟩)⟩)⟩)⟩)⟩)⟩)⟩)⟩)⟩)⟩)⟩)⟩)⟩)⟩)⟩)⟩)
def cm_ms2 : List ck_MM := [cm_40, cm_41, cm_42, cm_43, cm_44, cm_45, cm_46, cm_47, cm_48, cm_49, cm_50, cm_51, cm_52, cm_53, cm_54, cm_55, cm_56, cm_57, cm_58, cm_59]
theorem cm_oc2 : ∀ q ∈ cm_ms2, ck_Mok q := (List.forall_mem_cons.mpr ⟨cm_k40, (List.forall_mem_cons.mpr ⟨cm_k41, (List.forall_mem_cons.mpr ⟨cm_k42, (List.forall_mem_cons.mpr ⟨cm_k43, (List.forall_mem_cons.mpr ⟨cm_k44, (List.forall_mem_cons.mpr ⟨cm_k45, (List.forall_mem_cons.mpr ⟨cm_k46, (List.forall_mem_cons.mpr ⟨cm_k47, (List.forall_mem_cons.mpr ⟨cm_k48, (List.forall_mem_cons.mpr ⟨cm_k49, (List.forall_mem_cons.mpr ⟨cm_k50, (List.forall_mem_cons.mpr ⟨cm_k51, (List.forall_mem_cons.mpr ⟨cm_k52, (List.forall_mem_cons.mpr ⟨cm_k53, (List.forall_mem_cons.mpr ⟨cm_k54, (List.forall_mem_cons.mpr ⟨cm_k55, (List.forall_mem_cons.mpr ⟨cm_k56, (List.forall_mem_cons.mpr ⟨cm_k57, (List.forall_mem_cons.mpr ⟨cm_k58, (List.forall_mem_cons.mpr ⟨cm_k59, (fun _ h => by cases h)⟩)⟩)⟩)⟩)⟩)⟩)⟩)⟩)⟩)⟩)⟩)⟩)⟩)⟩)⟩)⟩)⟩)⟩)⟩)⟩)
def cm_ms3 : List ck_MM := [cm_60, cm_61, cm_62, cm_63, cm_64, cm_65, cm_66, cm_67, cm_68, cm_69, cm_70, cm_71, cm_72, cm_73, cm_74, cm_75, cm_76, cm_77, cm_78, cm_79]
theorem cm_oc3 : ∀ q ∈ cm_ms3, ck_Mok q := (List.forall_mem_cons.mpr ⟨cm_k60, (List.forall_mem_cons.mpr ⟨cm_k61, (List.forall_mem_cons.mpr ⟨cm_k62, (List.forall_mem_cons.mpr ⟨cm_k63, (List.forall_mem_cons.mpr ⟨cm_k64, (List.forall_mem_cons.mpr ⟨cm_k65, (List.forall_mem_cons.mpr ⟨cm_k66, (List.forall_mem_cons.mpr ⟨cm_k67, (List.forall_mem_cons.mpr ⟨cm_k68, (List.forall_mem_cons.mpr ⟨cm_k69, (List.forall_mem_cons.mpr ⟨cm_k70, (List.forall_mem_cons.mpr ⟨cm_k71, (List.forall_mem_cons.mpr ⟨cm_k72, (List.forall_mem_cons.mpr ⟨cm_k73, (List.forall_mem_cons.mpr ⟨cm_k74, (List.forall_mem_cons.mpr ⟨cm_k75, (List.forall_mem_cons.mpr ⟨cm_k76, (List.forall_mem_cons.mpr ⟨cm_k77, (List.forall_mem_cons.mpr ⟨cm_k78, (List.forall_mem_cons.mpr ⟨cm_k79, (fun _ h => by cases h)⟩)⟩)⟩)⟩)⟩)⟩)⟩)⟩)⟩)⟩)⟩)⟩)⟩)⟩)⟩)⟩)⟩)⟩)⟩)⟩)
def cm_ms4 : List ck_MM := [cm_80, cm_81, cm_82, cm_83, cm_84, cm_85, cm_86, cm_87, cm_88, cm_89, cm_90, cm_91, cm_92, cm_93, cm_94, cm_95, cm_96, cm_97, cm_98, cm_99]
theorem cm_oc4 : ∀ q ∈ cm_ms4, ck_Mok q := (List.forall_mem_cons.mpr ⟨cm_k80, (List.forall_mem_cons.mpr ⟨cm_k81, (List.forall_mem_cons.mpr ⟨cm_k82, (List.forall_mem_cons.mpr ⟨cm_k83, (List.forall_mem_cons.mpr ⟨cm_k84, (List.forall_mem_cons.mpr ⟨cm_k85, (List.forall_mem_cons.mpr ⟨cm_k86, (List.forall_mem_cons.mpr ⟨cm_k87, (List.forall_mem_cons.mpr ⟨cm_k88, (List.forall_mem_cons.mpr ⟨cm_k89, (List.forall_mem_cons.mpr ⟨cm_k90, (List.forall_mem_cons.mpr ⟨cm_k91, (List.forall_mem_cons.mpr ⟨cm_k92, (List.forall_mem_cons.mpr ⟨cm_k93, (List.forall_mem_cons.mpr ⟨cm_k94, (List.forall_mem_cons.mpr ⟨cm_k95, (List.forall_mem_cons.mpr ⟨cm_k96, (List.forall_mem_cons.mpr ⟨cm_k97, (List.forall_mem_cons.mpr ⟨cm_k98, (List.forall_mem_cons.mpr ⟨cm_k99, (fun _ h => by cases h)⟩)⟩)⟩)⟩)⟩)⟩)⟩)⟩)⟩)⟩)⟩)⟩)⟩)⟩)⟩)⟩)⟩)⟩)⟩)⟩)
def cm_ms5 : List ck_MM := [cm_100, cm_101, cm_102, cm_103, cm_104, cm_105, cm_106, cm_107, cm_108, cm_109, cm_110, cm_111, cm_112, cm_113, cm_114, cm_115, cm_116, cm_117, cm_118, cm_119]
theorem cm_oc5 : ∀ q ∈ cm_ms5, ck_Mok q := (List.forall_mem_cons.mpr ⟨cm_k100, (List.forall_mem_cons.mpr ⟨cm_k101, (List.forall_mem_cons.mpr ⟨cm_k102, (List.forall_mem_cons.mpr ⟨cm_k103, (List.forall_mem_cons.mpr ⟨cm_k104, (List.forall_mem_cons.mpr ⟨cm_k105, (List.forall_mem_cons.mpr ⟨cm_k106, (List.forall_mem_cons.mpr ⟨cm_k107, (List.forall_mem_cons.mpr ⟨cm_k108, (List.forall_mem_cons.mpr ⟨cm_k109, (List.forall_mem_cons.mpr ⟨cm_k110, (List.forall_mem_cons.mpr ⟨cm_k111, (List.forall_mem_cons.mpr ⟨cm_k112, (List.forall_mem_cons.mpr ⟨cm_k113, (List.forall_mem_cons.mpr ⟨cm_k114, (List.forall_mem_cons.mpr ⟨cm_k115, (List.forall_mem_cons.mpr ⟨cm_k116, (List.forall_mem_cons.mpr ⟨cm_k117, (List.forall_mem_cons.mpr ⟨cm_k118, (List.forall_mem_cons.mpr ⟨cm_k119, (fun _ h => by cases h)⟩)⟩)⟩)⟩)⟩)⟩)⟩)⟩)⟩)⟩)⟩)⟩)⟩)⟩)⟩)⟩)⟩)⟩)⟩)⟩)
def cm_ms6 : List ck_MM := [cm_120, cm_121, cm_122, cm_123, cm_124, cm_125, cm_126, cm_127, cm_128, cm_129, cm_130, cm_131, cm_132, cm_133, cm_134, cm_135, cm_136, cm_137, cm_138, cm_139]
theorem cm_oc6 : ∀ q ∈ cm_ms6, ck_Mok q := (List.forall_mem_cons.mpr ⟨cm_k120, (List.forall_mem_cons.mpr ⟨cm_k121, (List.forall_mem_cons.mpr ⟨cm_k122, (List.forall_mem_cons.mpr ⟨cm_k123, (List.forall_mem_cons.mpr ⟨cm_k124, (List.forall_mem_cons.mpr ⟨cm_k125, (List.forall_mem_cons.mpr ⟨cm_k126, (List.forall_mem_cons.mpr ⟨cm_k127, (List.forall_mem_cons.mpr ⟨cm_k128, (List.forall_mem_cons.mpr ⟨cm_k129, (List.forall_mem_cons.mpr ⟨cm_k130, (List.forall_mem_cons.mpr ⟨cm_k131, (List.forall_mem_cons.mpr ⟨cm_k132, (List.forall_mem_cons.mpr ⟨cm_k133, (List.forall_mem_cons.mpr ⟨cm_k134, (List.forall_mem_cons.mpr ⟨cm_k135, (List.forall_mem_cons.mpr ⟨cm_k136, (List.forall_mem_cons.mpr ⟨cm_k137, (List.forall_mem_cons.mpr ⟨cm_k138, (List.forall_mem_cons.mpr ⟨cm_k139, (fun _ h => by cases h)⟩)⟩)⟩)⟩)⟩)⟩)⟩)⟩)⟩)⟩)⟩)⟩)⟩)⟩)⟩)⟩)⟩)⟩)⟩)⟩)
def cm_ms7 : List ck_MM := [cm_140, cm_141, cm_142, cm_143, cm_144, cm_145, cm_146, cm_147, cm_148, cm_149, cm_150, cm_151, cm_152, cm_153, cm_154, cm_155, cm_156, cm_157, cm_158, cm_159]
theorem cm_oc7 : ∀ q ∈ cm_ms7, ck_Mok q := (List.forall_mem_cons.mpr ⟨cm_k140, (List.forall_mem_cons.mpr ⟨cm_k141, (List.forall_mem_cons.mpr ⟨cm_k142, (List.forall_mem_cons.mpr ⟨cm_k143, (List.forall_mem_cons.mpr ⟨cm_k144, (List.forall_mem_cons.mpr ⟨cm_k145, (List.forall_mem_cons.mpr ⟨cm_k146, (List.forall_mem_cons.mpr ⟨cm_k147, (List.forall_mem_cons.mpr ⟨cm_k148, (List.forall_mem_cons.mpr ⟨cm_k149, (List.forall_mem_cons.mpr ⟨cm_k150, (List.forall_mem_cons.mpr ⟨cm_k151, (List.forall_mem_cons.mpr ⟨cm_k152, (List.forall_mem_cons.mpr ⟨cm_k153, (List.forall_mem_cons.mpr ⟨cm_k154, (List.forall_mem_cons.mpr ⟨cm_k155, (List.forall_mem_cons.mpr ⟨cm_k156, (List.forall_mem_cons.mpr ⟨cm_k157, (List.forall_mem_cons.mpr ⟨cm_k158, (List.forall_mem_cons.mpr ⟨cm_k159, (fun _ h => by cases h)⟩)⟩)⟩)⟩)⟩)⟩)⟩)⟩)⟩)⟩)⟩)⟩)⟩)⟩)⟩)⟩)⟩)⟩)⟩)⟩)
def cm_ms8 : List ck_MM := [cm_160, cm_161, cm_162, cm_163, cm_164, cm_165, cm_166, cm_167, cm_168, cm_169, cm_170, cm_171, cm_172, cm_173, cm_174, cm_175, cm_176, cm_177, cm_178, cm_179]
theorem cm_oc8 : ∀ q ∈ cm_ms8, ck_Mok q := (List.forall_mem_cons.mpr ⟨cm_k160, (List.forall_mem_cons.mpr ⟨cm_k161, (List.forall_mem_cons.mpr ⟨cm_k162, (List.forall_mem_cons.mpr ⟨cm_k163, (List.forall_mem_cons.mpr ⟨cm_k164, (List.forall_mem_cons.mpr ⟨cm_k165, (List.forall_mem_cons.mpr ⟨cm_k166, (List.forall_mem_cons.mpr ⟨cm_k167, (List.forall_mem_cons.mpr ⟨cm_k168, (List.forall_mem_cons.mpr ⟨cm_k169, (List.forall_mem_cons.mpr ⟨cm_k170, (List.forall_mem_cons.mpr ⟨cm_k171, (List.forall_mem_cons.mpr ⟨cm_k172, (List.forall_mem_cons.mpr ⟨cm_k173, (List.forall_mem_cons.mpr ⟨cm_k174, (List.forall_mem_cons.mpr ⟨cm_k175, (List.forall_mem_cons.mpr ⟨cm_k176, (List.forall_mem_cons.mpr ⟨cm_k177, (List.forall_mem_cons.mpr ⟨cm_k178, (List.forall_mem_cons.mpr ⟨cm_k179, (fun _ h => by cases h)⟩)⟩)⟩)⟩)⟩)⟩)⟩)⟩)⟩)⟩)⟩)⟩)⟩)⟩)⟩)⟩)⟩)⟩)⟩)⟩)
def cm_ms9 : List ck_MM := [cm_180, cm_181, cm_182, cm_183, cm_184, cm_185, cm_186, cm_187, cm_188, cm_189, cm_190, cm_191, cm_192, cm_193, cm_194, cm_195]
theorem cm_oc9 : ∀ q ∈ cm_ms9, ck_Mok q := (List.forall_mem_cons.mpr ⟨cm_k180, (List.forall_mem_cons.mpr ⟨cm_k181, (List.forall_mem_cons.mpr ⟨cm_k182, (List.forall_mem_cons.mpr ⟨cm_k183, (List.forall_mem_cons.mpr ⟨cm_k184, (List.forall_mem_cons.mpr ⟨cm_k185, (List.forall_mem_cons.mpr ⟨cm_k186, (List.forall_mem_cons.mpr ⟨cm_k187, (List.forall_mem_cons.mpr ⟨cm_k188, (List.forall_mem_cons.mpr ⟨cm_k189, (List.forall_mem_cons.mpr ⟨cm_k190, (List.forall_mem_cons.mpr ⟨cm_k191, (List.forall_mem_cons.mpr ⟨cm_k192, (List.forall_mem_cons.mpr ⟨cm_k193, (List.forall_mem_cons.mpr ⟨cm_k194, (List.forall_mem_cons.mpr ⟨cm_k195, (fun _ h => by cases h)⟩)⟩)⟩)⟩)⟩)⟩)⟩)⟩)⟩)⟩)⟩)⟩)⟩)⟩)⟩)⟩)
def cm_ms : List ck_MM := cm_ms0 ++ (cm_ms1 ++ (cm_ms2 ++ (cm_ms3 ++ (cm_ms4 ++ (cm_ms5 ++ (cm_ms6 ++ (cm_ms7 ++ (cm_ms8 ++ (cm_ms9)))))))))
theorem cm_g0 : cm_ms[0]? = some cm_0 := rfl
theorem cm_g1 : cm_ms[1]? = some cm_1 := rfl
theorem cm_g2 : cm_ms[2]? = some cm_2 := rfl
theorem cm_g3 : cm_ms[3]? = some cm_3 := rfl
theorem cm_g4 : cm_ms[4]? = some cm_4 := rfl
theorem cm_g5 : cm_ms[5]? = some cm_5 := rfl
theorem cm_g6 : cm_ms[6]? = some cm_6 := rfl
theorem cm_g7 : cm_ms[7]? = some cm_7 := rfl
theorem cm_g8 : cm_ms[8]? = some cm_8 := rfl
theorem cm_g9 : cm_ms[9]? = some cm_9 := rfl
theorem cm_g10 : cm_ms[10]? = some cm_10 := rfl
theorem cm_g11 : cm_ms[11]? = some cm_11 := rfl
theorem cm_g12 : cm_ms[12]? = some cm_12 := rfl
theorem cm_g13 : cm_ms[13]? = some cm_13 := rfl
theorem cm_g14 : cm_ms[14]? = some cm_14 := rfl
theorem cm_g15 : cm_ms[15]? = some cm_15 := rfl
theorem cm_g16 : cm_ms[16]? = some cm_16 := rfl
theorem cm_g17 : cm_ms[17]? = some cm_17 := rfl
theorem cm_g18 : cm_ms[18]? = some cm_18 := rfl
theorem cm_g19 : cm_ms[19]? = some cm_19 := rfl
theorem cm_g20 : cm_ms[20]? = some cm_20 := rfl
theorem cm_g21 : cm_ms[21]? = some cm_21 := rfl
theorem cm_g22 : cm_ms[22]? = some cm_22 := rfl
theorem cm_g23 : cm_ms[23]? = some cm_23 := rfl
theorem cm_g24 : cm_ms[24]? = some cm_24 := rfl
theorem cm_g25 : cm_ms[25]? = some cm_25 := rfl
theorem cm_g26 : cm_ms[26]? = some cm_26 := rfl
theorem cm_g27 : cm_ms[27]? = some cm_27 := rfl
theorem cm_g28 : cm_ms[28]? = some cm_28 := rfl
theorem cm_g29 : cm_ms[29]? = some cm_29 := rfl
theorem cm_g30 : cm_ms[30]? = some cm_30 := rfl
theorem cm_g31 : cm_ms[31]? = some cm_31 := rfl
theorem cm_g32 : cm_ms[32]? = some cm_32 := rfl
theorem cm_g33 : cm_ms[33]? = some cm_33 := rfl
theorem cm_g34 : cm_ms[34]? = some cm_34 := rfl
theorem cm_g35 : cm_ms[35]? = some cm_35 := rfl
theorem cm_g36 : cm_ms[36]? = some cm_36 := rfl
theorem cm_g37 : cm_ms[37]? = some cm_37 := rfl
theorem cm_g38 : cm_ms[38]? = some cm_38 := rfl
theorem cm_g39 : cm_ms[39]? = some cm_39 := rfl
theorem cm_g40 : cm_ms[40]? = some cm_40 := rfl
theorem cm_g41 : cm_ms[41]? = some cm_41 := rfl
theorem cm_g42 : cm_ms[42]? = some cm_42 := rfl
theorem cm_g43 : cm_ms[43]? = some cm_43 := rfl
theorem cm_g44 : cm_ms[44]? = some cm_44 := rfl
theorem cm_g45 : cm_ms[45]? = some cm_45 := rfl
theorem cm_g46 : cm_ms[46]? = some cm_46 := rfl
theorem cm_g47 : cm_ms[47]? = some cm_47 := rfl
theorem cm_g48 : cm_ms[48]? = some cm_48 := rfl
theorem cm_g49 : cm_ms[49]? = some cm_49 := rfl
theorem cm_g50 : cm_ms[50]? = some cm_50 := rfl
theorem cm_g51 : cm_ms[51]? = some cm_51 := rfl
theorem cm_g52 : cm_ms[52]? = some cm_52 := rfl
theorem cm_g53 : cm_ms[53]? = some cm_53 := rfl
theorem cm_g54 : cm_ms[54]? = some cm_54 := rfl
theorem cm_g55 : cm_ms[55]? = some cm_55 := rfl
theorem cm_g56 : cm_ms[56]? = some cm_56 := rfl
theorem cm_g57 : cm_ms[57]? = some cm_57 := rfl
theorem cm_g58 : cm_ms[58]? = some cm_58 := rfl
theorem cm_g59 : cm_ms[59]? = some cm_59 := rfl
theorem cm_g60 : cm_ms[60]? = some cm_60 := rfl
theorem cm_g61 : cm_ms[61]? = some cm_61 := rfl
theorem cm_g62 : cm_ms[62]? = some cm_62 := rfl
theorem cm_g63 : cm_ms[63]? = some cm_63 := rfl
theorem cm_g64 : cm_ms[64]? = some cm_64 := rfl
theorem cm_g65 : cm_ms[65]? = some cm_65 := rfl
theorem cm_g66 : cm_ms[66]? = some cm_66 := rfl
theorem cm_g67 : cm_ms[67]? = some cm_67 := rfl
theorem cm_g68 : cm_ms[68]? = some cm_68 := rfl
theorem cm_g69 : cm_ms[69]? = some cm_69 := rfl
theorem cm_g70 : cm_ms[70]? = some cm_70 := rfl
theorem cm_g71 : cm_ms[71]? = some cm_71 := rfl
theorem cm_g72 : cm_ms[72]? = some cm_72 := rfl
theorem cm_g73 : cm_ms[73]? = some cm_73 := rfl
theorem cm_g74 : cm_ms[74]? = some cm_74 := rfl
theorem cm_g75 : cm_ms[75]? = some cm_75 := rfl
theorem cm_g76 : cm_ms[76]? = some cm_76 := rfl
theorem cm_g77 : cm_ms[77]? = some cm_77 := rfl
theorem cm_g78 : cm_ms[78]? = some cm_78 := rfl
theorem cm_g79 : cm_ms[79]? = some cm_79 := rfl
theorem cm_g80 : cm_ms[80]? = some cm_80 := rfl
theorem cm_g81 : cm_ms[81]? = some cm_81 := rfl
theorem cm_g82 : cm_ms[82]? = some cm_82 := rfl
theorem cm_g83 : cm_ms[83]? = some cm_83 := rfl
theorem cm_g84 : cm_ms[84]? = some cm_84 := rfl
theorem cm_g85 : cm_ms[85]? = some cm_85 := rfl
theorem cm_g86 : cm_ms[86]? = some cm_86 := rfl
theorem cm_g87 : cm_ms[87]? = some cm_87 := rfl
theorem cm_g88 : cm_ms[88]? = some cm_88 := rfl
theorem cm_g89 : cm_ms[89]? = some cm_89 := rfl
theorem cm_g90 : cm_ms[90]? = some cm_90 := rfl
theorem cm_g91 : cm_ms[91]? = some cm_91 := rfl
theorem cm_g92 : cm_ms[92]? = some cm_92 := rfl
theorem cm_g93 : cm_ms[93]? = some cm_93 := rfl
theorem cm_g94 : cm_ms[94]? = some cm_94 := rfl
theorem cm_g95 : cm_ms[95]? = some cm_95 := rfl
theorem cm_g96 : cm_ms[96]? = some cm_96 := rfl
theorem cm_g97 : cm_ms[97]? = some cm_97 := rfl
theorem cm_g98 : cm_ms[98]? = some cm_98 := rfl
theorem cm_g99 : cm_ms[99]? = some cm_99 := rfl
theorem cm_g100 : cm_ms[100]? = some cm_100 := rfl
theorem cm_g101 : cm_ms[101]? = some cm_101 := rfl
theorem cm_g102 : cm_ms[102]? = some cm_102 := rfl
theorem cm_g103 : cm_ms[103]? = some cm_103 := rfl
theorem cm_g104 : cm_ms[104]? = some cm_104 := rfl
theorem cm_g105 : cm_ms[105]? = some cm_105 := rfl
theorem cm_g106 : cm_ms[106]? = some cm_106 := rfl
theorem cm_g107 : cm_ms[107]? = some cm_107 := rfl
theorem cm_g108 : cm_ms[108]? = some cm_108 := rfl
theorem cm_g109 : cm_ms[109]? = some cm_109 := rfl
theorem cm_g110 : cm_ms[110]? = some cm_110 := rfl
theorem cm_g111 : cm_ms[111]? = some cm_111 := rfl
theorem cm_g112 : cm_ms[112]? = some cm_112 := rfl
theorem cm_g113 : cm_ms[113]? = some cm_113 := rfl
theorem cm_g114 : cm_ms[114]? = some cm_114 := rfl
theorem cm_g115 : cm_ms[115]? = some cm_115 := rfl
theorem cm_g116 : cm_ms[116]? = some cm_116 := rfl
theorem cm_g117 : cm_ms[117]? = some cm_117 := rfl
theorem cm_g118 : cm_ms[118]? = some cm_118 := rfl
theorem cm_g119 : cm_ms[119]? = some cm_119 := rfl
theorem cm_g120 : cm_ms[120]? = some cm_120 := rfl
theorem cm_g121 : cm_ms[121]? = some cm_121 := rfl
theorem cm_g122 : cm_ms[122]? = some cm_122 := rfl
theorem cm_g123 : cm_ms[123]? = some cm_123 := rfl
theorem cm_g124 : cm_ms[124]? = some cm_124 := rfl
theorem cm_g125 : cm_ms[125]? = some cm_125 := rfl
theorem cm_g126 : cm_ms[126]? = some cm_126 := rfl
theorem cm_g127 : cm_ms[127]? = some cm_127 := rfl
theorem cm_g128 : cm_ms[128]? = some cm_128 := rfl
theorem cm_g129 : cm_ms[129]? = some cm_129 := rfl
theorem cm_g130 : cm_ms[130]? = some cm_130 := rfl
theorem cm_g131 : cm_ms[131]? = some cm_131 := rfl
theorem cm_g132 : cm_ms[132]? = some cm_132 := rfl
theorem cm_g133 : cm_ms[133]? = some cm_133 := rfl
theorem cm_g134 : cm_ms[134]? = some cm_134 := rfl
theorem cm_g135 : cm_ms[135]? = some cm_135 := rfl
theorem cm_g136 : cm_ms[136]? = some cm_136 := rfl
theorem cm_g137 : cm_ms[137]? = some cm_137 := rfl
theorem cm_g138 : cm_ms[138]? = some cm_138 := rfl
theorem cm_g139 : cm_ms[139]? = some cm_139 := rfl
theorem cm_g140 : cm_ms[140]? = some cm_140 := rfl
theorem cm_g141 : cm_ms[141]? = some cm_141 := rfl
theorem cm_g142 : cm_ms[142]? = some cm_142 := rfl
theorem cm_g143 : cm_ms[143]? = some cm_143 := rfl
theorem cm_g144 : cm_ms[144]? = some cm_144 := rfl
theorem cm_g145 : cm_ms[145]? = some cm_145 := rfl
theorem cm_g146 : cm_ms[146]? = some cm_146 := rfl
theorem cm_g147 : cm_ms[147]? = some cm_147 := rfl
theorem cm_g148 : cm_ms[148]? = some cm_148 := rfl
theorem cm_g149 : cm_ms[149]? = some cm_149 := rfl
theorem cm_g150 : cm_ms[150]? = some cm_150 := rfl
theorem cm_g151 : cm_ms[151]? = some cm_151 := rfl
theorem cm_g152 : cm_ms[152]? = some cm_152 := rfl
theorem cm_g153 : cm_ms[153]? = some cm_153 := rfl
theorem cm_g154 : cm_ms[154]? = some cm_154 := rfl
theorem cm_g155 : cm_ms[155]? = some cm_155 := rfl
theorem cm_g156 : cm_ms[156]? = some cm_156 := rfl
theorem cm_g157 : cm_ms[157]? = some cm_157 := rfl
theorem cm_g158 : cm_ms[158]? = some cm_158 := rfl
theorem cm_g159 : cm_ms[159]? = some cm_159 := rfl
theorem cm_g160 : cm_ms[160]? = some cm_160 := rfl
theorem cm_g161 : cm_ms[161]? = some cm_161 := rfl
theorem cm_g162 : cm_ms[162]? = some cm_162 := rfl
theorem cm_g163 : cm_ms[163]? = some cm_163 := rfl
theorem cm_g164 : cm_ms[164]? = some cm_164 := rfl
theorem cm_g165 : cm_ms[165]? = some cm_165 := rfl
theorem cm_g166 : cm_ms[166]? = some cm_166 := rfl
theorem cm_g167 : cm_ms[167]? = some cm_167 := rfl
theorem cm_g168 : cm_ms[168]? = some cm_168 := rfl
theorem cm_g169 : cm_ms[169]? = some cm_169 := rfl
theorem cm_g170 : cm_ms[170]? = some cm_170 := rfl
theorem cm_g171 : cm_ms[171]? = some cm_171 := rfl
theorem cm_g172 : cm_ms[172]? = some cm_172 := rfl
theorem cm_g173 : cm_ms[173]? = some cm_173 := rfl
theorem cm_g174 : cm_ms[174]? = some cm_174 := rfl
theorem cm_g175 : cm_ms[175]? = some cm_175 := rfl
theorem cm_g176 : cm_ms[176]? = some cm_176 := rfl
theorem cm_g177 : cm_ms[177]? = some cm_177 := rfl
theorem cm_g178 : cm_ms[178]? = some cm_178 := rfl
theorem cm_g179 : cm_ms[179]? = some cm_179 := rfl
theorem cm_g180 : cm_ms[180]? = some cm_180 := rfl
theorem cm_g181 : cm_ms[181]? = some cm_181 := rfl
theorem cm_g182 : cm_ms[182]? = some cm_182 := rfl
theorem cm_g183 : cm_ms[183]? = some cm_183 := rfl
theorem cm_g184 : cm_ms[184]? = some cm_184 := rfl
theorem cm_g185 : cm_ms[185]? = some cm_185 := rfl
theorem cm_g186 : cm_ms[186]? = some cm_186 := rfl
theorem cm_g187 : cm_ms[187]? = some cm_187 := rfl
theorem cm_g188 : cm_ms[188]? = some cm_188 := rfl
theorem cm_g189 : cm_ms[189]? = some cm_189 := rfl
theorem cm_g190 : cm_ms[190]? = some cm_190 := rfl
theorem cm_g191 : cm_ms[191]? = some cm_191 := rfl
theorem cm_g192 : cm_ms[192]? = some cm_192 := rfl
theorem cm_g193 : cm_ms[193]? = some cm_193 := rfl
theorem cm_g194 : cm_ms[194]? = some cm_194 := rfl
theorem cm_g195 : cm_ms[195]? = some cm_195 := rfl
theorem cm_ok : ∀ q ∈ cm_ms, ck_Mok q := (List.forall_mem_append.mpr ⟨cm_oc0, (List.forall_mem_append.mpr ⟨cm_oc1, (List.forall_mem_append.mpr ⟨cm_oc2, (List.forall_mem_append.mpr ⟨cm_oc3, (List.forall_mem_append.mpr ⟨cm_oc4, (List.forall_mem_append.mpr ⟨cm_oc5, (List.forall_mem_append.mpr ⟨cm_oc6, (List.forall_mem_append.mpr ⟨cm_oc7, (List.forall_mem_append.mpr ⟨cm_oc8, cm_oc9⟩)⟩)⟩)⟩)⟩)⟩)⟩)⟩)⟩)
