theorem goodIn_sub {big ws : List Cond} (hm : ∀ w ∈ ws, w ∈ big) (h : ws.all goodWord = true) : GoodIn big ws := fun w hw => ⟨hm w hw, good_of_word (List.all_eq_true.mp h w hw)⟩
def pWL : List Cond := lw_tbl.filter goodWord
theorem pW_in {w : Cond} (h : w ∈ lw_tbl) (g : goodWord w = true) : w ∈ pWL := List.mem_filter.mpr ⟨h, g⟩
theorem pGood {y : MethodName} {b : ByteArray} {n : Nat} {r : Option FieldType} (h : Cond.code y b n r ∈ lw_tbl) : GoodIn pWL (Cond.code y b n r :: pWL) := fun w hw => by
  rcases List.mem_cons.mp hw with rfl | hw
  · exact ⟨pW_in h rfl, Or.inl rfl⟩
  · exact ⟨hw, good_of_word (List.mem_filter.mp hw).2⟩
/-! the words that the links of the tables rest on -/
def pOwn (k : Nat) : String := pNm (pCi k)
def pFL (q : Nat × Nat × Nat × Nat) : Prop := Cond.fieldLink (pNm q.1) q.2.1 (pT q.2.2.1 q.2.2.2).1 (pT q.2.2.1 q.2.2.2).2.1 (pT q.2.2.1 q.2.2.2).2.2.1 ∈ lw_tbl
theorem pFL_ok_0 : pFL (0, 9, 0, 0) := List.mem_of_getElem? (i := 182) (by decide +kernel)
theorem pFL_ok_1 : pFL (0, 15, 0, 1) := List.mem_of_getElem? (i := 184) (by decide +kernel)
theorem pFL_ok_2 : pFL (0, 18, 3, 0) := List.mem_of_getElem? (i := 102) (by decide +kernel)
theorem pFL_ok_3 : pFL (0, 23, 0, 3) := List.mem_of_getElem? (i := 189) (by decide +kernel)
theorem pFL_ok_4 : pFL (0, 26, 3, 7) := List.mem_of_getElem? (i := 122) (by decide +kernel)
theorem pFL_ok_5 : pFL (0, 30, 0, 2) := List.mem_of_getElem? (i := 186) (by decide +kernel)
theorem pFL_ok_6 : pFL (0, 33, 3, 2) := List.mem_of_getElem? (i := 109) (by decide +kernel)
theorem pFL_ok_7 : pFL (0, 48, 3, 14) := List.mem_of_getElem? (i := 143) (by decide +kernel)
theorem pFL_ok_8 : pFL (1, 12, 1, 0) := List.mem_of_getElem? (i := 209) (by decide +kernel)
theorem pFL_ok_9 : pFL (1, 18, 1, 1) := List.mem_of_getElem? (i := 210) (by decide +kernel)
theorem pFL_ok_10 : pFL (1, 22, 1, 2) := List.mem_of_getElem? (i := 212) (by decide +kernel)
theorem pFL_ok_11 : pFL (1, 25, 1, 3) := List.mem_of_getElem? (i := 213) (by decide +kernel)
theorem pFL_ok_12 : pFL (1, 29, 1, 4) := List.mem_of_getElem? (i := 214) (by decide +kernel)
theorem pFL_ok_13 : pFL (1, 32, 1, 5) := List.mem_of_getElem? (i := 215) (by decide +kernel)
theorem pFL_ok_14 : pFL (1, 35, 1, 6) := List.mem_of_getElem? (i := 216) (by decide +kernel)
theorem pFL_ok_15 : pFL (1, 38, 1, 7) := List.mem_of_getElem? (i := 218) (by decide +kernel)
theorem pFL_ok_16 : pFL (1, 42, 1, 9) := List.mem_of_getElem? (i := 222) (by decide +kernel)
theorem pFL_ok_17 : pFL (1, 45, 1, 10) := List.mem_of_getElem? (i := 223) (by decide +kernel)
theorem pFL_ok_18 : pFL (1, 48, 1, 11) := List.mem_of_getElem? (i := 225) (by decide +kernel)
theorem pFL_ok_19 : pFL (1, 51, 1, 12) := List.mem_of_getElem? (i := 227) (by decide +kernel)
theorem pFL_ok_20 : pFL (1, 54, 1, 13) := List.mem_of_getElem? (i := 229) (by decide +kernel)
theorem pFL_ok_21 : pFL (1, 57, 1, 14) := List.mem_of_getElem? (i := 230) (by decide +kernel)
theorem pFL_ok_22 : pFL (1, 60, 1, 15) := List.mem_of_getElem? (i := 232) (by decide +kernel)
theorem pFL_ok_23 : pFL (1, 73, 0, 3) := List.mem_of_getElem? (i := 190) (by decide +kernel)
theorem pFL_ok_24 : pFL (1, 77, 3, 8) := List.mem_of_getElem? (i := 127) (by decide +kernel)
theorem pFL_ok_25 : pFL (1, 82, 0, 2) := List.mem_of_getElem? (i := 187) (by decide +kernel)
theorem pFL_ok_26 : pFL (1, 87, 3, 3) := List.mem_of_getElem? (i := 112) (by decide +kernel)
theorem pFL_ok_27 : pFL (1, 94, 3, 1) := List.mem_of_getElem? (i := 106) (by decide +kernel)
theorem pFL_ok_28 : pFL (1, 136, 3, 9) := List.mem_of_getElem? (i := 132) (by decide +kernel)
theorem pFL_ok_29 : pFL (1, 141, 1, 8) := List.mem_of_getElem? (i := 220) (by decide +kernel)
theorem pFL_ok_30 : pFL (1, 148, 3, 12) := List.mem_of_getElem? (i := 138) (by decide +kernel)
theorem pFL_ok_31 : pFL (1, 152, 2, 2) := List.mem_of_getElem? (i := 90) (by decide +kernel)
theorem pFL_ok_32 : pFL (2, 13, 2, 0) := List.mem_of_getElem? (i := 86) (by decide +kernel)
theorem pFL_ok_33 : pFL (2, 19, 2, 1) := List.mem_of_getElem? (i := 87) (by decide +kernel)
theorem pFL_ok_34 : pFL (2, 23, 2, 2) := List.mem_of_getElem? (i := 88) (by decide +kernel)
theorem pFL_ok_35 : pFL (3, 9, 3, 0) := List.mem_of_getElem? (i := 101) (by decide +kernel)
theorem pFL_ok_36 : pFL (3, 15, 3, 1) := List.mem_of_getElem? (i := 104) (by decide +kernel)
theorem pFL_ok_37 : pFL (3, 18, 3, 3) := List.mem_of_getElem? (i := 111) (by decide +kernel)
theorem pFL_ok_38 : pFL (3, 21, 3, 4) := List.mem_of_getElem? (i := 115) (by decide +kernel)
theorem pFL_ok_39 : pFL (3, 24, 3, 7) := List.mem_of_getElem? (i := 121) (by decide +kernel)
theorem pFL_ok_40 : pFL (3, 28, 3, 8) := List.mem_of_getElem? (i := 125) (by decide +kernel)
theorem pFL_ok_41 : pFL (3, 31, 3, 9) := List.mem_of_getElem? (i := 129) (by decide +kernel)
theorem pFL_ok_42 : pFL (3, 34, 3, 10) := List.mem_of_getElem? (i := 133) (by decide +kernel)
theorem pFL_ok_43 : pFL (3, 37, 3, 11) := List.mem_of_getElem? (i := 135) (by decide +kernel)
theorem pFL_ok_44 : pFL (3, 46, 3, 12) := List.mem_of_getElem? (i := 137) (by decide +kernel)
theorem pFL_ok_45 : pFL (3, 50, 3, 13) := List.mem_of_getElem? (i := 140) (by decide +kernel)
theorem pFL_ok_46 : pFL (3, 53, 3, 14) := List.mem_of_getElem? (i := 142) (by decide +kernel)
theorem pFL_ok_47 : pFL (3, 56, 3, 2) := List.mem_of_getElem? (i := 108) (by decide +kernel)
theorem pFL_ok_48 : pFL (3, 59, 3, 5) := List.mem_of_getElem? (i := 117) (by decide +kernel)
theorem pFL_ok_49 : pFL (3, 62, 3, 6) := List.mem_of_getElem? (i := 119) (by decide +kernel)
theorem pFL_ok_50 : pFL (3, 75, 2, 2) := List.mem_of_getElem? (i := 89) (by decide +kernel)
theorem pFL_ok_51 : pFL (4, 9, 4, 0) := List.mem_of_getElem? (i := 293) (by decide +kernel)
theorem pFL_ok_52 : pFL (4, 15, 4, 2) := List.mem_of_getElem? (i := 297) (by decide +kernel)
theorem pFL_ok_53 : pFL (4, 19, 4, 1) := List.mem_of_getElem? (i := 295) (by decide +kernel)
theorem pFL_ok_54 : pFL (5, 9, 5, 0) := List.mem_of_getElem? (i := 274) (by decide +kernel)
theorem pFL_ok_55 : pFL (5, 15, 5, 1) := List.mem_of_getElem? (i := 275) (by decide +kernel)
theorem pFL_ok_56 : pFL (5, 19, 5, 2) := List.mem_of_getElem? (i := 277) (by decide +kernel)
theorem pFL_ok_57 : pFL (5, 46, 3, 8) := List.mem_of_getElem? (i := 128) (by decide +kernel)
theorem pFL_ok_58 : pFL (5, 59, 3, 7) := List.mem_of_getElem? (i := 123) (by decide +kernel)
theorem pFL_ok_59 : pFL (5, 62, 3, 3) := List.mem_of_getElem? (i := 113) (by decide +kernel)
theorem pFL_ok_60 : pFL (5, 65, 3, 1) := List.mem_of_getElem? (i := 107) (by decide +kernel)
theorem pFL_ok_61 : pFL (5, 68, 3, 9) := List.mem_of_getElem? (i := 131) (by decide +kernel)
theorem pFL_ok_62 : pFL (6, 14, 6, 0) := List.mem_of_getElem? (i := 306) (by decide +kernel)
theorem pFL_ok_63 : pFL (6, 18, 6, 1) := List.mem_of_getElem? (i := 307) (by decide +kernel)
theorem pFL_ok_64 : pFL (6, 21, 6, 2) := List.mem_of_getElem? (i := 308) (by decide +kernel)
theorem pFL_ok_65 : pFL (6, 27, 6, 4) := List.mem_of_getElem? (i := 310) (by decide +kernel)
theorem pFL_ok_66 : pFL (6, 34, 6, 5) := List.mem_of_getElem? (i := 311) (by decide +kernel)
theorem pFL_ok_67 : pFL (6, 41, 6, 6) := List.mem_of_getElem? (i := 312) (by decide +kernel)
theorem pFL_ok_68 : pFL (6, 47, 6, 7) := List.mem_of_getElem? (i := 313) (by decide +kernel)
theorem pFL_ok_69 : pFL (6, 56, 3, 1) := List.mem_of_getElem? (i := 105) (by decide +kernel)
theorem pFL_ok_70 : pFL (6, 74, 3, 8) := List.mem_of_getElem? (i := 126) (by decide +kernel)
theorem pFL_ok_71 : pFL (6, 90, 3, 9) := List.mem_of_getElem? (i := 130) (by decide +kernel)
theorem pFL_ok_72 : pFL (6, 93, 5, 1) := List.mem_of_getElem? (i := 276) (by decide +kernel)
theorem pFL_ok_73 : pFL (6, 108, 3, 11) := List.mem_of_getElem? (i := 136) (by decide +kernel)
theorem pFL_ok_74 : pFL (6, 112, 3, 10) := List.mem_of_getElem? (i := 134) (by decide +kernel)
theorem pFL_ok_75 : pFL (6, 125, 3, 0) := List.mem_of_getElem? (i := 103) (by decide +kernel)
theorem pFL_ok_76 : pFL (6, 128, 3, 2) := List.mem_of_getElem? (i := 110) (by decide +kernel)
theorem pFL_ok_77 : pFL (6, 131, 3, 7) := List.mem_of_getElem? (i := 124) (by decide +kernel)
theorem pFL_ok_78 : pFL (6, 134, 3, 3) := List.mem_of_getElem? (i := 114) (by decide +kernel)
theorem pFL_ok_79 : pFL (6, 137, 3, 4) := List.mem_of_getElem? (i := 116) (by decide +kernel)
theorem pFL_ok_80 : pFL (6, 140, 3, 5) := List.mem_of_getElem? (i := 118) (by decide +kernel)
theorem pFL_ok_81 : pFL (6, 143, 3, 6) := List.mem_of_getElem? (i := 120) (by decide +kernel)
theorem pFL_ok_82 : pFL (6, 153, 1, 1) := List.mem_of_getElem? (i := 211) (by decide +kernel)
theorem pFL_ok_83 : pFL (6, 171, 1, 6) := List.mem_of_getElem? (i := 217) (by decide +kernel)
theorem pFL_ok_84 : pFL (6, 175, 1, 7) := List.mem_of_getElem? (i := 219) (by decide +kernel)
theorem pFL_ok_85 : pFL (6, 193, 1, 8) := List.mem_of_getElem? (i := 221) (by decide +kernel)
theorem pFL_ok_86 : pFL (6, 212, 1, 10) := List.mem_of_getElem? (i := 224) (by decide +kernel)
theorem pFL_ok_87 : pFL (6, 215, 1, 11) := List.mem_of_getElem? (i := 226) (by decide +kernel)
theorem pFL_ok_88 : pFL (6, 231, 1, 12) := List.mem_of_getElem? (i := 228) (by decide +kernel)
theorem pFL_ok_89 : pFL (6, 234, 1, 14) := List.mem_of_getElem? (i := 231) (by decide +kernel)
theorem pFL_ok_90 : pFL (6, 237, 1, 15) := List.mem_of_getElem? (i := 233) (by decide +kernel)
theorem pFL_ok_91 : pFL (6, 243, 3, 12) := List.mem_of_getElem? (i := 139) (by decide +kernel)
theorem pFL_ok_92 : pFL (6, 247, 2, 2) := List.mem_of_getElem? (i := 91) (by decide +kernel)
theorem pFL_ok_93 : pFL (6, 269, 0, 2) := List.mem_of_getElem? (i := 188) (by decide +kernel)
theorem pFL_ok_94 : pFL (6, 284, 3, 14) := List.mem_of_getElem? (i := 144) (by decide +kernel)
theorem pFL_ok_95 : pFL (6, 294, 0, 1) := List.mem_of_getElem? (i := 185) (by decide +kernel)
theorem pFL_ok_96 : pFL (6, 297, 0, 0) := List.mem_of_getElem? (i := 183) (by decide +kernel)
theorem pFL_ok_97 : pFL (6, 300, 3, 13) := List.mem_of_getElem? (i := 141) (by decide +kernel)
theorem pFL_ok_98 : pFL (6, 310, 4, 0) := List.mem_of_getElem? (i := 294) (by decide +kernel)
theorem pFL_ok_99 : pFL (6, 313, 4, 1) := List.mem_of_getElem? (i := 296) (by decide +kernel)
theorem pFL_ok_100 : pFL (6, 314, 4, 2) := List.mem_of_getElem? (i := 298) (by decide +kernel)
theorem pFL_ok_101 : pFL (6, 317, 6, 3) := List.mem_of_getElem? (i := 309) (by decide +kernel)
theorem pFL_ok_102 : pFL (6, 352, 0, 3) := List.mem_of_getElem? (i := 191) (by decide +kernel)
theorem pFL_ok_103 : pFL (7, 9, 7, 0) := List.mem_of_getElem? (i := 823) (by decide +kernel)
theorem pFL_ok_104 : pFL (7, 15, 7, 1) := List.mem_of_getElem? (i := 824) (by decide +kernel)
theorem pFL_ok_105 : pFL (7, 18, 7, 3) := List.mem_of_getElem? (i := 826) (by decide +kernel)
theorem pFL_ok_106 : pFL (7, 21, 7, 7) := List.mem_of_getElem? (i := 830) (by decide +kernel)
theorem pFL_ok_107 : pFL (7, 24, 7, 8) := List.mem_of_getElem? (i := 831) (by decide +kernel)
theorem pFL_ok_108 : pFL (7, 27, 7, 9) := List.mem_of_getElem? (i := 832) (by decide +kernel)
theorem pFL_ok_109 : pFL (7, 30, 7, 10) := List.mem_of_getElem? (i := 833) (by decide +kernel)
theorem pFL_ok_110 : pFL (7, 34, 7, 11) := List.mem_of_getElem? (i := 834) (by decide +kernel)
theorem pFL_ok_111 : pFL (7, 37, 7, 13) := List.mem_of_getElem? (i := 836) (by decide +kernel)
theorem pFL_ok_112 : pFL (7, 40, 7, 15) := List.mem_of_getElem? (i := 838) (by decide +kernel)
theorem pFL_ok_113 : pFL (7, 43, 7, 16) := List.mem_of_getElem? (i := 839) (by decide +kernel)
theorem pFL_ok_114 : pFL (7, 46, 7, 17) := List.mem_of_getElem? (i := 840) (by decide +kernel)
theorem pFL_ok_115 : pFL (7, 49, 7, 18) := List.mem_of_getElem? (i := 841) (by decide +kernel)
theorem pFL_ok_116 : pFL (7, 52, 7, 19) := List.mem_of_getElem? (i := 842) (by decide +kernel)
theorem pFL_ok_117 : pFL (7, 55, 7, 21) := List.mem_of_getElem? (i := 844) (by decide +kernel)
theorem pFL_ok_118 : pFL (7, 58, 7, 22) := List.mem_of_getElem? (i := 845) (by decide +kernel)
theorem pFL_ok_119 : pFL (7, 61, 7, 23) := List.mem_of_getElem? (i := 846) (by decide +kernel)
theorem pFL_ok_120 : pFL (7, 64, 7, 24) := List.mem_of_getElem? (i := 847) (by decide +kernel)
theorem pFL_ok_121 : pFL (7, 99, 7, 4) := List.mem_of_getElem? (i := 827) (by decide +kernel)
theorem pFL_ok_122 : pFL (7, 103, 7, 5) := List.mem_of_getElem? (i := 828) (by decide +kernel)
theorem pFL_ok_123 : pFL (7, 106, 7, 6) := List.mem_of_getElem? (i := 829) (by decide +kernel)
theorem pFL_ok_124 : pFL (7, 154, 7, 12) := List.mem_of_getElem? (i := 835) (by decide +kernel)
theorem pFL_ok_125 : pFL (7, 173, 7, 14) := List.mem_of_getElem? (i := 837) (by decide +kernel)
theorem pFL_ok_126 : pFL (7, 232, 7, 20) := List.mem_of_getElem? (i := 843) (by decide +kernel)
theorem pFL_ok_127 : pFL (7, 267, 7, 2) := List.mem_of_getElem? (i := 825) (by decide +kernel)
set_option maxRecDepth 100000 in
theorem pFL_ok : ∀ q ∈ pLKF, pFL q := List.forall_mem_cons.mpr ⟨pFL_ok_0, List.forall_mem_cons.mpr ⟨pFL_ok_1, List.forall_mem_cons.mpr ⟨pFL_ok_2, List.forall_mem_cons.mpr ⟨pFL_ok_3, List.forall_mem_cons.mpr ⟨pFL_ok_4, List.forall_mem_cons.mpr ⟨pFL_ok_5, List.forall_mem_cons.mpr ⟨pFL_ok_6, List.forall_mem_cons.mpr ⟨pFL_ok_7, List.forall_mem_cons.mpr ⟨pFL_ok_8, List.forall_mem_cons.mpr ⟨pFL_ok_9, List.forall_mem_cons.mpr ⟨pFL_ok_10, List.forall_mem_cons.mpr ⟨pFL_ok_11, List.forall_mem_cons.mpr ⟨pFL_ok_12, List.forall_mem_cons.mpr ⟨pFL_ok_13, List.forall_mem_cons.mpr ⟨pFL_ok_14, List.forall_mem_cons.mpr ⟨pFL_ok_15, List.forall_mem_cons.mpr ⟨pFL_ok_16, List.forall_mem_cons.mpr ⟨pFL_ok_17, List.forall_mem_cons.mpr ⟨pFL_ok_18, List.forall_mem_cons.mpr ⟨pFL_ok_19, List.forall_mem_cons.mpr ⟨pFL_ok_20, List.forall_mem_cons.mpr ⟨pFL_ok_21, List.forall_mem_cons.mpr ⟨pFL_ok_22, List.forall_mem_cons.mpr ⟨pFL_ok_23, List.forall_mem_cons.mpr ⟨pFL_ok_24, List.forall_mem_cons.mpr ⟨pFL_ok_25, List.forall_mem_cons.mpr ⟨pFL_ok_26, List.forall_mem_cons.mpr ⟨pFL_ok_27, List.forall_mem_cons.mpr ⟨pFL_ok_28, List.forall_mem_cons.mpr ⟨pFL_ok_29, List.forall_mem_cons.mpr ⟨pFL_ok_30, List.forall_mem_cons.mpr ⟨pFL_ok_31, List.forall_mem_cons.mpr ⟨pFL_ok_32, List.forall_mem_cons.mpr ⟨pFL_ok_33, List.forall_mem_cons.mpr ⟨pFL_ok_34, List.forall_mem_cons.mpr ⟨pFL_ok_35, List.forall_mem_cons.mpr ⟨pFL_ok_36, List.forall_mem_cons.mpr ⟨pFL_ok_37, List.forall_mem_cons.mpr ⟨pFL_ok_38, List.forall_mem_cons.mpr ⟨pFL_ok_39, List.forall_mem_cons.mpr ⟨pFL_ok_40, List.forall_mem_cons.mpr ⟨pFL_ok_41, List.forall_mem_cons.mpr ⟨pFL_ok_42, List.forall_mem_cons.mpr ⟨pFL_ok_43, List.forall_mem_cons.mpr ⟨pFL_ok_44, List.forall_mem_cons.mpr ⟨pFL_ok_45, List.forall_mem_cons.mpr ⟨pFL_ok_46, List.forall_mem_cons.mpr ⟨pFL_ok_47, List.forall_mem_cons.mpr ⟨pFL_ok_48, List.forall_mem_cons.mpr ⟨pFL_ok_49, List.forall_mem_cons.mpr ⟨pFL_ok_50, List.forall_mem_cons.mpr ⟨pFL_ok_51, List.forall_mem_cons.mpr ⟨pFL_ok_52, List.forall_mem_cons.mpr ⟨pFL_ok_53, List.forall_mem_cons.mpr ⟨pFL_ok_54, List.forall_mem_cons.mpr ⟨pFL_ok_55, List.forall_mem_cons.mpr ⟨pFL_ok_56, List.forall_mem_cons.mpr ⟨pFL_ok_57, List.forall_mem_cons.mpr ⟨pFL_ok_58, List.forall_mem_cons.mpr ⟨pFL_ok_59, List.forall_mem_cons.mpr ⟨pFL_ok_60, List.forall_mem_cons.mpr ⟨pFL_ok_61, List.forall_mem_cons.mpr ⟨pFL_ok_62, List.forall_mem_cons.mpr ⟨pFL_ok_63, List.forall_mem_cons.mpr ⟨pFL_ok_64, List.forall_mem_cons.mpr ⟨pFL_ok_65, List.forall_mem_cons.mpr ⟨pFL_ok_66, List.forall_mem_cons.mpr ⟨pFL_ok_67, List.forall_mem_cons.mpr ⟨pFL_ok_68, List.forall_mem_cons.mpr ⟨pFL_ok_69, List.forall_mem_cons.mpr ⟨pFL_ok_70, List.forall_mem_cons.mpr ⟨pFL_ok_71, List.forall_mem_cons.mpr ⟨pFL_ok_72, List.forall_mem_cons.mpr ⟨pFL_ok_73, List.forall_mem_cons.mpr ⟨pFL_ok_74, List.forall_mem_cons.mpr ⟨pFL_ok_75, List.forall_mem_cons.mpr ⟨pFL_ok_76, List.forall_mem_cons.mpr ⟨pFL_ok_77, List.forall_mem_cons.mpr ⟨pFL_ok_78, List.forall_mem_cons.mpr ⟨pFL_ok_79, List.forall_mem_cons.mpr ⟨pFL_ok_80, List.forall_mem_cons.mpr ⟨pFL_ok_81, List.forall_mem_cons.mpr ⟨pFL_ok_82, List.forall_mem_cons.mpr ⟨pFL_ok_83, List.forall_mem_cons.mpr ⟨pFL_ok_84, List.forall_mem_cons.mpr ⟨pFL_ok_85, List.forall_mem_cons.mpr ⟨pFL_ok_86, List.forall_mem_cons.mpr ⟨pFL_ok_87, List.forall_mem_cons.mpr ⟨pFL_ok_88, List.forall_mem_cons.mpr ⟨pFL_ok_89, List.forall_mem_cons.mpr ⟨pFL_ok_90, List.forall_mem_cons.mpr ⟨pFL_ok_91, List.forall_mem_cons.mpr ⟨pFL_ok_92, List.forall_mem_cons.mpr ⟨pFL_ok_93, List.forall_mem_cons.mpr ⟨pFL_ok_94, List.forall_mem_cons.mpr ⟨pFL_ok_95, List.forall_mem_cons.mpr ⟨pFL_ok_96, List.forall_mem_cons.mpr ⟨pFL_ok_97, List.forall_mem_cons.mpr ⟨pFL_ok_98, List.forall_mem_cons.mpr ⟨pFL_ok_99, List.forall_mem_cons.mpr ⟨pFL_ok_100, List.forall_mem_cons.mpr ⟨pFL_ok_101, List.forall_mem_cons.mpr ⟨pFL_ok_102, List.forall_mem_cons.mpr ⟨pFL_ok_103, List.forall_mem_cons.mpr ⟨pFL_ok_104, List.forall_mem_cons.mpr ⟨pFL_ok_105, List.forall_mem_cons.mpr ⟨pFL_ok_106, List.forall_mem_cons.mpr ⟨pFL_ok_107, List.forall_mem_cons.mpr ⟨pFL_ok_108, List.forall_mem_cons.mpr ⟨pFL_ok_109, List.forall_mem_cons.mpr ⟨pFL_ok_110, List.forall_mem_cons.mpr ⟨pFL_ok_111, List.forall_mem_cons.mpr ⟨pFL_ok_112, List.forall_mem_cons.mpr ⟨pFL_ok_113, List.forall_mem_cons.mpr ⟨pFL_ok_114, List.forall_mem_cons.mpr ⟨pFL_ok_115, List.forall_mem_cons.mpr ⟨pFL_ok_116, List.forall_mem_cons.mpr ⟨pFL_ok_117, List.forall_mem_cons.mpr ⟨pFL_ok_118, List.forall_mem_cons.mpr ⟨pFL_ok_119, List.forall_mem_cons.mpr ⟨pFL_ok_120, List.forall_mem_cons.mpr ⟨pFL_ok_121, List.forall_mem_cons.mpr ⟨pFL_ok_122, List.forall_mem_cons.mpr ⟨pFL_ok_123, List.forall_mem_cons.mpr ⟨pFL_ok_124, List.forall_mem_cons.mpr ⟨pFL_ok_125, List.forall_mem_cons.mpr ⟨pFL_ok_126, List.forall_mem_cons.mpr ⟨pFL_ok_127, fun _ h => absurd h List.not_mem_nil⟩⟩⟩⟩⟩⟩⟩⟩⟩⟩⟩⟩⟩⟩⟩⟩⟩⟩⟩⟩⟩⟩⟩⟩⟩⟩⟩⟩⟩⟩⟩⟩⟩⟩⟩⟩⟩⟩⟩⟩⟩⟩⟩⟩⟩⟩⟩⟩⟩⟩⟩⟩⟩⟩⟩⟩⟩⟩⟩⟩⟩⟩⟩⟩⟩⟩⟩⟩⟩⟩⟩⟩⟩⟩⟩⟩⟩⟩⟩⟩⟩⟩⟩⟩⟩⟩⟩⟩⟩⟩⟩⟩⟩⟩⟩⟩⟩⟩⟩⟩⟩⟩⟩⟩⟩⟩⟩⟩⟩⟩⟩⟩⟩⟩⟩⟩⟩⟩⟩⟩⟩⟩⟩⟩⟩⟩⟩⟩
def pML (q : Nat × Nat × Nat) : Prop := Cond.methodLink (pNm q.1) q.2.1 (pY q.2.2) ∈ lw_tbl
theorem pML_ok_0 : pML (0, 36, 50) := List.mem_of_getElem? (i := 688) (by decide +kernel)
theorem pML_ok_1 : pML (0, 40, 41) := List.mem_of_getElem? (i := 694) (by decide +kernel)
theorem pML_ok_2 : pML (0, 44, 1) := List.mem_of_getElem? (i := 698) (by decide +kernel)
theorem pML_ok_3 : pML (0, 52, 31) := List.mem_of_getElem? (i := 699) (by decide +kernel)
theorem pML_ok_4 : pML (0, 58, 33) := List.mem_of_getElem? (i := 700) (by decide +kernel)
theorem pML_ok_5 : pML (0, 61, 32) := List.mem_of_getElem? (i := 704) (by decide +kernel)
theorem pML_ok_6 : pML (1, 69, 1) := List.mem_of_getElem? (i := 492) (by decide +kernel)
theorem pML_ok_7 : pML (1, 90, 10) := List.mem_of_getElem? (i := 487) (by decide +kernel)
theorem pML_ok_8 : pML (1, 97, 8) := List.mem_of_getElem? (i := 497) (by decide +kernel)
theorem pML_ok_9 : pML (1, 101, 11) := List.mem_of_getElem? (i := 501) (by decide +kernel)
theorem pML_ok_10 : pML (1, 105, 43) := List.mem_of_getElem? (i := 491) (by decide +kernel)
theorem pML_ok_11 : pML (1, 109, 39) := List.mem_of_getElem? (i := 496) (by decide +kernel)
theorem pML_ok_12 : pML (1, 113, 12) := List.mem_of_getElem? (i := 504) (by decide +kernel)
theorem pML_ok_13 : pML (1, 117, 6) := List.mem_of_getElem? (i := 507) (by decide +kernel)
theorem pML_ok_14 : pML (1, 121, 13) := List.mem_of_getElem? (i := 518) (by decide +kernel)
theorem pML_ok_15 : pML (1, 124, 5) := List.mem_of_getElem? (i := 514) (by decide +kernel)
theorem pML_ok_16 : pML (1, 128, 9) := List.mem_of_getElem? (i := 482) (by decide +kernel)
theorem pML_ok_17 : pML (1, 132, 16) := List.mem_of_getElem? (i := 510) (by decide +kernel)
theorem pML_ok_18 : pML (1, 137, 4) := List.mem_of_getElem? (i := 473) (by decide +kernel)
theorem pML_ok_19 : pML (1, 144, 17) := List.mem_of_getElem? (i := 478) (by decide +kernel)
theorem pML_ok_20 : pML (1, 157, 34) := List.mem_of_getElem? (i := 676) (by decide +kernel)
theorem pML_ok_21 : pML (1, 161, 15) := List.mem_of_getElem? (i := 651) (by decide +kernel)
theorem pML_ok_22 : pML (1, 165, 7) := List.mem_of_getElem? (i := 587) (by decide +kernel)
theorem pML_ok_23 : pML (1, 169, 21) := List.mem_of_getElem? (i := 592) (by decide +kernel)
theorem pML_ok_24 : pML (1, 173, 20) := List.mem_of_getElem? (i := 608) (by decide +kernel)
theorem pML_ok_25 : pML (1, 176, 22) := List.mem_of_getElem? (i := 609) (by decide +kernel)
theorem pML_ok_26 : pML (1, 179, 28) := List.mem_of_getElem? (i := 635) (by decide +kernel)
theorem pML_ok_27 : pML (2, 26, 31) := List.mem_of_getElem? (i := 667) (by decide +kernel)
theorem pML_ok_28 : pML (3, 43, 30) := List.mem_of_getElem? (i := 79) (by decide +kernel)
theorem pML_ok_29 : pML (3, 71, 35) := List.mem_of_getElem? (i := 397) (by decide +kernel)
theorem pML_ok_30 : pML (3, 78, 48) := List.mem_of_getElem? (i := 449) (by decide +kernel)
theorem pML_ok_31 : pML (3, 82, 43) := List.mem_of_getElem? (i := 692) (by decide +kernel)
theorem pML_ok_32 : pML (5, 22, 59) := List.mem_of_getElem? (i := 406) (by decide +kernel)
theorem pML_ok_33 : pML (5, 26, 58) := List.mem_of_getElem? (i := 410) (by decide +kernel)
theorem pML_ok_34 : pML (5, 30, 61) := List.mem_of_getElem? (i := 414) (by decide +kernel)
theorem pML_ok_35 : pML (5, 33, 62) := List.mem_of_getElem? (i := 424) (by decide +kernel)
theorem pML_ok_36 : pML (5, 36, 63) := List.mem_of_getElem? (i := 428) (by decide +kernel)
theorem pML_ok_37 : pML (5, 39, 64) := List.mem_of_getElem? (i := 432) (by decide +kernel)
theorem pML_ok_38 : pML (5, 42, 60) := List.mem_of_getElem? (i := 418) (by decide +kernel)
theorem pML_ok_39 : pML (5, 52, 43) := List.mem_of_getElem? (i := 422) (by decide +kernel)
theorem pML_ok_40 : pML (6, 52, 111) := List.mem_of_getElem? (i := 335) (by decide +kernel)
theorem pML_ok_41 : pML (6, 60, 38) := List.mem_of_getElem? (i := 338) (by decide +kernel)
theorem pML_ok_42 : pML (6, 64, 44) := List.mem_of_getElem? (i := 346) (by decide +kernel)
theorem pML_ok_43 : pML (6, 68, 45) := List.mem_of_getElem? (i := 350) (by decide +kernel)
theorem pML_ok_44 : pML (6, 71, 46) := List.mem_of_getElem? (i := 354) (by decide +kernel)
theorem pML_ok_45 : pML (6, 78, 43) := List.mem_of_getElem? (i := 362) (by decide +kernel)
theorem pML_ok_46 : pML (6, 82, 39) := List.mem_of_getElem? (i := 370) (by decide +kernel)
theorem pML_ok_47 : pML (6, 86, 40) := List.mem_of_getElem? (i := 374) (by decide +kernel)
theorem pML_ok_48 : pML (6, 96, 56) := List.mem_of_getElem? (i := 382) (by decide +kernel)
theorem pML_ok_49 : pML (6, 100, 37) := List.mem_of_getElem? (i := 390) (by decide +kernel)
theorem pML_ok_50 : pML (6, 104, 57) := List.mem_of_getElem? (i := 402) (by decide +kernel)
theorem pML_ok_51 : pML (6, 121, 49) := List.mem_of_getElem? (i := 445) (by decide +kernel)
theorem pML_ok_52 : pML (6, 146, 116) := List.mem_of_getElem? (i := 461) (by decide +kernel)
theorem pML_ok_53 : pML (6, 150, 117) := List.mem_of_getElem? (i := 465) (by decide +kernel)
theorem pML_ok_54 : pML (6, 156, 7) := List.mem_of_getElem? (i := 528) (by decide +kernel)
theorem pML_ok_55 : pML (6, 160, 114) := List.mem_of_getElem? (i := 532) (by decide +kernel)
theorem pML_ok_56 : pML (6, 164, 8) := List.mem_of_getElem? (i := 545) (by decide +kernel)
theorem pML_ok_57 : pML (6, 168, 9) := List.mem_of_getElem? (i := 550) (by decide +kernel)
theorem pML_ok_58 : pML (6, 179, 13) := List.mem_of_getElem? (i := 555) (by decide +kernel)
theorem pML_ok_59 : pML (6, 182, 14) := List.mem_of_getElem? (i := 556) (by decide +kernel)
theorem pML_ok_60 : pML (6, 186, 16) := List.mem_of_getElem? (i := 564) (by decide +kernel)
theorem pML_ok_61 : pML (6, 190, 17) := List.mem_of_getElem? (i := 569) (by decide +kernel)
theorem pML_ok_62 : pML (6, 196, 48) := List.mem_of_getElem? (i := 574) (by decide +kernel)
theorem pML_ok_63 : pML (6, 199, 20) := List.mem_of_getElem? (i := 583) (by decide +kernel)
theorem pML_ok_64 : pML (6, 202, 22) := List.mem_of_getElem? (i := 588) (by decide +kernel)
theorem pML_ok_65 : pML (6, 205, 23) := List.mem_of_getElem? (i := 596) (by decide +kernel)
theorem pML_ok_66 : pML (6, 208, 24) := List.mem_of_getElem? (i := 604) (by decide +kernel)
theorem pML_ok_67 : pML (6, 218, 25) := List.mem_of_getElem? (i := 614) (by decide +kernel)
theorem pML_ok_68 : pML (6, 221, 26) := List.mem_of_getElem? (i := 622) (by decide +kernel)
theorem pML_ok_69 : pML (6, 224, 5) := List.mem_of_getElem? (i := 626) (by decide +kernel)
theorem pML_ok_70 : pML (6, 227, 27) := List.mem_of_getElem? (i := 631) (by decide +kernel)
theorem pML_ok_71 : pML (6, 240, 29) := List.mem_of_getElem? (i := 647) (by decide +kernel)
theorem pML_ok_72 : pML (6, 252, 31) := List.mem_of_getElem? (i := 659) (by decide +kernel)
theorem pML_ok_73 : pML (6, 256, 32) := List.mem_of_getElem? (i := 663) (by decide +kernel)
theorem pML_ok_74 : pML (6, 260, 18) := List.mem_of_getElem? (i := 469) (by decide +kernel)
theorem pML_ok_75 : pML (6, 263, 19) := List.mem_of_getElem? (i := 672) (by decide +kernel)
theorem pML_ok_76 : pML (6, 266, 2) := List.mem_of_getElem? (i := 684) (by decide +kernel)
theorem pML_ok_77 : pML (6, 272, 112) := List.mem_of_getElem? (i := 705) (by decide +kernel)
theorem pML_ok_78 : pML (6, 276, 118) := List.mem_of_getElem? (i := 712) (by decide +kernel)
theorem pML_ok_79 : pML (6, 280, 113) := List.mem_of_getElem? (i := 724) (by decide +kernel)
theorem pML_ok_80 : pML (6, 287, 34) := List.mem_of_getElem? (i := 731) (by decide +kernel)
theorem pML_ok_81 : pML (6, 291, 42) := List.mem_of_getElem? (i := 736) (by decide +kernel)
theorem pML_ok_82 : pML (6, 303, 119) := List.mem_of_getElem? (i := 752) (by decide +kernel)
theorem pML_ok_83 : pML (6, 306, 120) := List.mem_of_getElem? (i := 765) (by decide +kernel)
theorem pML_ok_84 : pML (6, 321, 47) := List.mem_of_getElem? (i := 785) (by decide +kernel)
theorem pML_ok_85 : pML (6, 324, 52) := List.mem_of_getElem? (i := 793) (by decide +kernel)
theorem pML_ok_86 : pML (6, 327, 54) := List.mem_of_getElem? (i := 801) (by decide +kernel)
theorem pML_ok_87 : pML (6, 331, 53) := List.mem_of_getElem? (i := 813) (by decide +kernel)
theorem pML_ok_88 : pML (6, 339, 115) := List.mem_of_getElem? (i := 538) (by decide +kernel)
theorem pML_ok_89 : pML (6, 343, 4) := List.mem_of_getElem? (i := 522) (by decide +kernel)
theorem pML_ok_90 : pML (6, 347, 41) := List.mem_of_getElem? (i := 756) (by decide +kernel)
theorem pML_ok_91 : pML (6, 348, 1) := List.mem_of_getElem? (i := 757) (by decide +kernel)
theorem pML_ok_92 : pML (7, 67, 122) := List.mem_of_getElem? (i := 904) (by decide +kernel)
theorem pML_ok_93 : pML (7, 71, 123) := List.mem_of_getElem? (i := 930) (by decide +kernel)
theorem pML_ok_94 : pML (7, 81, 127) := List.mem_of_getElem? (i := 913) (by decide +kernel)
theorem pML_ok_95 : pML (7, 87, 125) := List.mem_of_getElem? (i := 922) (by decide +kernel)
theorem pML_ok_96 : pML (7, 91, 124) := List.mem_of_getElem? (i := 934) (by decide +kernel)
theorem pML_ok_97 : pML (7, 110, 135) := List.mem_of_getElem? (i := 964) (by decide +kernel)
theorem pML_ok_98 : pML (7, 115, 136) := List.mem_of_getElem? (i := 972) (by decide +kernel)
theorem pML_ok_99 : pML (7, 118, 137) := List.mem_of_getElem? (i := 968) (by decide +kernel)
theorem pML_ok_100 : pML (7, 121, 138) := List.mem_of_getElem? (i := 960) (by decide +kernel)
theorem pML_ok_101 : pML (7, 124, 140) := List.mem_of_getElem? (i := 988) (by decide +kernel)
theorem pML_ok_102 : pML (7, 128, 141) := List.mem_of_getElem? (i := 1011) (by decide +kernel)
theorem pML_ok_103 : pML (7, 131, 142) := List.mem_of_getElem? (i := 1007) (by decide +kernel)
theorem pML_ok_104 : pML (7, 134, 145) := List.mem_of_getElem? (i := 995) (by decide +kernel)
theorem pML_ok_105 : pML (7, 138, 147) := List.mem_of_getElem? (i := 981) (by decide +kernel)
theorem pML_ok_106 : pML (7, 141, 144) := List.mem_of_getElem? (i := 984) (by decide +kernel)
theorem pML_ok_107 : pML (7, 144, 146) := List.mem_of_getElem? (i := 992) (by decide +kernel)
theorem pML_ok_108 : pML (7, 150, 143) := List.mem_of_getElem? (i := 1003) (by decide +kernel)
theorem pML_ok_109 : pML (7, 160, 150) := List.mem_of_getElem? (i := 1038) (by decide +kernel)
theorem pML_ok_110 : pML (7, 164, 152) := List.mem_of_getElem? (i := 1046) (by decide +kernel)
theorem pML_ok_111 : pML (7, 167, 151) := List.mem_of_getElem? (i := 1033) (by decide +kernel)
theorem pML_ok_112 : pML (7, 170, 154) := List.mem_of_getElem? (i := 1042) (by decide +kernel)
theorem pML_ok_113 : pML (7, 176, 155) := List.mem_of_getElem? (i := 1029) (by decide +kernel)
theorem pML_ok_114 : pML (7, 183, 156) := List.mem_of_getElem? (i := 1025) (by decide +kernel)
theorem pML_ok_115 : pML (7, 186, 157) := List.mem_of_getElem? (i := 1021) (by decide +kernel)
theorem pML_ok_116 : pML (7, 189, 153) := List.mem_of_getElem? (i := 1058) (by decide +kernel)
theorem pML_ok_117 : pML (7, 193, 166) := List.mem_of_getElem? (i := 1090) (by decide +kernel)
theorem pML_ok_118 : pML (7, 196, 165) := List.mem_of_getElem? (i := 1082) (by decide +kernel)
theorem pML_ok_119 : pML (7, 199, 167) := List.mem_of_getElem? (i := 1086) (by decide +kernel)
theorem pML_ok_120 : pML (7, 202, 168) := List.mem_of_getElem? (i := 1094) (by decide +kernel)
theorem pML_ok_121 : pML (7, 205, 170) := List.mem_of_getElem? (i := 1106) (by decide +kernel)
theorem pML_ok_122 : pML (7, 208, 171) := List.mem_of_getElem? (i := 1102) (by decide +kernel)
theorem pML_ok_123 : pML (7, 212, 172) := List.mem_of_getElem? (i := 1110) (by decide +kernel)
theorem pML_ok_124 : pML (7, 215, 175) := List.mem_of_getElem? (i := 1122) (by decide +kernel)
theorem pML_ok_125 : pML (7, 218, 178) := List.mem_of_getElem? (i := 1134) (by decide +kernel)
theorem pML_ok_126 : pML (7, 222, 177) := List.mem_of_getElem? (i := 1138) (by decide +kernel)
theorem pML_ok_127 : pML (7, 226, 179) := List.mem_of_getElem? (i := 1130) (by decide +kernel)
theorem pML_ok_128 : pML (7, 229, 184) := List.mem_of_getElem? (i := 1158) (by decide +kernel)
theorem pML_ok_129 : pML (7, 236, 186) := List.mem_of_getElem? (i := 1171) (by decide +kernel)
theorem pML_ok_130 : pML (7, 241, 187) := List.mem_of_getElem? (i := 1167) (by decide +kernel)
theorem pML_ok_131 : pML (7, 248, 188) := List.mem_of_getElem? (i := 1177) (by decide +kernel)
theorem pML_ok_132 : pML (7, 254, 190) := List.mem_of_getElem? (i := 1185) (by decide +kernel)
theorem pML_ok_133 : pML (7, 260, 199) := List.mem_of_getElem? (i := 1222) (by decide +kernel)
theorem pML_ok_134 : pML (7, 263, 200) := List.mem_of_getElem? (i := 1229) (by decide +kernel)
theorem pML_ok_135 : pML (8, 9, 65) := List.mem_of_getElem? (i := 65) (by decide +kernel)
theorem pML_ok_136 : pML (8, 12, 121) := List.mem_of_getElem? (i := 819) (by decide +kernel)
theorem pML_ok_137 : pML (8, 13, 66) := List.mem_of_getElem? (i := 331) (by decide +kernel)
theorem pML_ok_138 : pML (8, 17, 126) := List.mem_of_getElem? (i := 899) (by decide +kernel)
theorem pML_ok_139 : pML (8, 18, 67) := List.mem_of_getElem? (i := 342) (by decide +kernel)
theorem pML_ok_140 : pML (8, 21, 128) := List.mem_of_getElem? (i := 908) (by decide +kernel)
theorem pML_ok_141 : pML (8, 22, 68) := List.mem_of_getElem? (i := 358) (by decide +kernel)
theorem pML_ok_142 : pML (8, 25, 129) := List.mem_of_getElem? (i := 917) (by decide +kernel)
theorem pML_ok_143 : pML (8, 26, 69) := List.mem_of_getElem? (i := 366) (by decide +kernel)
theorem pML_ok_144 : pML (8, 29, 130) := List.mem_of_getElem? (i := 926) (by decide +kernel)
theorem pML_ok_145 : pML (8, 30, 70) := List.mem_of_getElem? (i := 378) (by decide +kernel)
theorem pML_ok_146 : pML (8, 34, 134) := List.mem_of_getElem? (i := 951) (by decide +kernel)
theorem pML_ok_147 : pML (8, 35, 71) := List.mem_of_getElem? (i := 386) (by decide +kernel)
theorem pML_ok_148 : pML (8, 39, 139) := List.mem_of_getElem? (i := 956) (by decide +kernel)
theorem pML_ok_149 : pML (8, 40, 72) := List.mem_of_getElem? (i := 436) (by decide +kernel)
theorem pML_ok_150 : pML (8, 43, 131) := List.mem_of_getElem? (i := 938) (by decide +kernel)
theorem pML_ok_151 : pML (8, 44, 73) := List.mem_of_getElem? (i := 441) (by decide +kernel)
theorem pML_ok_152 : pML (8, 47, 132) := List.mem_of_getElem? (i := 942) (by decide +kernel)
theorem pML_ok_153 : pML (8, 48, 74) := List.mem_of_getElem? (i := 453) (by decide +kernel)
theorem pML_ok_154 : pML (8, 51, 133) := List.mem_of_getElem? (i := 946) (by decide +kernel)
theorem pML_ok_155 : pML (8, 52, 75) := List.mem_of_getElem? (i := 457) (by decide +kernel)
theorem pML_ok_156 : pML (8, 55, 158) := List.mem_of_getElem? (i := 1015) (by decide +kernel)
theorem pML_ok_157 : pML (8, 56, 76) := List.mem_of_getElem? (i := 523) (by decide +kernel)
theorem pML_ok_158 : pML (8, 60, 148) := List.mem_of_getElem? (i := 977) (by decide +kernel)
theorem pML_ok_159 : pML (8, 61, 77) := List.mem_of_getElem? (i := 541) (by decide +kernel)
theorem pML_ok_160 : pML (8, 65, 149) := List.mem_of_getElem? (i := 999) (by decide +kernel)
theorem pML_ok_161 : pML (8, 66, 78) := List.mem_of_getElem? (i := 546) (by decide +kernel)
theorem pML_ok_162 : pML (8, 69, 159) := List.mem_of_getElem? (i := 1050) (by decide +kernel)
theorem pML_ok_163 : pML (8, 70, 79) := List.mem_of_getElem? (i := 551) (by decide +kernel)
theorem pML_ok_164 : pML (8, 73, 160) := List.mem_of_getElem? (i := 1054) (by decide +kernel)
theorem pML_ok_165 : pML (8, 74, 80) := List.mem_of_getElem? (i := 560) (by decide +kernel)
theorem pML_ok_166 : pML (8, 77, 161) := List.mem_of_getElem? (i := 1062) (by decide +kernel)
theorem pML_ok_167 : pML (8, 78, 81) := List.mem_of_getElem? (i := 565) (by decide +kernel)
theorem pML_ok_168 : pML (8, 81, 162) := List.mem_of_getElem? (i := 1066) (by decide +kernel)
theorem pML_ok_169 : pML (8, 82, 82) := List.mem_of_getElem? (i := 570) (by decide +kernel)
theorem pML_ok_170 : pML (8, 85, 163) := List.mem_of_getElem? (i := 1070) (by decide +kernel)
theorem pML_ok_171 : pML (8, 86, 83) := List.mem_of_getElem? (i := 575) (by decide +kernel)
theorem pML_ok_172 : pML (8, 90, 164) := List.mem_of_getElem? (i := 1074) (by decide +kernel)
theorem pML_ok_173 : pML (8, 91, 84) := List.mem_of_getElem? (i := 579) (by decide +kernel)
theorem pML_ok_174 : pML (8, 94, 169) := List.mem_of_getElem? (i := 1078) (by decide +kernel)
theorem pML_ok_175 : pML (8, 95, 85) := List.mem_of_getElem? (i := 600) (by decide +kernel)
theorem pML_ok_176 : pML (8, 98, 173) := List.mem_of_getElem? (i := 1098) (by decide +kernel)
theorem pML_ok_177 : pML (8, 99, 86) := List.mem_of_getElem? (i := 610) (by decide +kernel)
theorem pML_ok_178 : pML (8, 102, 174) := List.mem_of_getElem? (i := 1114) (by decide +kernel)
theorem pML_ok_179 : pML (8, 103, 87) := List.mem_of_getElem? (i := 618) (by decide +kernel)
theorem pML_ok_180 : pML (8, 106, 176) := List.mem_of_getElem? (i := 1118) (by decide +kernel)
theorem pML_ok_181 : pML (8, 107, 88) := List.mem_of_getElem? (i := 627) (by decide +kernel)
theorem pML_ok_182 : pML (8, 110, 180) := List.mem_of_getElem? (i := 1126) (by decide +kernel)
theorem pML_ok_183 : pML (8, 111, 89) := List.mem_of_getElem? (i := 639) (by decide +kernel)
theorem pML_ok_184 : pML (8, 114, 181) := List.mem_of_getElem? (i := 1142) (by decide +kernel)
theorem pML_ok_185 : pML (8, 115, 90) := List.mem_of_getElem? (i := 643) (by decide +kernel)
theorem pML_ok_186 : pML (8, 118, 182) := List.mem_of_getElem? (i := 1146) (by decide +kernel)
theorem pML_ok_187 : pML (8, 119, 91) := List.mem_of_getElem? (i := 655) (by decide +kernel)
theorem pML_ok_188 : pML (8, 122, 183) := List.mem_of_getElem? (i := 1150) (by decide +kernel)
theorem pML_ok_189 : pML (8, 123, 92) := List.mem_of_getElem? (i := 668) (by decide +kernel)
theorem pML_ok_190 : pML (8, 126, 185) := List.mem_of_getElem? (i := 1154) (by decide +kernel)
theorem pML_ok_191 : pML (8, 127, 93) := List.mem_of_getElem? (i := 680) (by decide +kernel)
theorem pML_ok_192 : pML (8, 130, 189) := List.mem_of_getElem? (i := 1162) (by decide +kernel)
theorem pML_ok_193 : pML (8, 131, 94) := List.mem_of_getElem? (i := 708) (by decide +kernel)
theorem pML_ok_194 : pML (8, 134, 191) := List.mem_of_getElem? (i := 1181) (by decide +kernel)
theorem pML_ok_195 : pML (8, 135, 95) := List.mem_of_getElem? (i := 716) (by decide +kernel)
theorem pML_ok_196 : pML (8, 138, 192) := List.mem_of_getElem? (i := 1189) (by decide +kernel)
theorem pML_ok_197 : pML (8, 141, 96) := List.mem_of_getElem? (i := 720) (by decide +kernel)
theorem pML_ok_198 : pML (8, 145, 193) := List.mem_of_getElem? (i := 1193) (by decide +kernel)
theorem pML_ok_199 : pML (8, 146, 97) := List.mem_of_getElem? (i := 727) (by decide +kernel)
theorem pML_ok_200 : pML (8, 149, 194) := List.mem_of_getElem? (i := 1197) (by decide +kernel)
theorem pML_ok_201 : pML (8, 150, 98) := List.mem_of_getElem? (i := 732) (by decide +kernel)
theorem pML_ok_202 : pML (8, 154, 195) := List.mem_of_getElem? (i := 1201) (by decide +kernel)
theorem pML_ok_203 : pML (8, 155, 99) := List.mem_of_getElem? (i := 740) (by decide +kernel)
theorem pML_ok_204 : pML (8, 159, 196) := List.mem_of_getElem? (i := 1205) (by decide +kernel)
theorem pML_ok_205 : pML (8, 160, 100) := List.mem_of_getElem? (i := 744) (by decide +kernel)
theorem pML_ok_206 : pML (8, 163, 197) := List.mem_of_getElem? (i := 1210) (by decide +kernel)
theorem pML_ok_207 : pML (8, 164, 101) := List.mem_of_getElem? (i := 748) (by decide +kernel)
theorem pML_ok_208 : pML (8, 167, 198) := List.mem_of_getElem? (i := 1214) (by decide +kernel)
theorem pML_ok_209 : pML (8, 168, 102) := List.mem_of_getElem? (i := 761) (by decide +kernel)
theorem pML_ok_210 : pML (8, 172, 205) := List.mem_of_getElem? (i := 1240) (by decide +kernel)
theorem pML_ok_211 : pML (8, 173, 103) := List.mem_of_getElem? (i := 769) (by decide +kernel)
theorem pML_ok_212 : pML (8, 176, 206) := List.mem_of_getElem? (i := 1244) (by decide +kernel)
theorem pML_ok_213 : pML (8, 177, 104) := List.mem_of_getElem? (i := 773) (by decide +kernel)
theorem pML_ok_214 : pML (8, 180, 207) := List.mem_of_getElem? (i := 1248) (by decide +kernel)
theorem pML_ok_215 : pML (8, 181, 105) := List.mem_of_getElem? (i := 777) (by decide +kernel)
theorem pML_ok_216 : pML (8, 184, 208) := List.mem_of_getElem? (i := 1252) (by decide +kernel)
theorem pML_ok_217 : pML (8, 185, 106) := List.mem_of_getElem? (i := 781) (by decide +kernel)
theorem pML_ok_218 : pML (8, 188, 209) := List.mem_of_getElem? (i := 1256) (by decide +kernel)
theorem pML_ok_219 : pML (8, 189, 107) := List.mem_of_getElem? (i := 789) (by decide +kernel)
theorem pML_ok_220 : pML (8, 192, 201) := List.mem_of_getElem? (i := 1218) (by decide +kernel)
theorem pML_ok_221 : pML (8, 193, 108) := List.mem_of_getElem? (i := 797) (by decide +kernel)
theorem pML_ok_222 : pML (8, 197, 202) := List.mem_of_getElem? (i := 1225) (by decide +kernel)
theorem pML_ok_223 : pML (8, 198, 109) := List.mem_of_getElem? (i := 805) (by decide +kernel)
theorem pML_ok_224 : pML (8, 201, 203) := List.mem_of_getElem? (i := 1232) (by decide +kernel)
theorem pML_ok_225 : pML (8, 202, 110) := List.mem_of_getElem? (i := 809) (by decide +kernel)
theorem pML_ok_226 : pML (8, 206, 204) := List.mem_of_getElem? (i := 1236) (by decide +kernel)
set_option maxRecDepth 100000 in
theorem pML_ok : ∀ q ∈ pLKM, pML q := List.forall_mem_cons.mpr ⟨pML_ok_0, List.forall_mem_cons.mpr ⟨pML_ok_1, List.forall_mem_cons.mpr ⟨pML_ok_2, List.forall_mem_cons.mpr ⟨pML_ok_3, List.forall_mem_cons.mpr ⟨pML_ok_4, List.forall_mem_cons.mpr ⟨pML_ok_5, List.forall_mem_cons.mpr ⟨pML_ok_6, List.forall_mem_cons.mpr ⟨pML_ok_7, List.forall_mem_cons.mpr ⟨pML_ok_8, List.forall_mem_cons.mpr ⟨pML_ok_9, List.forall_mem_cons.mpr ⟨pML_ok_10, List.forall_mem_cons.mpr ⟨pML_ok_11, List.forall_mem_cons.mpr ⟨pML_ok_12, List.forall_mem_cons.mpr ⟨pML_ok_13, List.forall_mem_cons.mpr ⟨pML_ok_14, List.forall_mem_cons.mpr ⟨pML_ok_15, List.forall_mem_cons.mpr ⟨pML_ok_16, List.forall_mem_cons.mpr ⟨pML_ok_17, List.forall_mem_cons.mpr ⟨pML_ok_18, List.forall_mem_cons.mpr ⟨pML_ok_19, List.forall_mem_cons.mpr ⟨pML_ok_20, List.forall_mem_cons.mpr ⟨pML_ok_21, List.forall_mem_cons.mpr ⟨pML_ok_22, List.forall_mem_cons.mpr ⟨pML_ok_23, List.forall_mem_cons.mpr ⟨pML_ok_24, List.forall_mem_cons.mpr ⟨pML_ok_25, List.forall_mem_cons.mpr ⟨pML_ok_26, List.forall_mem_cons.mpr ⟨pML_ok_27, List.forall_mem_cons.mpr ⟨pML_ok_28, List.forall_mem_cons.mpr ⟨pML_ok_29, List.forall_mem_cons.mpr ⟨pML_ok_30, List.forall_mem_cons.mpr ⟨pML_ok_31, List.forall_mem_cons.mpr ⟨pML_ok_32, List.forall_mem_cons.mpr ⟨pML_ok_33, List.forall_mem_cons.mpr ⟨pML_ok_34, List.forall_mem_cons.mpr ⟨pML_ok_35, List.forall_mem_cons.mpr ⟨pML_ok_36, List.forall_mem_cons.mpr ⟨pML_ok_37, List.forall_mem_cons.mpr ⟨pML_ok_38, List.forall_mem_cons.mpr ⟨pML_ok_39, List.forall_mem_cons.mpr ⟨pML_ok_40, List.forall_mem_cons.mpr ⟨pML_ok_41, List.forall_mem_cons.mpr ⟨pML_ok_42, List.forall_mem_cons.mpr ⟨pML_ok_43, List.forall_mem_cons.mpr ⟨pML_ok_44, List.forall_mem_cons.mpr ⟨pML_ok_45, List.forall_mem_cons.mpr ⟨pML_ok_46, List.forall_mem_cons.mpr ⟨pML_ok_47, List.forall_mem_cons.mpr ⟨pML_ok_48, List.forall_mem_cons.mpr ⟨pML_ok_49, List.forall_mem_cons.mpr ⟨pML_ok_50, List.forall_mem_cons.mpr ⟨pML_ok_51, List.forall_mem_cons.mpr ⟨pML_ok_52, List.forall_mem_cons.mpr ⟨pML_ok_53, List.forall_mem_cons.mpr ⟨pML_ok_54, List.forall_mem_cons.mpr ⟨pML_ok_55, List.forall_mem_cons.mpr ⟨pML_ok_56, List.forall_mem_cons.mpr ⟨pML_ok_57, List.forall_mem_cons.mpr ⟨pML_ok_58, List.forall_mem_cons.mpr ⟨pML_ok_59, List.forall_mem_cons.mpr ⟨pML_ok_60, List.forall_mem_cons.mpr ⟨pML_ok_61, List.forall_mem_cons.mpr ⟨pML_ok_62, List.forall_mem_cons.mpr ⟨pML_ok_63, List.forall_mem_cons.mpr ⟨pML_ok_64, List.forall_mem_cons.mpr ⟨pML_ok_65, List.forall_mem_cons.mpr ⟨pML_ok_66, List.forall_mem_cons.mpr ⟨pML_ok_67, List.forall_mem_cons.mpr ⟨pML_ok_68, List.forall_mem_cons.mpr ⟨pML_ok_69, List.forall_mem_cons.mpr ⟨pML_ok_70, List.forall_mem_cons.mpr ⟨pML_ok_71, List.forall_mem_cons.mpr ⟨pML_ok_72, List.forall_mem_cons.mpr ⟨pML_ok_73, List.forall_mem_cons.mpr ⟨pML_ok_74, List.forall_mem_cons.mpr ⟨pML_ok_75, List.forall_mem_cons.mpr ⟨pML_ok_76, List.forall_mem_cons.mpr ⟨pML_ok_77, List.forall_mem_cons.mpr ⟨pML_ok_78, List.forall_mem_cons.mpr ⟨pML_ok_79, List.forall_mem_cons.mpr ⟨pML_ok_80, List.forall_mem_cons.mpr ⟨pML_ok_81, List.forall_mem_cons.mpr ⟨pML_ok_82, List.forall_mem_cons.mpr ⟨pML_ok_83, List.forall_mem_cons.mpr ⟨pML_ok_84, List.forall_mem_cons.mpr ⟨pML_ok_85, List.forall_mem_cons.mpr ⟨pML_ok_86, List.forall_mem_cons.mpr ⟨pML_ok_87, List.forall_mem_cons.mpr ⟨pML_ok_88, List.forall_mem_cons.mpr ⟨pML_ok_89, List.forall_mem_cons.mpr ⟨pML_ok_90, List.forall_mem_cons.mpr ⟨pML_ok_91, List.forall_mem_cons.mpr ⟨pML_ok_92, List.forall_mem_cons.mpr ⟨pML_ok_93, List.forall_mem_cons.mpr ⟨pML_ok_94, List.forall_mem_cons.mpr ⟨pML_ok_95, List.forall_mem_cons.mpr ⟨pML_ok_96, List.forall_mem_cons.mpr ⟨pML_ok_97, List.forall_mem_cons.mpr ⟨pML_ok_98, List.forall_mem_cons.mpr ⟨pML_ok_99, List.forall_mem_cons.mpr ⟨pML_ok_100, List.forall_mem_cons.mpr ⟨pML_ok_101, List.forall_mem_cons.mpr ⟨pML_ok_102, List.forall_mem_cons.mpr ⟨pML_ok_103, List.forall_mem_cons.mpr ⟨pML_ok_104, List.forall_mem_cons.mpr ⟨pML_ok_105, List.forall_mem_cons.mpr ⟨pML_ok_106, List.forall_mem_cons.mpr ⟨pML_ok_107, List.forall_mem_cons.mpr ⟨pML_ok_108, List.forall_mem_cons.mpr ⟨pML_ok_109, List.forall_mem_cons.mpr ⟨pML_ok_110, List.forall_mem_cons.mpr ⟨pML_ok_111, List.forall_mem_cons.mpr ⟨pML_ok_112, List.forall_mem_cons.mpr ⟨pML_ok_113, List.forall_mem_cons.mpr ⟨pML_ok_114, List.forall_mem_cons.mpr ⟨pML_ok_115, List.forall_mem_cons.mpr ⟨pML_ok_116, List.forall_mem_cons.mpr ⟨pML_ok_117, List.forall_mem_cons.mpr ⟨pML_ok_118, List.forall_mem_cons.mpr ⟨pML_ok_119, List.forall_mem_cons.mpr ⟨pML_ok_120, List.forall_mem_cons.mpr ⟨pML_ok_121, List.forall_mem_cons.mpr ⟨pML_ok_122, List.forall_mem_cons.mpr ⟨pML_ok_123, List.forall_mem_cons.mpr ⟨pML_ok_124, List.forall_mem_cons.mpr ⟨pML_ok_125, List.forall_mem_cons.mpr ⟨pML_ok_126, List.forall_mem_cons.mpr ⟨pML_ok_127, List.forall_mem_cons.mpr ⟨pML_ok_128, List.forall_mem_cons.mpr ⟨pML_ok_129, List.forall_mem_cons.mpr ⟨pML_ok_130, List.forall_mem_cons.mpr ⟨pML_ok_131, List.forall_mem_cons.mpr ⟨pML_ok_132, List.forall_mem_cons.mpr ⟨pML_ok_133, List.forall_mem_cons.mpr ⟨pML_ok_134, List.forall_mem_cons.mpr ⟨pML_ok_135, List.forall_mem_cons.mpr ⟨pML_ok_136, List.forall_mem_cons.mpr ⟨pML_ok_137, List.forall_mem_cons.mpr ⟨pML_ok_138, List.forall_mem_cons.mpr ⟨pML_ok_139, List.forall_mem_cons.mpr ⟨pML_ok_140, List.forall_mem_cons.mpr ⟨pML_ok_141, List.forall_mem_cons.mpr ⟨pML_ok_142, List.forall_mem_cons.mpr ⟨pML_ok_143, List.forall_mem_cons.mpr ⟨pML_ok_144, List.forall_mem_cons.mpr ⟨pML_ok_145, List.forall_mem_cons.mpr ⟨pML_ok_146, List.forall_mem_cons.mpr ⟨pML_ok_147, List.forall_mem_cons.mpr ⟨pML_ok_148, List.forall_mem_cons.mpr ⟨pML_ok_149, List.forall_mem_cons.mpr ⟨pML_ok_150, List.forall_mem_cons.mpr ⟨pML_ok_151, List.forall_mem_cons.mpr ⟨pML_ok_152, List.forall_mem_cons.mpr ⟨pML_ok_153, List.forall_mem_cons.mpr ⟨pML_ok_154, List.forall_mem_cons.mpr ⟨pML_ok_155, List.forall_mem_cons.mpr ⟨pML_ok_156, List.forall_mem_cons.mpr ⟨pML_ok_157, List.forall_mem_cons.mpr ⟨pML_ok_158, List.forall_mem_cons.mpr ⟨pML_ok_159, List.forall_mem_cons.mpr ⟨pML_ok_160, List.forall_mem_cons.mpr ⟨pML_ok_161, List.forall_mem_cons.mpr ⟨pML_ok_162, List.forall_mem_cons.mpr ⟨pML_ok_163, List.forall_mem_cons.mpr ⟨pML_ok_164, List.forall_mem_cons.mpr ⟨pML_ok_165, List.forall_mem_cons.mpr ⟨pML_ok_166, List.forall_mem_cons.mpr ⟨pML_ok_167, List.forall_mem_cons.mpr ⟨pML_ok_168, List.forall_mem_cons.mpr ⟨pML_ok_169, List.forall_mem_cons.mpr ⟨pML_ok_170, List.forall_mem_cons.mpr ⟨pML_ok_171, List.forall_mem_cons.mpr ⟨pML_ok_172, List.forall_mem_cons.mpr ⟨pML_ok_173, List.forall_mem_cons.mpr ⟨pML_ok_174, List.forall_mem_cons.mpr ⟨pML_ok_175, List.forall_mem_cons.mpr ⟨pML_ok_176, List.forall_mem_cons.mpr ⟨pML_ok_177, List.forall_mem_cons.mpr ⟨pML_ok_178, List.forall_mem_cons.mpr ⟨pML_ok_179, List.forall_mem_cons.mpr ⟨pML_ok_180, List.forall_mem_cons.mpr ⟨pML_ok_181, List.forall_mem_cons.mpr ⟨pML_ok_182, List.forall_mem_cons.mpr ⟨pML_ok_183, List.forall_mem_cons.mpr ⟨pML_ok_184, List.forall_mem_cons.mpr ⟨pML_ok_185, List.forall_mem_cons.mpr ⟨pML_ok_186, List.forall_mem_cons.mpr ⟨pML_ok_187, List.forall_mem_cons.mpr ⟨pML_ok_188, List.forall_mem_cons.mpr ⟨pML_ok_189, List.forall_mem_cons.mpr ⟨pML_ok_190, List.forall_mem_cons.mpr ⟨pML_ok_191, List.forall_mem_cons.mpr ⟨pML_ok_192, List.forall_mem_cons.mpr ⟨pML_ok_193, List.forall_mem_cons.mpr ⟨pML_ok_194, List.forall_mem_cons.mpr ⟨pML_ok_195, List.forall_mem_cons.mpr ⟨pML_ok_196, List.forall_mem_cons.mpr ⟨pML_ok_197, List.forall_mem_cons.mpr ⟨pML_ok_198, List.forall_mem_cons.mpr ⟨pML_ok_199, List.forall_mem_cons.mpr ⟨pML_ok_200, List.forall_mem_cons.mpr ⟨pML_ok_201, List.forall_mem_cons.mpr ⟨pML_ok_202, List.forall_mem_cons.mpr ⟨pML_ok_203, List.forall_mem_cons.mpr ⟨pML_ok_204, List.forall_mem_cons.mpr ⟨pML_ok_205, List.forall_mem_cons.mpr ⟨pML_ok_206, List.forall_mem_cons.mpr ⟨pML_ok_207, List.forall_mem_cons.mpr ⟨pML_ok_208, List.forall_mem_cons.mpr ⟨pML_ok_209, List.forall_mem_cons.mpr ⟨pML_ok_210, List.forall_mem_cons.mpr ⟨pML_ok_211, List.forall_mem_cons.mpr ⟨pML_ok_212, List.forall_mem_cons.mpr ⟨pML_ok_213, List.forall_mem_cons.mpr ⟨pML_ok_214, List.forall_mem_cons.mpr ⟨pML_ok_215, List.forall_mem_cons.mpr ⟨pML_ok_216, List.forall_mem_cons.mpr ⟨pML_ok_217, List.forall_mem_cons.mpr ⟨pML_ok_218, List.forall_mem_cons.mpr ⟨pML_ok_219, List.forall_mem_cons.mpr ⟨pML_ok_220, List.forall_mem_cons.mpr ⟨pML_ok_221, List.forall_mem_cons.mpr ⟨pML_ok_222, List.forall_mem_cons.mpr ⟨pML_ok_223, List.forall_mem_cons.mpr ⟨pML_ok_224, List.forall_mem_cons.mpr ⟨pML_ok_225, List.forall_mem_cons.mpr ⟨pML_ok_226, fun _ h => absurd h List.not_mem_nil⟩⟩⟩⟩⟩⟩⟩⟩⟩⟩⟩⟩⟩⟩⟩⟩⟩⟩⟩⟩⟩⟩⟩⟩⟩⟩⟩⟩⟩⟩⟩⟩⟩⟩⟩⟩⟩⟩⟩⟩⟩⟩⟩⟩⟩⟩⟩⟩⟩⟩⟩⟩⟩⟩⟩⟩⟩⟩⟩⟩⟩⟩⟩⟩⟩⟩⟩⟩⟩⟩⟩⟩⟩⟩⟩⟩⟩⟩⟩⟩⟩⟩⟩⟩⟩⟩⟩⟩⟩⟩⟩⟩⟩⟩⟩⟩⟩⟩⟩⟩⟩⟩⟩⟩⟩⟩⟩⟩⟩⟩⟩⟩⟩⟩⟩⟩⟩⟩⟩⟩⟩⟩⟩⟩⟩⟩⟩⟩⟩⟩⟩⟩⟩⟩⟩⟩⟩⟩⟩⟩⟩⟩⟩⟩⟩⟩⟩⟩⟩⟩⟩⟩⟩⟩⟩⟩⟩⟩⟩⟩⟩⟩⟩⟩⟩⟩⟩⟩⟩⟩⟩⟩⟩⟩⟩⟩⟩⟩⟩⟩⟩⟩⟩⟩⟩⟩⟩⟩⟩⟩⟩⟩⟩⟩⟩⟩⟩⟩⟩⟩⟩⟩⟩⟩⟩⟩⟩⟩⟩⟩⟩⟩⟩⟩⟩⟩⟩⟩⟩⟩⟩⟩⟩⟩⟩⟩⟩
def pNL (q : Nat × Nat × Nat) : Prop := Cond.methodLinkNest (pNm q.1) q.2.1 (pY q.2.2) "ReorderMind" ∈ lw_tbl
theorem pNL_ok_0 : pNL (1, 11, 0) := List.mem_of_getElem? (i := 208) (by decide +kernel)
theorem pNL_ok_1 : pNL (5, 55, 111) := List.mem_of_getElem? (i := 423) (by decide +kernel)
theorem pNL_ok_2 : pNL (6, 13, 36) := List.mem_of_getElem? (i := 73) (by decide +kernel)
theorem pNL_ok_3 : pNL (6, 26, 0) := List.mem_of_getElem? (i := 178) (by decide +kernel)
theorem pNL_ok_4 : pNL (6, 33, 3) := List.mem_of_getElem? (i := 203) (by decide +kernel)
theorem pNL_ok_5 : pNL (6, 40, 55) := List.mem_of_getElem? (i := 270) (by decide +kernel)
theorem pNL_ok_6 : pNL (6, 51, 51) := List.mem_of_getElem? (i := 289) (by decide +kernel)
set_option maxRecDepth 100000 in
theorem pNL_ok : ∀ q ∈ pLKN, pNL q := List.forall_mem_cons.mpr ⟨pNL_ok_0, List.forall_mem_cons.mpr ⟨pNL_ok_1, List.forall_mem_cons.mpr ⟨pNL_ok_2, List.forall_mem_cons.mpr ⟨pNL_ok_3, List.forall_mem_cons.mpr ⟨pNL_ok_4, List.forall_mem_cons.mpr ⟨pNL_ok_5, List.forall_mem_cons.mpr ⟨pNL_ok_6, fun _ h => absurd h List.not_mem_nil⟩⟩⟩⟩⟩⟩⟩
def pSN (x : Nat) : MethodName := match x with
  | 1000 => Lib.Math.max.name
  | 1001 => Lib.Math.min.name
  | 1002 => Lib.MathLoose.abs_long.x
  | 1003 => arraycopyName
  | _ => objectInit
def pSL (q : Nat × Nat × Nat) : Prop := Cond.methodLink (pNm q.1) q.2.1 (pSN q.2.2) ∈ lw_tbl
theorem pSL_ok_0 : pSL (0, 3, 1004) := List.mem_of_getElem? (i := 181) (by decide +kernel)
theorem pSL_ok_1 : pSL (1, 3, 1004) := List.mem_of_getElem? (i := 206) (by decide +kernel)
theorem pSL_ok_2 : pSL (1, 63, 1003) := List.mem_of_getElem? (i := 477) (by decide +kernel)
theorem pSL_ok_3 : pSL (2, 1, 1004) := List.mem_of_getElem? (i := 82) (by decide +kernel)
theorem pSL_ok_4 : pSL (2, 7, 1000) := List.mem_of_getElem? (i := 83) (by decide +kernel)
theorem pSL_ok_5 : pSL (2, 30, 1003) := List.mem_of_getElem? (i := 401) (by decide +kernel)
theorem pSL_ok_6 : pSL (3, 3, 1004) := List.mem_of_getElem? (i := 76) (by decide +kernel)
theorem pSL_ok_7 : pSL (3, 65, 1003) := List.mem_of_getElem? (i := 394) (by decide +kernel)
theorem pSL_ok_8 : pSL (4, 3, 1004) := List.mem_of_getElem? (i := 292) (by decide +kernel)
theorem pSL_ok_9 : pSL (5, 3, 1004) := List.mem_of_getElem? (i := 273) (by decide +kernel)
theorem pSL_ok_10 : pSL (6, 5, 1004) := List.mem_of_getElem? (i := 68) (by decide +kernel)
theorem pSL_ok_11 : pSL (6, 115, 1003) := List.mem_of_getElem? (i := 440) (by decide +kernel)
theorem pSL_ok_12 : pSL (6, 334, 1002) := List.mem_of_getElem? (i := 535) (by decide +kernel)
theorem pSL_ok_13 : pSL (6, 355, 1001) := List.mem_of_getElem? (i := 758) (by decide +kernel)
theorem pSL_ok_14 : pSL (7, 3, 1004) := List.mem_of_getElem? (i := 822) (by decide +kernel)
set_option maxRecDepth 100000 in
theorem pSL_ok : ∀ q ∈ pLKS, pSL q := List.forall_mem_cons.mpr ⟨pSL_ok_0, List.forall_mem_cons.mpr ⟨pSL_ok_1, List.forall_mem_cons.mpr ⟨pSL_ok_2, List.forall_mem_cons.mpr ⟨pSL_ok_3, List.forall_mem_cons.mpr ⟨pSL_ok_4, List.forall_mem_cons.mpr ⟨pSL_ok_5, List.forall_mem_cons.mpr ⟨pSL_ok_6, List.forall_mem_cons.mpr ⟨pSL_ok_7, List.forall_mem_cons.mpr ⟨pSL_ok_8, List.forall_mem_cons.mpr ⟨pSL_ok_9, List.forall_mem_cons.mpr ⟨pSL_ok_10, List.forall_mem_cons.mpr ⟨pSL_ok_11, List.forall_mem_cons.mpr ⟨pSL_ok_12, List.forall_mem_cons.mpr ⟨pSL_ok_13, List.forall_mem_cons.mpr ⟨pSL_ok_14, fun _ h => absurd h List.not_mem_nil⟩⟩⟩⟩⟩⟩⟩⟩⟩⟩⟩⟩⟩⟩⟩
def pCN (q : Nat × Nat × Nat) : Prop := Cond.constant (pNm q.1) q.2.1 (nI q.2.2) ∈ lw_tbl
theorem pCN_ok_0 : pCN (3, 86, 1103515245) := List.mem_of_getElem? (i := 693) (by decide +kernel)
theorem pCN_ok_1 : pCN (7, 235, 1103515245) := List.mem_of_getElem? (i := 1175) (by decide +kernel)
set_option maxRecDepth 100000 in
theorem pCN_ok : ∀ q ∈ pLKC, pCN q := List.forall_mem_cons.mpr ⟨pCN_ok_0, List.forall_mem_cons.mpr ⟨pCN_ok_1, fun _ h => absurd h List.not_mem_nil⟩⟩
def pCJ (q : Nat × Nat × Nat × Nat) : Prop := Cond.constantLong (pNm q.1) q.2.1 (pCL q.2.2.1 q.2.2.2) ∈ lw_tbl
theorem pCJ_ok_0 : pCJ (1, 85, 0, 10) := List.mem_of_getElem? (i := 486) (by decide +kernel)
theorem pCJ_ok_1 : pCJ (6, 154, 1, 9223372036854775808) := List.mem_of_getElem? (i := 527) (by decide +kernel)
theorem pCJ_ok_2 : pCJ (7, 75, 0, 2) := List.mem_of_getElem? (i := 903) (by decide +kernel)
theorem pCJ_ok_3 : pCJ (7, 77, 0, 3) := List.mem_of_getElem? (i := 907) (by decide +kernel)
theorem pCJ_ok_4 : pCJ (7, 79, 0, 6) := List.mem_of_getElem? (i := 912) (by decide +kernel)
theorem pCJ_ok_5 : pCJ (7, 85, 0, 5) := List.mem_of_getElem? (i := 921) (by decide +kernel)
theorem pCJ_ok_6 : pCJ (7, 95, 0, 15) := List.mem_of_getElem? (i := 950) (by decide +kernel)
theorem pCJ_ok_7 : pCJ (7, 97, 0, 127) := List.mem_of_getElem? (i := 955) (by decide +kernel)
theorem pCJ_ok_8 : pCJ (7, 113, 0, 48) := List.mem_of_getElem? (i := 976) (by decide +kernel)
theorem pCJ_ok_9 : pCJ (7, 148, 1, 9223372036854775808) := List.mem_of_getElem? (i := 998) (by decide +kernel)
theorem pCJ_ok_10 : pCJ (7, 158, 0, 10) := List.mem_of_getElem? (i := 1037) (by decide +kernel)
theorem pCJ_ok_11 : pCJ (7, 179, 1, 1) := List.mem_of_getElem? (i := 1019) (by decide +kernel)
theorem pCJ_ok_12 : pCJ (7, 181, 0, 4) := List.mem_of_getElem? (i := 1020) (by decide +kernel)
theorem pCJ_ok_13 : pCJ (7, 239, 0, 30) := List.mem_of_getElem? (i := 1166) (by decide +kernel)
theorem pCJ_ok_14 : pCJ (7, 246, 1, 2147483648) := List.mem_of_getElem? (i := 1176) (by decide +kernel)
theorem pCJ_ok_15 : pCJ (7, 252, 0, 2147483647) := List.mem_of_getElem? (i := 1188) (by decide +kernel)
theorem pCJ_ok_16 : pCJ (7, 258, 0, 99) := List.mem_of_getElem? (i := 1209) (by decide +kernel)
theorem pCJ_ok_17 : pCJ (8, 139, 0, 4294967295) := List.mem_of_getElem? (i := 1260) (by decide +kernel)
set_option maxRecDepth 100000 in
theorem pCJ_ok : ∀ q ∈ pLKL, pCJ q := List.forall_mem_cons.mpr ⟨pCJ_ok_0, List.forall_mem_cons.mpr ⟨pCJ_ok_1, List.forall_mem_cons.mpr ⟨pCJ_ok_2, List.forall_mem_cons.mpr ⟨pCJ_ok_3, List.forall_mem_cons.mpr ⟨pCJ_ok_4, List.forall_mem_cons.mpr ⟨pCJ_ok_5, List.forall_mem_cons.mpr ⟨pCJ_ok_6, List.forall_mem_cons.mpr ⟨pCJ_ok_7, List.forall_mem_cons.mpr ⟨pCJ_ok_8, List.forall_mem_cons.mpr ⟨pCJ_ok_9, List.forall_mem_cons.mpr ⟨pCJ_ok_10, List.forall_mem_cons.mpr ⟨pCJ_ok_11, List.forall_mem_cons.mpr ⟨pCJ_ok_12, List.forall_mem_cons.mpr ⟨pCJ_ok_13, List.forall_mem_cons.mpr ⟨pCJ_ok_14, List.forall_mem_cons.mpr ⟨pCJ_ok_15, List.forall_mem_cons.mpr ⟨pCJ_ok_16, List.forall_mem_cons.mpr ⟨pCJ_ok_17, fun _ h => absurd h List.not_mem_nil⟩⟩⟩⟩⟩⟩⟩⟩⟩⟩⟩⟩⟩⟩⟩⟩⟩⟩
def pKL (q : Nat × Nat × Nat) : Prop := Cond.classLink (pNm q.1) q.2.1 (pNm q.2.2) ∈ lw_tbl
theorem pKL_ok_0 : pKL (1, 9, 0) := List.mem_of_getElem? (i := 207) (by decide +kernel)
theorem pKL_ok_1 : pKL (3, 41, 2) := List.mem_of_getElem? (i := 77) (by decide +kernel)
theorem pKL_ok_2 : pKL (6, 11, 3) := List.mem_of_getElem? (i := 71) (by decide +kernel)
theorem pKL_ok_3 : pKL (6, 24, 0) := List.mem_of_getElem? (i := 176) (by decide +kernel)
theorem pKL_ok_4 : pKL (6, 31, 1) := List.mem_of_getElem? (i := 201) (by decide +kernel)
theorem pKL_ok_5 : pKL (6, 38, 5) := List.mem_of_getElem? (i := 268) (by decide +kernel)
theorem pKL_ok_6 : pKL (6, 45, 4) := List.mem_of_getElem? (i := 286) (by decide +kernel)
theorem pKL_ok_7 : pKL (8, 7, 6) := List.mem_of_getElem? (i := 63) (by decide +kernel)
theorem pKL_ok_8 : pKL (8, 10, 7) := List.mem_of_getElem? (i := 817) (by decide +kernel)
set_option maxRecDepth 100000 in
theorem pKL_ok : ∀ q ∈ pLKK, pKL q := List.forall_mem_cons.mpr ⟨pKL_ok_0, List.forall_mem_cons.mpr ⟨pKL_ok_1, List.forall_mem_cons.mpr ⟨pKL_ok_2, List.forall_mem_cons.mpr ⟨pKL_ok_3, List.forall_mem_cons.mpr ⟨pKL_ok_4, List.forall_mem_cons.mpr ⟨pKL_ok_5, List.forall_mem_cons.mpr ⟨pKL_ok_6, List.forall_mem_cons.mpr ⟨pKL_ok_7, List.forall_mem_cons.mpr ⟨pKL_ok_8, fun _ h => absurd h List.not_mem_nil⟩⟩⟩⟩⟩⟩⟩⟩⟩
theorem pUV_0 : ∀ w ∈ u_ws RX0 TX0 4, w ∈ lw_tbl := by decide +kernel
theorem pUG_0 : ∀ w ∈ u_ws RX0 TX0 4, goodWord w = true := by decide +kernel
theorem pUW_0 : ∀ w ∈ u_ws RX0 TX0 4, w ∈ pWL := fun w h => pW_in (pUV_0 w h) (pUG_0 w h)
theorem pUV_1 : ∀ w ∈ u_ws RX1 TX1 16, w ∈ lw_tbl := by decide +kernel
theorem pUG_1 : ∀ w ∈ u_ws RX1 TX1 16, goodWord w = true := by decide +kernel
theorem pUW_1 : ∀ w ∈ u_ws RX1 TX1 16, w ∈ pWL := fun w h => pW_in (pUV_1 w h) (pUG_1 w h)
theorem pUV_2 : ∀ w ∈ u_ws RX2 TX2 3, w ∈ lw_tbl := by decide +kernel
theorem pUG_2 : ∀ w ∈ u_ws RX2 TX2 3, goodWord w = true := by decide +kernel
theorem pUW_2 : ∀ w ∈ u_ws RX2 TX2 3, w ∈ pWL := fun w h => pW_in (pUV_2 w h) (pUG_2 w h)
theorem pUV_3 : ∀ w ∈ u_ws RX3 TX3 15, w ∈ lw_tbl := by decide +kernel
theorem pUG_3 : ∀ w ∈ u_ws RX3 TX3 15, goodWord w = true := by decide +kernel
theorem pUW_3 : ∀ w ∈ u_ws RX3 TX3 15, w ∈ pWL := fun w h => pW_in (pUV_3 w h) (pUG_3 w h)
theorem pUV_4 : ∀ w ∈ u_ws RX4 TX4 3, w ∈ lw_tbl := by decide +kernel
theorem pUG_4 : ∀ w ∈ u_ws RX4 TX4 3, goodWord w = true := by decide +kernel
theorem pUW_4 : ∀ w ∈ u_ws RX4 TX4 3, w ∈ pWL := fun w h => pW_in (pUV_4 w h) (pUG_4 w h)
theorem pUV_5 : ∀ w ∈ u_ws RX5 TX5 3, w ∈ lw_tbl := by decide +kernel
theorem pUG_5 : ∀ w ∈ u_ws RX5 TX5 3, goodWord w = true := by decide +kernel
theorem pUW_5 : ∀ w ∈ u_ws RX5 TX5 3, w ∈ pWL := fun w h => pW_in (pUV_5 w h) (pUG_5 w h)
theorem pUV_6 : ∀ w ∈ u_ws RX6 TX6 8, w ∈ lw_tbl := by decide +kernel
theorem pUG_6 : ∀ w ∈ u_ws RX6 TX6 8, goodWord w = true := by decide +kernel
theorem pUW_6 : ∀ w ∈ u_ws RX6 TX6 8, w ∈ pWL := fun w h => pW_in (pUV_6 w h) (pUG_6 w h)
theorem pUV_7 : ∀ w ∈ u_ws RX7 TX7 25, w ∈ lw_tbl := by decide +kernel
theorem pUG_7 : ∀ w ∈ u_ws RX7 TX7 25, goodWord w = true := by decide +kernel
theorem pUW_7 : ∀ w ∈ u_ws RX7 TX7 25, w ∈ pWL := fun w h => pW_in (pUV_7 w h) (pUG_7 w h)
theorem pUW (c : Nat) (h : c < 8) : ∀ w ∈ u_ws (pNm c) (pT c) (pN c), w ∈ pWL := by
  match c, h with
  | 0, _ => exact pUW_0
  | 1, _ => exact pUW_1
  | 2, _ => exact pUW_2
  | 3, _ => exact pUW_3
  | 4, _ => exact pUW_4
  | 5, _ => exact pUW_5
  | 6, _ => exact pUW_6
  | 7, _ => exact pUW_7
theorem pClA (c : Nat) (h : c < 8) : vwCl[c]? = some (pNm c, pT c, pN c) := by
  match c, h with
  | 0, _ => exact rfl
  | 1, _ => exact rfl
  | 2, _ => exact rfl
  | 3, _ => exact rfl
  | 4, _ => exact rfl
  | 5, _ => exact rfl
  | 6, _ => exact rfl
  | 7, _ => exact rfl
theorem pTyA (c : Nat) (h : c < 8) : ∀ k, k < pN c → parseFieldDescriptor (pT c k).2.2.1 = some (pTy c k) := by
  match c, h with
  | 0, _ => exact tyX0_ok
  | 1, _ => exact tyX1_ok
  | 2, _ => exact tyX2_ok
  | 3, _ => exact tyX3_ok
  | 4, _ => exact tyX4_ok
  | 5, _ => exact tyX5_ok
  | 6, _ => exact tyX6_ok
  | 7, _ => exact tyX7_ok
theorem pNmA (c : Nat) (h : c < 8) : ∀ a, a < pN c → ∀ b, b < pN c → a ≠ b → (pT c a).2.1 ≠ (pT c b).2.1 := by
  match c, h with
  | 0, _ => exact nmX0
  | 1, _ => exact nmX1
  | 2, _ => exact nmX2
  | 3, _ => exact nmX3
  | 4, _ => exact nmX4
  | 5, _ => exact nmX5
  | 6, _ => exact nmX6
  | 7, _ => exact nmX7
theorem pOwA (c : Nat) (h : c < 8) : ∀ k, k < pN c → (pT c k).1 = pNm c := by
  match c, h with
  | 0, _ => exact (by decide +kernel)
  | 1, _ => exact (by decide +kernel)
  | 2, _ => exact (by decide +kernel)
  | 3, _ => exact (by decide +kernel)
  | 4, _ => exact (by decide +kernel)
  | 5, _ => exact (by decide +kernel)
  | 6, _ => exact (by decide +kernel)
  | 7, _ => exact (by decide +kernel)
theorem pIsA (c : Nat) (h : c < 8) : Cond.instantiable (pNm c) (pN c) ∈ lw_tbl ∧ Cond.initialized (pNm c) ∈ lw_tbl := by
  match c, h with
  | 0, _ => exact ⟨List.mem_of_getElem? (i := 177) (by decide +kernel), List.mem_of_getElem? (i := 57) (by decide +kernel)⟩
  | 1, _ => exact ⟨List.mem_of_getElem? (i := 202) (by decide +kernel), List.mem_of_getElem? (i := 58) (by decide +kernel)⟩
  | 2, _ => exact ⟨List.mem_of_getElem? (i := 78) (by decide +kernel), List.mem_of_getElem? (i := 55) (by decide +kernel)⟩
  | 3, _ => exact ⟨List.mem_of_getElem? (i := 72) (by decide +kernel), List.mem_of_getElem? (i := 54) (by decide +kernel)⟩
  | 4, _ => exact ⟨List.mem_of_getElem? (i := 288) (by decide +kernel), List.mem_of_getElem? (i := 60) (by decide +kernel)⟩
  | 5, _ => exact ⟨List.mem_of_getElem? (i := 269) (by decide +kernel), List.mem_of_getElem? (i := 59) (by decide +kernel)⟩
  | 6, _ => exact ⟨List.mem_of_getElem? (i := 64) (by decide +kernel), List.mem_of_getElem? (i := 53) (by decide +kernel)⟩
  | 7, _ => exact ⟨List.mem_of_getElem? (i := 818) (by decide +kernel), List.mem_of_getElem? (i := 61) (by decide +kernel)⟩
theorem pDfA (c : Nat) (h : c < 8) : ∀ k, k < pN c → defaultValue (pTy c k) = (match pTy c k with | .long => .long 0 | .object _ => .null | .array _ => .null | _ => .int 0) := by
  match c, h with
  | 0, _ => exact (by decide +kernel)
  | 1, _ => exact (by decide +kernel)
  | 2, _ => exact (by decide +kernel)
  | 3, _ => exact (by decide +kernel)
  | 4, _ => exact (by decide +kernel)
  | 5, _ => exact (by decide +kernel)
  | 6, _ => exact (by decide +kernel)
  | 7, _ => exact (by decide +kernel)
theorem pAO : Cond.arrayOver (.object (pNm 4)) ∈ lw_tbl := List.mem_of_getElem? (i := 287) (by decide +kernel)
theorem pAC_int : Cond.arrayClass .int ∈ lw_tbl := List.mem_of_getElem? (i := 99) (by decide +kernel)
theorem pAC_long : Cond.arrayClass .long ∈ lw_tbl := List.mem_of_getElem? (i := 267) (by decide +kernel)
theorem pAC_byte : Cond.arrayClass .byte ∈ lw_tbl := List.mem_of_getElem? (i := 285) (by decide +kernel)
theorem pAC_boolean : Cond.arrayClass .boolean ∈ lw_tbl := List.mem_of_getElem? (i := 100) (by decide +kernel)
theorem pSP_1 : Cond.static Lib.Math.max.name ∈ lw_tbl ∧ Cond.static Lib.Math.min.name ∈ lw_tbl ∧ Cond.static Lib.MathLoose.abs_long.x ∈ lw_tbl ∧ Cond.static arraycopyName ∈ lw_tbl ∧ Cond.native arraycopyName ∈ lw_tbl := ⟨List.mem_of_getElem? (i := 84) (by decide +kernel), List.mem_of_getElem? (i := 759) (by decide +kernel), List.mem_of_getElem? (i := 536) (by decide +kernel), List.mem_of_getElem? (i := 395) (by decide +kernel), List.mem_of_getElem? (i := 396) (by decide +kernel)⟩
theorem pSP_2 : Cond.initialized "java/lang/Math" ∈ lw_tbl ∧ Cond.initialized "java/lang/System" ∈ lw_tbl := ⟨List.mem_of_getElem? (i := 56) (by decide +kernel), List.mem_of_getElem? (i := 62) (by decide +kernel)⟩
theorem pSP_3 : Cond.code Lib.Math.max.name Lib.Math.max.code 2 (some .int) ∈ lw_tbl ∧ Cond.code Lib.Math.min.name Lib.Math.min.code 2 (some .int) ∈ lw_tbl ∧ Cond.code Lib.MathLoose.abs_long.x Lib.MathLoose.abs_long.code 2 (some .long) ∈ lw_tbl := ⟨List.mem_of_getElem? (i := 85) (by decide +kernel), List.mem_of_getElem? (i := 760) (by decide +kernel), List.mem_of_getElem? (i := 537) (by decide +kernel)⟩
theorem pSP_4 : Cond.instanceMethod objectInit ∈ lw_tbl ∧ Cond.code objectInit ⟨#[0xb1]⟩ 1 none ∈ lw_tbl := ⟨List.mem_of_getElem? (i := 69) (by decide +kernel), List.mem_of_getElem? (i := 70) (by decide +kernel)⟩
def pMF (k : Nat) : Prop := Cond.code (pY k) (pB k) (pL k) (pRt k) ∈ lw_tbl ∧ Cond.initialized (pY k).cls ∈ lw_tbl ∧ (match pKd k with
  | 0 => Cond.static (pY k) ∈ lw_tbl
  | 1 => Cond.instanceMethod (pY k) ∈ lw_tbl ∧ Cond.selects (pY k).cls (pY k) (pY k) ∈ lw_tbl
  | _ => Cond.instanceMethod (pY k) ∈ lw_tbl ∧ (pY k).name = "<init>" ∧ pRt k = none)
theorem pMF_0 : pMF 0 := ⟨List.mem_of_getElem? (i := 180) (by decide +kernel), List.mem_of_getElem? (i := 57) (by decide +kernel), ⟨List.mem_of_getElem? (i := 179) (by decide +kernel), by decide +kernel, rfl⟩⟩
theorem pMF_1 : pMF 1 := ⟨List.mem_of_getElem? (i := 495) (by decide +kernel), List.mem_of_getElem? (i := 57) (by decide +kernel), ⟨List.mem_of_getElem? (i := 493) (by decide +kernel), List.mem_of_getElem? (i := 494) (by decide +kernel)⟩⟩
theorem pMF_2 : pMF 2 := ⟨List.mem_of_getElem? (i := 687) (by decide +kernel), List.mem_of_getElem? (i := 57) (by decide +kernel), ⟨List.mem_of_getElem? (i := 685) (by decide +kernel), List.mem_of_getElem? (i := 686) (by decide +kernel)⟩⟩
theorem pMF_3 : pMF 3 := ⟨List.mem_of_getElem? (i := 205) (by decide +kernel), List.mem_of_getElem? (i := 58) (by decide +kernel), ⟨List.mem_of_getElem? (i := 204) (by decide +kernel), by decide +kernel, rfl⟩⟩
theorem pMF_4 : pMF 4 := ⟨List.mem_of_getElem? (i := 476) (by decide +kernel), List.mem_of_getElem? (i := 58) (by decide +kernel), ⟨List.mem_of_getElem? (i := 474) (by decide +kernel), List.mem_of_getElem? (i := 475) (by decide +kernel)⟩⟩
theorem pMF_5 : pMF 5 := ⟨List.mem_of_getElem? (i := 517) (by decide +kernel), List.mem_of_getElem? (i := 58) (by decide +kernel), ⟨List.mem_of_getElem? (i := 515) (by decide +kernel), List.mem_of_getElem? (i := 516) (by decide +kernel)⟩⟩
theorem pMF_6 : pMF 6 := ⟨List.mem_of_getElem? (i := 509) (by decide +kernel), List.mem_of_getElem? (i := 58) (by decide +kernel), List.mem_of_getElem? (i := 508) (by decide +kernel)⟩
theorem pMF_7 : pMF 7 := ⟨List.mem_of_getElem? (i := 531) (by decide +kernel), List.mem_of_getElem? (i := 58) (by decide +kernel), ⟨List.mem_of_getElem? (i := 529) (by decide +kernel), List.mem_of_getElem? (i := 530) (by decide +kernel)⟩⟩
theorem pMF_8 : pMF 8 := ⟨List.mem_of_getElem? (i := 500) (by decide +kernel), List.mem_of_getElem? (i := 58) (by decide +kernel), ⟨List.mem_of_getElem? (i := 498) (by decide +kernel), List.mem_of_getElem? (i := 499) (by decide +kernel)⟩⟩
theorem pMF_9 : pMF 9 := ⟨List.mem_of_getElem? (i := 485) (by decide +kernel), List.mem_of_getElem? (i := 58) (by decide +kernel), ⟨List.mem_of_getElem? (i := 483) (by decide +kernel), List.mem_of_getElem? (i := 484) (by decide +kernel)⟩⟩
theorem pMF_10 : pMF 10 := ⟨List.mem_of_getElem? (i := 490) (by decide +kernel), List.mem_of_getElem? (i := 58) (by decide +kernel), ⟨List.mem_of_getElem? (i := 489) (by decide +kernel), List.mem_of_getElem? (i := 9) (by decide +kernel)⟩⟩
theorem pMF_11 : pMF 11 := ⟨List.mem_of_getElem? (i := 503) (by decide +kernel), List.mem_of_getElem? (i := 58) (by decide +kernel), List.mem_of_getElem? (i := 502) (by decide +kernel)⟩
theorem pMF_12 : pMF 12 := ⟨List.mem_of_getElem? (i := 506) (by decide +kernel), List.mem_of_getElem? (i := 58) (by decide +kernel), List.mem_of_getElem? (i := 505) (by decide +kernel)⟩
theorem pMF_13 : pMF 13 := ⟨List.mem_of_getElem? (i := 521) (by decide +kernel), List.mem_of_getElem? (i := 58) (by decide +kernel), ⟨List.mem_of_getElem? (i := 519) (by decide +kernel), List.mem_of_getElem? (i := 520) (by decide +kernel)⟩⟩
theorem pMF_14 : pMF 14 := ⟨List.mem_of_getElem? (i := 559) (by decide +kernel), List.mem_of_getElem? (i := 58) (by decide +kernel), ⟨List.mem_of_getElem? (i := 557) (by decide +kernel), List.mem_of_getElem? (i := 558) (by decide +kernel)⟩⟩
theorem pMF_15 : pMF 15 := ⟨List.mem_of_getElem? (i := 654) (by decide +kernel), List.mem_of_getElem? (i := 58) (by decide +kernel), ⟨List.mem_of_getElem? (i := 653) (by decide +kernel), List.mem_of_getElem? (i := 12) (by decide +kernel)⟩⟩
theorem pMF_16 : pMF 16 := ⟨List.mem_of_getElem? (i := 513) (by decide +kernel), List.mem_of_getElem? (i := 58) (by decide +kernel), ⟨List.mem_of_getElem? (i := 511) (by decide +kernel), List.mem_of_getElem? (i := 512) (by decide +kernel)⟩⟩
theorem pMF_17 : pMF 17 := ⟨List.mem_of_getElem? (i := 481) (by decide +kernel), List.mem_of_getElem? (i := 58) (by decide +kernel), ⟨List.mem_of_getElem? (i := 479) (by decide +kernel), List.mem_of_getElem? (i := 480) (by decide +kernel)⟩⟩
theorem pMF_18 : pMF 18 := ⟨List.mem_of_getElem? (i := 472) (by decide +kernel), List.mem_of_getElem? (i := 58) (by decide +kernel), ⟨List.mem_of_getElem? (i := 470) (by decide +kernel), List.mem_of_getElem? (i := 471) (by decide +kernel)⟩⟩
theorem pMF_19 : pMF 19 := ⟨List.mem_of_getElem? (i := 675) (by decide +kernel), List.mem_of_getElem? (i := 58) (by decide +kernel), ⟨List.mem_of_getElem? (i := 673) (by decide +kernel), List.mem_of_getElem? (i := 674) (by decide +kernel)⟩⟩
theorem pMF_20 : pMF 20 := ⟨List.mem_of_getElem? (i := 586) (by decide +kernel), List.mem_of_getElem? (i := 58) (by decide +kernel), ⟨List.mem_of_getElem? (i := 584) (by decide +kernel), List.mem_of_getElem? (i := 585) (by decide +kernel)⟩⟩
theorem pMF_21 : pMF 21 := ⟨List.mem_of_getElem? (i := 595) (by decide +kernel), List.mem_of_getElem? (i := 58) (by decide +kernel), ⟨List.mem_of_getElem? (i := 594) (by decide +kernel), List.mem_of_getElem? (i := 10) (by decide +kernel)⟩⟩
theorem pMF_22 : pMF 22 := ⟨List.mem_of_getElem? (i := 591) (by decide +kernel), List.mem_of_getElem? (i := 58) (by decide +kernel), ⟨List.mem_of_getElem? (i := 589) (by decide +kernel), List.mem_of_getElem? (i := 590) (by decide +kernel)⟩⟩
theorem pMF_23 : pMF 23 := ⟨List.mem_of_getElem? (i := 599) (by decide +kernel), List.mem_of_getElem? (i := 58) (by decide +kernel), ⟨List.mem_of_getElem? (i := 597) (by decide +kernel), List.mem_of_getElem? (i := 598) (by decide +kernel)⟩⟩
theorem pMF_24 : pMF 24 := ⟨List.mem_of_getElem? (i := 607) (by decide +kernel), List.mem_of_getElem? (i := 58) (by decide +kernel), ⟨List.mem_of_getElem? (i := 605) (by decide +kernel), List.mem_of_getElem? (i := 606) (by decide +kernel)⟩⟩
theorem pMF_25 : pMF 25 := ⟨List.mem_of_getElem? (i := 617) (by decide +kernel), List.mem_of_getElem? (i := 58) (by decide +kernel), ⟨List.mem_of_getElem? (i := 615) (by decide +kernel), List.mem_of_getElem? (i := 616) (by decide +kernel)⟩⟩
theorem pMF_26 : pMF 26 := ⟨List.mem_of_getElem? (i := 625) (by decide +kernel), List.mem_of_getElem? (i := 58) (by decide +kernel), ⟨List.mem_of_getElem? (i := 623) (by decide +kernel), List.mem_of_getElem? (i := 624) (by decide +kernel)⟩⟩
theorem pMF_27 : pMF 27 := ⟨List.mem_of_getElem? (i := 634) (by decide +kernel), List.mem_of_getElem? (i := 58) (by decide +kernel), ⟨List.mem_of_getElem? (i := 632) (by decide +kernel), List.mem_of_getElem? (i := 633) (by decide +kernel)⟩⟩
theorem pMF_28 : pMF 28 := ⟨List.mem_of_getElem? (i := 638) (by decide +kernel), List.mem_of_getElem? (i := 58) (by decide +kernel), ⟨List.mem_of_getElem? (i := 637) (by decide +kernel), List.mem_of_getElem? (i := 11) (by decide +kernel)⟩⟩
theorem pMF_29 : pMF 29 := ⟨List.mem_of_getElem? (i := 650) (by decide +kernel), List.mem_of_getElem? (i := 58) (by decide +kernel), ⟨List.mem_of_getElem? (i := 648) (by decide +kernel), List.mem_of_getElem? (i := 649) (by decide +kernel)⟩⟩
theorem pMF_30 : pMF 30 := ⟨List.mem_of_getElem? (i := 81) (by decide +kernel), List.mem_of_getElem? (i := 55) (by decide +kernel), ⟨List.mem_of_getElem? (i := 80) (by decide +kernel), by decide +kernel, rfl⟩⟩
theorem pMF_31 : pMF 31 := ⟨List.mem_of_getElem? (i := 662) (by decide +kernel), List.mem_of_getElem? (i := 55) (by decide +kernel), ⟨List.mem_of_getElem? (i := 660) (by decide +kernel), List.mem_of_getElem? (i := 661) (by decide +kernel)⟩⟩
theorem pMF_32 : pMF 32 := ⟨List.mem_of_getElem? (i := 666) (by decide +kernel), List.mem_of_getElem? (i := 55) (by decide +kernel), ⟨List.mem_of_getElem? (i := 664) (by decide +kernel), List.mem_of_getElem? (i := 665) (by decide +kernel)⟩⟩
theorem pMF_33 : pMF 33 := ⟨List.mem_of_getElem? (i := 703) (by decide +kernel), List.mem_of_getElem? (i := 55) (by decide +kernel), ⟨List.mem_of_getElem? (i := 701) (by decide +kernel), List.mem_of_getElem? (i := 702) (by decide +kernel)⟩⟩
theorem pMF_34 : pMF 34 := ⟨List.mem_of_getElem? (i := 679) (by decide +kernel), List.mem_of_getElem? (i := 55) (by decide +kernel), ⟨List.mem_of_getElem? (i := 677) (by decide +kernel), List.mem_of_getElem? (i := 678) (by decide +kernel)⟩⟩
theorem pMF_35 : pMF 35 := ⟨List.mem_of_getElem? (i := 400) (by decide +kernel), List.mem_of_getElem? (i := 55) (by decide +kernel), ⟨List.mem_of_getElem? (i := 398) (by decide +kernel), List.mem_of_getElem? (i := 399) (by decide +kernel)⟩⟩
theorem pMF_36 : pMF 36 := ⟨List.mem_of_getElem? (i := 75) (by decide +kernel), List.mem_of_getElem? (i := 54) (by decide +kernel), ⟨List.mem_of_getElem? (i := 74) (by decide +kernel), by decide +kernel, rfl⟩⟩
theorem pMF_37 : pMF 37 := ⟨List.mem_of_getElem? (i := 393) (by decide +kernel), List.mem_of_getElem? (i := 54) (by decide +kernel), ⟨List.mem_of_getElem? (i := 391) (by decide +kernel), List.mem_of_getElem? (i := 392) (by decide +kernel)⟩⟩
theorem pMF_38 : pMF 38 := ⟨List.mem_of_getElem? (i := 341) (by decide +kernel), List.mem_of_getElem? (i := 54) (by decide +kernel), ⟨List.mem_of_getElem? (i := 339) (by decide +kernel), List.mem_of_getElem? (i := 340) (by decide +kernel)⟩⟩
theorem pMF_39 : pMF 39 := ⟨List.mem_of_getElem? (i := 373) (by decide +kernel), List.mem_of_getElem? (i := 54) (by decide +kernel), ⟨List.mem_of_getElem? (i := 371) (by decide +kernel), List.mem_of_getElem? (i := 372) (by decide +kernel)⟩⟩
theorem pMF_40 : pMF 40 := ⟨List.mem_of_getElem? (i := 377) (by decide +kernel), List.mem_of_getElem? (i := 54) (by decide +kernel), ⟨List.mem_of_getElem? (i := 375) (by decide +kernel), List.mem_of_getElem? (i := 376) (by decide +kernel)⟩⟩
theorem pMF_41 : pMF 41 := ⟨List.mem_of_getElem? (i := 697) (by decide +kernel), List.mem_of_getElem? (i := 54) (by decide +kernel), ⟨List.mem_of_getElem? (i := 695) (by decide +kernel), List.mem_of_getElem? (i := 696) (by decide +kernel)⟩⟩
theorem pMF_42 : pMF 42 := ⟨List.mem_of_getElem? (i := 739) (by decide +kernel), List.mem_of_getElem? (i := 54) (by decide +kernel), ⟨List.mem_of_getElem? (i := 737) (by decide +kernel), List.mem_of_getElem? (i := 738) (by decide +kernel)⟩⟩
theorem pMF_43 : pMF 43 := ⟨List.mem_of_getElem? (i := 365) (by decide +kernel), List.mem_of_getElem? (i := 54) (by decide +kernel), ⟨List.mem_of_getElem? (i := 363) (by decide +kernel), List.mem_of_getElem? (i := 364) (by decide +kernel)⟩⟩
theorem pMF_44 : pMF 44 := ⟨List.mem_of_getElem? (i := 349) (by decide +kernel), List.mem_of_getElem? (i := 54) (by decide +kernel), ⟨List.mem_of_getElem? (i := 347) (by decide +kernel), List.mem_of_getElem? (i := 348) (by decide +kernel)⟩⟩
theorem pMF_45 : pMF 45 := ⟨List.mem_of_getElem? (i := 353) (by decide +kernel), List.mem_of_getElem? (i := 54) (by decide +kernel), ⟨List.mem_of_getElem? (i := 351) (by decide +kernel), List.mem_of_getElem? (i := 352) (by decide +kernel)⟩⟩
theorem pMF_46 : pMF 46 := ⟨List.mem_of_getElem? (i := 357) (by decide +kernel), List.mem_of_getElem? (i := 54) (by decide +kernel), ⟨List.mem_of_getElem? (i := 355) (by decide +kernel), List.mem_of_getElem? (i := 356) (by decide +kernel)⟩⟩
theorem pMF_47 : pMF 47 := ⟨List.mem_of_getElem? (i := 788) (by decide +kernel), List.mem_of_getElem? (i := 54) (by decide +kernel), ⟨List.mem_of_getElem? (i := 786) (by decide +kernel), List.mem_of_getElem? (i := 787) (by decide +kernel)⟩⟩
theorem pMF_48 : pMF 48 := ⟨List.mem_of_getElem? (i := 452) (by decide +kernel), List.mem_of_getElem? (i := 54) (by decide +kernel), ⟨List.mem_of_getElem? (i := 450) (by decide +kernel), List.mem_of_getElem? (i := 451) (by decide +kernel)⟩⟩
theorem pMF_49 : pMF 49 := ⟨List.mem_of_getElem? (i := 448) (by decide +kernel), List.mem_of_getElem? (i := 54) (by decide +kernel), ⟨List.mem_of_getElem? (i := 446) (by decide +kernel), List.mem_of_getElem? (i := 447) (by decide +kernel)⟩⟩
theorem pMF_50 : pMF 50 := ⟨List.mem_of_getElem? (i := 691) (by decide +kernel), List.mem_of_getElem? (i := 54) (by decide +kernel), ⟨List.mem_of_getElem? (i := 689) (by decide +kernel), List.mem_of_getElem? (i := 690) (by decide +kernel)⟩⟩
theorem pMF_51 : pMF 51 := ⟨List.mem_of_getElem? (i := 291) (by decide +kernel), List.mem_of_getElem? (i := 60) (by decide +kernel), ⟨List.mem_of_getElem? (i := 290) (by decide +kernel), by decide +kernel, rfl⟩⟩
theorem pMF_52 : pMF 52 := ⟨List.mem_of_getElem? (i := 796) (by decide +kernel), List.mem_of_getElem? (i := 60) (by decide +kernel), ⟨List.mem_of_getElem? (i := 794) (by decide +kernel), List.mem_of_getElem? (i := 795) (by decide +kernel)⟩⟩
theorem pMF_53 : pMF 53 := ⟨List.mem_of_getElem? (i := 816) (by decide +kernel), List.mem_of_getElem? (i := 60) (by decide +kernel), ⟨List.mem_of_getElem? (i := 814) (by decide +kernel), List.mem_of_getElem? (i := 815) (by decide +kernel)⟩⟩
theorem pMF_54 : pMF 54 := ⟨List.mem_of_getElem? (i := 804) (by decide +kernel), List.mem_of_getElem? (i := 60) (by decide +kernel), ⟨List.mem_of_getElem? (i := 802) (by decide +kernel), List.mem_of_getElem? (i := 803) (by decide +kernel)⟩⟩
theorem pMF_55 : pMF 55 := ⟨List.mem_of_getElem? (i := 272) (by decide +kernel), List.mem_of_getElem? (i := 59) (by decide +kernel), ⟨List.mem_of_getElem? (i := 271) (by decide +kernel), by decide +kernel, rfl⟩⟩
theorem pMF_56 : pMF 56 := ⟨List.mem_of_getElem? (i := 385) (by decide +kernel), List.mem_of_getElem? (i := 59) (by decide +kernel), ⟨List.mem_of_getElem? (i := 383) (by decide +kernel), List.mem_of_getElem? (i := 384) (by decide +kernel)⟩⟩
theorem pMF_57 : pMF 57 := ⟨List.mem_of_getElem? (i := 405) (by decide +kernel), List.mem_of_getElem? (i := 59) (by decide +kernel), ⟨List.mem_of_getElem? (i := 403) (by decide +kernel), List.mem_of_getElem? (i := 404) (by decide +kernel)⟩⟩
theorem pMF_58 : pMF 58 := ⟨List.mem_of_getElem? (i := 413) (by decide +kernel), List.mem_of_getElem? (i := 59) (by decide +kernel), ⟨List.mem_of_getElem? (i := 412) (by decide +kernel), List.mem_of_getElem? (i := 1) (by decide +kernel)⟩⟩
theorem pMF_59 : pMF 59 := ⟨List.mem_of_getElem? (i := 409) (by decide +kernel), List.mem_of_getElem? (i := 59) (by decide +kernel), ⟨List.mem_of_getElem? (i := 408) (by decide +kernel), List.mem_of_getElem? (i := 0) (by decide +kernel)⟩⟩
theorem pMF_60 : pMF 60 := ⟨List.mem_of_getElem? (i := 421) (by decide +kernel), List.mem_of_getElem? (i := 59) (by decide +kernel), ⟨List.mem_of_getElem? (i := 420) (by decide +kernel), List.mem_of_getElem? (i := 3) (by decide +kernel)⟩⟩
theorem pMF_61 : pMF 61 := ⟨List.mem_of_getElem? (i := 417) (by decide +kernel), List.mem_of_getElem? (i := 59) (by decide +kernel), ⟨List.mem_of_getElem? (i := 416) (by decide +kernel), List.mem_of_getElem? (i := 2) (by decide +kernel)⟩⟩
theorem pMF_62 : pMF 62 := ⟨List.mem_of_getElem? (i := 427) (by decide +kernel), List.mem_of_getElem? (i := 59) (by decide +kernel), ⟨List.mem_of_getElem? (i := 426) (by decide +kernel), List.mem_of_getElem? (i := 4) (by decide +kernel)⟩⟩
theorem pMF_63 : pMF 63 := ⟨List.mem_of_getElem? (i := 431) (by decide +kernel), List.mem_of_getElem? (i := 59) (by decide +kernel), ⟨List.mem_of_getElem? (i := 430) (by decide +kernel), List.mem_of_getElem? (i := 5) (by decide +kernel)⟩⟩
theorem pMF_64 : pMF 64 := ⟨List.mem_of_getElem? (i := 435) (by decide +kernel), List.mem_of_getElem? (i := 59) (by decide +kernel), ⟨List.mem_of_getElem? (i := 434) (by decide +kernel), List.mem_of_getElem? (i := 6) (by decide +kernel)⟩⟩
theorem pMF_65 : pMF 65 := ⟨List.mem_of_getElem? (i := 67) (by decide +kernel), List.mem_of_getElem? (i := 53) (by decide +kernel), ⟨List.mem_of_getElem? (i := 66) (by decide +kernel), by decide +kernel, rfl⟩⟩
theorem pMF_66 : pMF 66 := ⟨List.mem_of_getElem? (i := 334) (by decide +kernel), List.mem_of_getElem? (i := 53) (by decide +kernel), ⟨List.mem_of_getElem? (i := 332) (by decide +kernel), List.mem_of_getElem? (i := 333) (by decide +kernel)⟩⟩
theorem pMF_67 : pMF 67 := ⟨List.mem_of_getElem? (i := 345) (by decide +kernel), List.mem_of_getElem? (i := 53) (by decide +kernel), ⟨List.mem_of_getElem? (i := 343) (by decide +kernel), List.mem_of_getElem? (i := 344) (by decide +kernel)⟩⟩
theorem pMF_68 : pMF 68 := ⟨List.mem_of_getElem? (i := 361) (by decide +kernel), List.mem_of_getElem? (i := 53) (by decide +kernel), ⟨List.mem_of_getElem? (i := 359) (by decide +kernel), List.mem_of_getElem? (i := 360) (by decide +kernel)⟩⟩
theorem pMF_69 : pMF 69 := ⟨List.mem_of_getElem? (i := 369) (by decide +kernel), List.mem_of_getElem? (i := 53) (by decide +kernel), ⟨List.mem_of_getElem? (i := 367) (by decide +kernel), List.mem_of_getElem? (i := 368) (by decide +kernel)⟩⟩
theorem pMF_70 : pMF 70 := ⟨List.mem_of_getElem? (i := 381) (by decide +kernel), List.mem_of_getElem? (i := 53) (by decide +kernel), ⟨List.mem_of_getElem? (i := 379) (by decide +kernel), List.mem_of_getElem? (i := 380) (by decide +kernel)⟩⟩
theorem pMF_71 : pMF 71 := ⟨List.mem_of_getElem? (i := 389) (by decide +kernel), List.mem_of_getElem? (i := 53) (by decide +kernel), ⟨List.mem_of_getElem? (i := 387) (by decide +kernel), List.mem_of_getElem? (i := 388) (by decide +kernel)⟩⟩
theorem pMF_72 : pMF 72 := ⟨List.mem_of_getElem? (i := 439) (by decide +kernel), List.mem_of_getElem? (i := 53) (by decide +kernel), ⟨List.mem_of_getElem? (i := 437) (by decide +kernel), List.mem_of_getElem? (i := 438) (by decide +kernel)⟩⟩
theorem pMF_73 : pMF 73 := ⟨List.mem_of_getElem? (i := 444) (by decide +kernel), List.mem_of_getElem? (i := 53) (by decide +kernel), ⟨List.mem_of_getElem? (i := 442) (by decide +kernel), List.mem_of_getElem? (i := 443) (by decide +kernel)⟩⟩
theorem pMF_74 : pMF 74 := ⟨List.mem_of_getElem? (i := 456) (by decide +kernel), List.mem_of_getElem? (i := 53) (by decide +kernel), ⟨List.mem_of_getElem? (i := 454) (by decide +kernel), List.mem_of_getElem? (i := 455) (by decide +kernel)⟩⟩
theorem pMF_75 : pMF 75 := ⟨List.mem_of_getElem? (i := 460) (by decide +kernel), List.mem_of_getElem? (i := 53) (by decide +kernel), ⟨List.mem_of_getElem? (i := 458) (by decide +kernel), List.mem_of_getElem? (i := 459) (by decide +kernel)⟩⟩
theorem pMF_76 : pMF 76 := ⟨List.mem_of_getElem? (i := 526) (by decide +kernel), List.mem_of_getElem? (i := 53) (by decide +kernel), ⟨List.mem_of_getElem? (i := 524) (by decide +kernel), List.mem_of_getElem? (i := 525) (by decide +kernel)⟩⟩
theorem pMF_77 : pMF 77 := ⟨List.mem_of_getElem? (i := 544) (by decide +kernel), List.mem_of_getElem? (i := 53) (by decide +kernel), ⟨List.mem_of_getElem? (i := 542) (by decide +kernel), List.mem_of_getElem? (i := 543) (by decide +kernel)⟩⟩
theorem pMF_78 : pMF 78 := ⟨List.mem_of_getElem? (i := 549) (by decide +kernel), List.mem_of_getElem? (i := 53) (by decide +kernel), ⟨List.mem_of_getElem? (i := 547) (by decide +kernel), List.mem_of_getElem? (i := 548) (by decide +kernel)⟩⟩
theorem pMF_79 : pMF 79 := ⟨List.mem_of_getElem? (i := 554) (by decide +kernel), List.mem_of_getElem? (i := 53) (by decide +kernel), ⟨List.mem_of_getElem? (i := 552) (by decide +kernel), List.mem_of_getElem? (i := 553) (by decide +kernel)⟩⟩
theorem pMF_80 : pMF 80 := ⟨List.mem_of_getElem? (i := 563) (by decide +kernel), List.mem_of_getElem? (i := 53) (by decide +kernel), ⟨List.mem_of_getElem? (i := 561) (by decide +kernel), List.mem_of_getElem? (i := 562) (by decide +kernel)⟩⟩
theorem pMF_81 : pMF 81 := ⟨List.mem_of_getElem? (i := 568) (by decide +kernel), List.mem_of_getElem? (i := 53) (by decide +kernel), ⟨List.mem_of_getElem? (i := 566) (by decide +kernel), List.mem_of_getElem? (i := 567) (by decide +kernel)⟩⟩
theorem pMF_82 : pMF 82 := ⟨List.mem_of_getElem? (i := 573) (by decide +kernel), List.mem_of_getElem? (i := 53) (by decide +kernel), ⟨List.mem_of_getElem? (i := 571) (by decide +kernel), List.mem_of_getElem? (i := 572) (by decide +kernel)⟩⟩
theorem pMF_83 : pMF 83 := ⟨List.mem_of_getElem? (i := 578) (by decide +kernel), List.mem_of_getElem? (i := 53) (by decide +kernel), ⟨List.mem_of_getElem? (i := 576) (by decide +kernel), List.mem_of_getElem? (i := 577) (by decide +kernel)⟩⟩
theorem pMF_84 : pMF 84 := ⟨List.mem_of_getElem? (i := 582) (by decide +kernel), List.mem_of_getElem? (i := 53) (by decide +kernel), ⟨List.mem_of_getElem? (i := 580) (by decide +kernel), List.mem_of_getElem? (i := 581) (by decide +kernel)⟩⟩
theorem pMF_85 : pMF 85 := ⟨List.mem_of_getElem? (i := 603) (by decide +kernel), List.mem_of_getElem? (i := 53) (by decide +kernel), ⟨List.mem_of_getElem? (i := 601) (by decide +kernel), List.mem_of_getElem? (i := 602) (by decide +kernel)⟩⟩
theorem pMF_86 : pMF 86 := ⟨List.mem_of_getElem? (i := 613) (by decide +kernel), List.mem_of_getElem? (i := 53) (by decide +kernel), ⟨List.mem_of_getElem? (i := 611) (by decide +kernel), List.mem_of_getElem? (i := 612) (by decide +kernel)⟩⟩
theorem pMF_87 : pMF 87 := ⟨List.mem_of_getElem? (i := 621) (by decide +kernel), List.mem_of_getElem? (i := 53) (by decide +kernel), ⟨List.mem_of_getElem? (i := 619) (by decide +kernel), List.mem_of_getElem? (i := 620) (by decide +kernel)⟩⟩
theorem pMF_88 : pMF 88 := ⟨List.mem_of_getElem? (i := 630) (by decide +kernel), List.mem_of_getElem? (i := 53) (by decide +kernel), ⟨List.mem_of_getElem? (i := 628) (by decide +kernel), List.mem_of_getElem? (i := 629) (by decide +kernel)⟩⟩
theorem pMF_89 : pMF 89 := ⟨List.mem_of_getElem? (i := 642) (by decide +kernel), List.mem_of_getElem? (i := 53) (by decide +kernel), ⟨List.mem_of_getElem? (i := 640) (by decide +kernel), List.mem_of_getElem? (i := 641) (by decide +kernel)⟩⟩
theorem pMF_90 : pMF 90 := ⟨List.mem_of_getElem? (i := 646) (by decide +kernel), List.mem_of_getElem? (i := 53) (by decide +kernel), ⟨List.mem_of_getElem? (i := 644) (by decide +kernel), List.mem_of_getElem? (i := 645) (by decide +kernel)⟩⟩
theorem pMF_91 : pMF 91 := ⟨List.mem_of_getElem? (i := 658) (by decide +kernel), List.mem_of_getElem? (i := 53) (by decide +kernel), ⟨List.mem_of_getElem? (i := 656) (by decide +kernel), List.mem_of_getElem? (i := 657) (by decide +kernel)⟩⟩
theorem pMF_92 : pMF 92 := ⟨List.mem_of_getElem? (i := 671) (by decide +kernel), List.mem_of_getElem? (i := 53) (by decide +kernel), ⟨List.mem_of_getElem? (i := 669) (by decide +kernel), List.mem_of_getElem? (i := 670) (by decide +kernel)⟩⟩
theorem pMF_93 : pMF 93 := ⟨List.mem_of_getElem? (i := 683) (by decide +kernel), List.mem_of_getElem? (i := 53) (by decide +kernel), ⟨List.mem_of_getElem? (i := 681) (by decide +kernel), List.mem_of_getElem? (i := 682) (by decide +kernel)⟩⟩
theorem pMF_94 : pMF 94 := ⟨List.mem_of_getElem? (i := 711) (by decide +kernel), List.mem_of_getElem? (i := 53) (by decide +kernel), ⟨List.mem_of_getElem? (i := 709) (by decide +kernel), List.mem_of_getElem? (i := 710) (by decide +kernel)⟩⟩
theorem pMF_95 : pMF 95 := ⟨List.mem_of_getElem? (i := 719) (by decide +kernel), List.mem_of_getElem? (i := 53) (by decide +kernel), ⟨List.mem_of_getElem? (i := 717) (by decide +kernel), List.mem_of_getElem? (i := 718) (by decide +kernel)⟩⟩
theorem pMF_96 : pMF 96 := ⟨List.mem_of_getElem? (i := 723) (by decide +kernel), List.mem_of_getElem? (i := 53) (by decide +kernel), ⟨List.mem_of_getElem? (i := 721) (by decide +kernel), List.mem_of_getElem? (i := 722) (by decide +kernel)⟩⟩
theorem pMF_97 : pMF 97 := ⟨List.mem_of_getElem? (i := 730) (by decide +kernel), List.mem_of_getElem? (i := 53) (by decide +kernel), ⟨List.mem_of_getElem? (i := 728) (by decide +kernel), List.mem_of_getElem? (i := 729) (by decide +kernel)⟩⟩
theorem pMF_98 : pMF 98 := ⟨List.mem_of_getElem? (i := 735) (by decide +kernel), List.mem_of_getElem? (i := 53) (by decide +kernel), ⟨List.mem_of_getElem? (i := 733) (by decide +kernel), List.mem_of_getElem? (i := 734) (by decide +kernel)⟩⟩
theorem pMF_99 : pMF 99 := ⟨List.mem_of_getElem? (i := 743) (by decide +kernel), List.mem_of_getElem? (i := 53) (by decide +kernel), ⟨List.mem_of_getElem? (i := 741) (by decide +kernel), List.mem_of_getElem? (i := 742) (by decide +kernel)⟩⟩
theorem pMF_100 : pMF 100 := ⟨List.mem_of_getElem? (i := 747) (by decide +kernel), List.mem_of_getElem? (i := 53) (by decide +kernel), ⟨List.mem_of_getElem? (i := 745) (by decide +kernel), List.mem_of_getElem? (i := 746) (by decide +kernel)⟩⟩
theorem pMF_101 : pMF 101 := ⟨List.mem_of_getElem? (i := 751) (by decide +kernel), List.mem_of_getElem? (i := 53) (by decide +kernel), ⟨List.mem_of_getElem? (i := 749) (by decide +kernel), List.mem_of_getElem? (i := 750) (by decide +kernel)⟩⟩
theorem pMF_102 : pMF 102 := ⟨List.mem_of_getElem? (i := 764) (by decide +kernel), List.mem_of_getElem? (i := 53) (by decide +kernel), ⟨List.mem_of_getElem? (i := 762) (by decide +kernel), List.mem_of_getElem? (i := 763) (by decide +kernel)⟩⟩
theorem pMF_103 : pMF 103 := ⟨List.mem_of_getElem? (i := 772) (by decide +kernel), List.mem_of_getElem? (i := 53) (by decide +kernel), ⟨List.mem_of_getElem? (i := 770) (by decide +kernel), List.mem_of_getElem? (i := 771) (by decide +kernel)⟩⟩
theorem pMF_104 : pMF 104 := ⟨List.mem_of_getElem? (i := 776) (by decide +kernel), List.mem_of_getElem? (i := 53) (by decide +kernel), ⟨List.mem_of_getElem? (i := 774) (by decide +kernel), List.mem_of_getElem? (i := 775) (by decide +kernel)⟩⟩
theorem pMF_105 : pMF 105 := ⟨List.mem_of_getElem? (i := 780) (by decide +kernel), List.mem_of_getElem? (i := 53) (by decide +kernel), ⟨List.mem_of_getElem? (i := 778) (by decide +kernel), List.mem_of_getElem? (i := 779) (by decide +kernel)⟩⟩
theorem pMF_106 : pMF 106 := ⟨List.mem_of_getElem? (i := 784) (by decide +kernel), List.mem_of_getElem? (i := 53) (by decide +kernel), ⟨List.mem_of_getElem? (i := 782) (by decide +kernel), List.mem_of_getElem? (i := 783) (by decide +kernel)⟩⟩
theorem pMF_107 : pMF 107 := ⟨List.mem_of_getElem? (i := 792) (by decide +kernel), List.mem_of_getElem? (i := 53) (by decide +kernel), ⟨List.mem_of_getElem? (i := 790) (by decide +kernel), List.mem_of_getElem? (i := 791) (by decide +kernel)⟩⟩
theorem pMF_108 : pMF 108 := ⟨List.mem_of_getElem? (i := 800) (by decide +kernel), List.mem_of_getElem? (i := 53) (by decide +kernel), ⟨List.mem_of_getElem? (i := 798) (by decide +kernel), List.mem_of_getElem? (i := 799) (by decide +kernel)⟩⟩
theorem pMF_109 : pMF 109 := ⟨List.mem_of_getElem? (i := 808) (by decide +kernel), List.mem_of_getElem? (i := 53) (by decide +kernel), ⟨List.mem_of_getElem? (i := 806) (by decide +kernel), List.mem_of_getElem? (i := 807) (by decide +kernel)⟩⟩
theorem pMF_110 : pMF 110 := ⟨List.mem_of_getElem? (i := 812) (by decide +kernel), List.mem_of_getElem? (i := 53) (by decide +kernel), ⟨List.mem_of_getElem? (i := 810) (by decide +kernel), List.mem_of_getElem? (i := 811) (by decide +kernel)⟩⟩
theorem pMF_111 : pMF 111 := ⟨List.mem_of_getElem? (i := 337) (by decide +kernel), List.mem_of_getElem? (i := 53) (by decide +kernel), List.mem_of_getElem? (i := 336) (by decide +kernel)⟩
theorem pMF_112 : pMF 112 := ⟨List.mem_of_getElem? (i := 707) (by decide +kernel), List.mem_of_getElem? (i := 53) (by decide +kernel), List.mem_of_getElem? (i := 706) (by decide +kernel)⟩
theorem pMF_113 : pMF 113 := ⟨List.mem_of_getElem? (i := 726) (by decide +kernel), List.mem_of_getElem? (i := 53) (by decide +kernel), List.mem_of_getElem? (i := 725) (by decide +kernel)⟩
theorem pMF_114 : pMF 114 := ⟨List.mem_of_getElem? (i := 534) (by decide +kernel), List.mem_of_getElem? (i := 53) (by decide +kernel), List.mem_of_getElem? (i := 533) (by decide +kernel)⟩
theorem pMF_115 : pMF 115 := ⟨List.mem_of_getElem? (i := 540) (by decide +kernel), List.mem_of_getElem? (i := 53) (by decide +kernel), List.mem_of_getElem? (i := 539) (by decide +kernel)⟩
theorem pMF_116 : pMF 116 := ⟨List.mem_of_getElem? (i := 464) (by decide +kernel), List.mem_of_getElem? (i := 53) (by decide +kernel), ⟨List.mem_of_getElem? (i := 463) (by decide +kernel), List.mem_of_getElem? (i := 7) (by decide +kernel)⟩⟩
theorem pMF_117 : pMF 117 := ⟨List.mem_of_getElem? (i := 468) (by decide +kernel), List.mem_of_getElem? (i := 53) (by decide +kernel), ⟨List.mem_of_getElem? (i := 467) (by decide +kernel), List.mem_of_getElem? (i := 8) (by decide +kernel)⟩⟩
theorem pMF_118 : pMF 118 := ⟨List.mem_of_getElem? (i := 715) (by decide +kernel), List.mem_of_getElem? (i := 53) (by decide +kernel), ⟨List.mem_of_getElem? (i := 714) (by decide +kernel), List.mem_of_getElem? (i := 13) (by decide +kernel)⟩⟩
theorem pMF_119 : pMF 119 := ⟨List.mem_of_getElem? (i := 755) (by decide +kernel), List.mem_of_getElem? (i := 53) (by decide +kernel), ⟨List.mem_of_getElem? (i := 754) (by decide +kernel), List.mem_of_getElem? (i := 14) (by decide +kernel)⟩⟩
theorem pMF_120 : pMF 120 := ⟨List.mem_of_getElem? (i := 768) (by decide +kernel), List.mem_of_getElem? (i := 53) (by decide +kernel), ⟨List.mem_of_getElem? (i := 767) (by decide +kernel), List.mem_of_getElem? (i := 15) (by decide +kernel)⟩⟩
theorem pMF_121 : pMF 121 := ⟨List.mem_of_getElem? (i := 821) (by decide +kernel), List.mem_of_getElem? (i := 61) (by decide +kernel), ⟨List.mem_of_getElem? (i := 820) (by decide +kernel), by decide +kernel, rfl⟩⟩
theorem pMF_122 : pMF 122 := ⟨List.mem_of_getElem? (i := 906) (by decide +kernel), List.mem_of_getElem? (i := 61) (by decide +kernel), List.mem_of_getElem? (i := 905) (by decide +kernel)⟩
theorem pMF_123 : pMF 123 := ⟨List.mem_of_getElem? (i := 933) (by decide +kernel), List.mem_of_getElem? (i := 61) (by decide +kernel), ⟨List.mem_of_getElem? (i := 932) (by decide +kernel), List.mem_of_getElem? (i := 18) (by decide +kernel)⟩⟩
theorem pMF_124 : pMF 124 := ⟨List.mem_of_getElem? (i := 937) (by decide +kernel), List.mem_of_getElem? (i := 61) (by decide +kernel), ⟨List.mem_of_getElem? (i := 936) (by decide +kernel), List.mem_of_getElem? (i := 19) (by decide +kernel)⟩⟩
theorem pMF_125 : pMF 125 := ⟨List.mem_of_getElem? (i := 925) (by decide +kernel), List.mem_of_getElem? (i := 61) (by decide +kernel), ⟨List.mem_of_getElem? (i := 924) (by decide +kernel), List.mem_of_getElem? (i := 17) (by decide +kernel)⟩⟩
theorem pMF_126 : pMF 126 := ⟨List.mem_of_getElem? (i := 902) (by decide +kernel), List.mem_of_getElem? (i := 61) (by decide +kernel), ⟨List.mem_of_getElem? (i := 900) (by decide +kernel), List.mem_of_getElem? (i := 901) (by decide +kernel)⟩⟩
theorem pMF_127 : pMF 127 := ⟨List.mem_of_getElem? (i := 916) (by decide +kernel), List.mem_of_getElem? (i := 61) (by decide +kernel), ⟨List.mem_of_getElem? (i := 915) (by decide +kernel), List.mem_of_getElem? (i := 16) (by decide +kernel)⟩⟩
theorem pMF_128 : pMF 128 := ⟨List.mem_of_getElem? (i := 911) (by decide +kernel), List.mem_of_getElem? (i := 61) (by decide +kernel), ⟨List.mem_of_getElem? (i := 909) (by decide +kernel), List.mem_of_getElem? (i := 910) (by decide +kernel)⟩⟩
theorem pMF_129 : pMF 129 := ⟨List.mem_of_getElem? (i := 920) (by decide +kernel), List.mem_of_getElem? (i := 61) (by decide +kernel), ⟨List.mem_of_getElem? (i := 918) (by decide +kernel), List.mem_of_getElem? (i := 919) (by decide +kernel)⟩⟩
theorem pMF_130 : pMF 130 := ⟨List.mem_of_getElem? (i := 929) (by decide +kernel), List.mem_of_getElem? (i := 61) (by decide +kernel), ⟨List.mem_of_getElem? (i := 927) (by decide +kernel), List.mem_of_getElem? (i := 928) (by decide +kernel)⟩⟩
theorem pMF_131 : pMF 131 := ⟨List.mem_of_getElem? (i := 941) (by decide +kernel), List.mem_of_getElem? (i := 61) (by decide +kernel), ⟨List.mem_of_getElem? (i := 939) (by decide +kernel), List.mem_of_getElem? (i := 940) (by decide +kernel)⟩⟩
theorem pMF_132 : pMF 132 := ⟨List.mem_of_getElem? (i := 945) (by decide +kernel), List.mem_of_getElem? (i := 61) (by decide +kernel), ⟨List.mem_of_getElem? (i := 943) (by decide +kernel), List.mem_of_getElem? (i := 944) (by decide +kernel)⟩⟩
theorem pMF_133 : pMF 133 := ⟨List.mem_of_getElem? (i := 949) (by decide +kernel), List.mem_of_getElem? (i := 61) (by decide +kernel), ⟨List.mem_of_getElem? (i := 947) (by decide +kernel), List.mem_of_getElem? (i := 948) (by decide +kernel)⟩⟩
theorem pMF_134 : pMF 134 := ⟨List.mem_of_getElem? (i := 954) (by decide +kernel), List.mem_of_getElem? (i := 61) (by decide +kernel), ⟨List.mem_of_getElem? (i := 952) (by decide +kernel), List.mem_of_getElem? (i := 953) (by decide +kernel)⟩⟩
theorem pMF_135 : pMF 135 := ⟨List.mem_of_getElem? (i := 967) (by decide +kernel), List.mem_of_getElem? (i := 61) (by decide +kernel), ⟨List.mem_of_getElem? (i := 966) (by decide +kernel), List.mem_of_getElem? (i := 21) (by decide +kernel)⟩⟩
theorem pMF_136 : pMF 136 := ⟨List.mem_of_getElem? (i := 975) (by decide +kernel), List.mem_of_getElem? (i := 61) (by decide +kernel), ⟨List.mem_of_getElem? (i := 974) (by decide +kernel), List.mem_of_getElem? (i := 23) (by decide +kernel)⟩⟩
theorem pMF_137 : pMF 137 := ⟨List.mem_of_getElem? (i := 971) (by decide +kernel), List.mem_of_getElem? (i := 61) (by decide +kernel), ⟨List.mem_of_getElem? (i := 970) (by decide +kernel), List.mem_of_getElem? (i := 22) (by decide +kernel)⟩⟩
theorem pMF_138 : pMF 138 := ⟨List.mem_of_getElem? (i := 963) (by decide +kernel), List.mem_of_getElem? (i := 61) (by decide +kernel), ⟨List.mem_of_getElem? (i := 962) (by decide +kernel), List.mem_of_getElem? (i := 20) (by decide +kernel)⟩⟩
theorem pMF_139 : pMF 139 := ⟨List.mem_of_getElem? (i := 959) (by decide +kernel), List.mem_of_getElem? (i := 61) (by decide +kernel), ⟨List.mem_of_getElem? (i := 957) (by decide +kernel), List.mem_of_getElem? (i := 958) (by decide +kernel)⟩⟩
theorem pMF_140 : pMF 140 := ⟨List.mem_of_getElem? (i := 991) (by decide +kernel), List.mem_of_getElem? (i := 61) (by decide +kernel), ⟨List.mem_of_getElem? (i := 990) (by decide +kernel), List.mem_of_getElem? (i := 25) (by decide +kernel)⟩⟩
theorem pMF_141 : pMF 141 := ⟨List.mem_of_getElem? (i := 1014) (by decide +kernel), List.mem_of_getElem? (i := 61) (by decide +kernel), ⟨List.mem_of_getElem? (i := 1013) (by decide +kernel), List.mem_of_getElem? (i := 28) (by decide +kernel)⟩⟩
theorem pMF_142 : pMF 142 := ⟨List.mem_of_getElem? (i := 1010) (by decide +kernel), List.mem_of_getElem? (i := 61) (by decide +kernel), ⟨List.mem_of_getElem? (i := 1009) (by decide +kernel), List.mem_of_getElem? (i := 27) (by decide +kernel)⟩⟩
theorem pMF_143 : pMF 143 := ⟨List.mem_of_getElem? (i := 1006) (by decide +kernel), List.mem_of_getElem? (i := 61) (by decide +kernel), ⟨List.mem_of_getElem? (i := 1005) (by decide +kernel), List.mem_of_getElem? (i := 26) (by decide +kernel)⟩⟩
theorem pMF_144 : pMF 144 := ⟨List.mem_of_getElem? (i := 987) (by decide +kernel), List.mem_of_getElem? (i := 61) (by decide +kernel), ⟨List.mem_of_getElem? (i := 986) (by decide +kernel), List.mem_of_getElem? (i := 24) (by decide +kernel)⟩⟩
theorem pMF_145 : pMF 145 := ⟨List.mem_of_getElem? (i := 997) (by decide +kernel), List.mem_of_getElem? (i := 61) (by decide +kernel), List.mem_of_getElem? (i := 996) (by decide +kernel)⟩
theorem pMF_146 : pMF 146 := ⟨List.mem_of_getElem? (i := 994) (by decide +kernel), List.mem_of_getElem? (i := 61) (by decide +kernel), List.mem_of_getElem? (i := 993) (by decide +kernel)⟩
theorem pMF_147 : pMF 147 := ⟨List.mem_of_getElem? (i := 983) (by decide +kernel), List.mem_of_getElem? (i := 61) (by decide +kernel), List.mem_of_getElem? (i := 982) (by decide +kernel)⟩
theorem pMF_148 : pMF 148 := ⟨List.mem_of_getElem? (i := 980) (by decide +kernel), List.mem_of_getElem? (i := 61) (by decide +kernel), ⟨List.mem_of_getElem? (i := 978) (by decide +kernel), List.mem_of_getElem? (i := 979) (by decide +kernel)⟩⟩
theorem pMF_149 : pMF 149 := ⟨List.mem_of_getElem? (i := 1002) (by decide +kernel), List.mem_of_getElem? (i := 61) (by decide +kernel), ⟨List.mem_of_getElem? (i := 1000) (by decide +kernel), List.mem_of_getElem? (i := 1001) (by decide +kernel)⟩⟩
theorem pMF_150 : pMF 150 := ⟨List.mem_of_getElem? (i := 1041) (by decide +kernel), List.mem_of_getElem? (i := 61) (by decide +kernel), ⟨List.mem_of_getElem? (i := 1040) (by decide +kernel), List.mem_of_getElem? (i := 33) (by decide +kernel)⟩⟩
theorem pMF_151 : pMF 151 := ⟨List.mem_of_getElem? (i := 1036) (by decide +kernel), List.mem_of_getElem? (i := 61) (by decide +kernel), ⟨List.mem_of_getElem? (i := 1035) (by decide +kernel), List.mem_of_getElem? (i := 32) (by decide +kernel)⟩⟩
theorem pMF_152 : pMF 152 := ⟨List.mem_of_getElem? (i := 1049) (by decide +kernel), List.mem_of_getElem? (i := 61) (by decide +kernel), ⟨List.mem_of_getElem? (i := 1048) (by decide +kernel), List.mem_of_getElem? (i := 35) (by decide +kernel)⟩⟩
theorem pMF_153 : pMF 153 := ⟨List.mem_of_getElem? (i := 1061) (by decide +kernel), List.mem_of_getElem? (i := 61) (by decide +kernel), ⟨List.mem_of_getElem? (i := 1060) (by decide +kernel), List.mem_of_getElem? (i := 36) (by decide +kernel)⟩⟩
theorem pMF_154 : pMF 154 := ⟨List.mem_of_getElem? (i := 1045) (by decide +kernel), List.mem_of_getElem? (i := 61) (by decide +kernel), ⟨List.mem_of_getElem? (i := 1044) (by decide +kernel), List.mem_of_getElem? (i := 34) (by decide +kernel)⟩⟩
theorem pMF_155 : pMF 155 := ⟨List.mem_of_getElem? (i := 1032) (by decide +kernel), List.mem_of_getElem? (i := 61) (by decide +kernel), ⟨List.mem_of_getElem? (i := 1031) (by decide +kernel), List.mem_of_getElem? (i := 31) (by decide +kernel)⟩⟩
theorem pMF_156 : pMF 156 := ⟨List.mem_of_getElem? (i := 1028) (by decide +kernel), List.mem_of_getElem? (i := 61) (by decide +kernel), ⟨List.mem_of_getElem? (i := 1027) (by decide +kernel), List.mem_of_getElem? (i := 30) (by decide +kernel)⟩⟩
theorem pMF_157 : pMF 157 := ⟨List.mem_of_getElem? (i := 1024) (by decide +kernel), List.mem_of_getElem? (i := 61) (by decide +kernel), ⟨List.mem_of_getElem? (i := 1023) (by decide +kernel), List.mem_of_getElem? (i := 29) (by decide +kernel)⟩⟩
theorem pMF_158 : pMF 158 := ⟨List.mem_of_getElem? (i := 1018) (by decide +kernel), List.mem_of_getElem? (i := 61) (by decide +kernel), ⟨List.mem_of_getElem? (i := 1016) (by decide +kernel), List.mem_of_getElem? (i := 1017) (by decide +kernel)⟩⟩
theorem pMF_159 : pMF 159 := ⟨List.mem_of_getElem? (i := 1053) (by decide +kernel), List.mem_of_getElem? (i := 61) (by decide +kernel), ⟨List.mem_of_getElem? (i := 1051) (by decide +kernel), List.mem_of_getElem? (i := 1052) (by decide +kernel)⟩⟩
theorem pMF_160 : pMF 160 := ⟨List.mem_of_getElem? (i := 1057) (by decide +kernel), List.mem_of_getElem? (i := 61) (by decide +kernel), ⟨List.mem_of_getElem? (i := 1055) (by decide +kernel), List.mem_of_getElem? (i := 1056) (by decide +kernel)⟩⟩
theorem pMF_161 : pMF 161 := ⟨List.mem_of_getElem? (i := 1065) (by decide +kernel), List.mem_of_getElem? (i := 61) (by decide +kernel), ⟨List.mem_of_getElem? (i := 1063) (by decide +kernel), List.mem_of_getElem? (i := 1064) (by decide +kernel)⟩⟩
theorem pMF_162 : pMF 162 := ⟨List.mem_of_getElem? (i := 1069) (by decide +kernel), List.mem_of_getElem? (i := 61) (by decide +kernel), ⟨List.mem_of_getElem? (i := 1067) (by decide +kernel), List.mem_of_getElem? (i := 1068) (by decide +kernel)⟩⟩
theorem pMF_163 : pMF 163 := ⟨List.mem_of_getElem? (i := 1073) (by decide +kernel), List.mem_of_getElem? (i := 61) (by decide +kernel), ⟨List.mem_of_getElem? (i := 1071) (by decide +kernel), List.mem_of_getElem? (i := 1072) (by decide +kernel)⟩⟩
theorem pMF_164 : pMF 164 := ⟨List.mem_of_getElem? (i := 1077) (by decide +kernel), List.mem_of_getElem? (i := 61) (by decide +kernel), ⟨List.mem_of_getElem? (i := 1075) (by decide +kernel), List.mem_of_getElem? (i := 1076) (by decide +kernel)⟩⟩
theorem pMF_165 : pMF 165 := ⟨List.mem_of_getElem? (i := 1085) (by decide +kernel), List.mem_of_getElem? (i := 61) (by decide +kernel), ⟨List.mem_of_getElem? (i := 1084) (by decide +kernel), List.mem_of_getElem? (i := 37) (by decide +kernel)⟩⟩
theorem pMF_166 : pMF 166 := ⟨List.mem_of_getElem? (i := 1093) (by decide +kernel), List.mem_of_getElem? (i := 61) (by decide +kernel), ⟨List.mem_of_getElem? (i := 1092) (by decide +kernel), List.mem_of_getElem? (i := 39) (by decide +kernel)⟩⟩
theorem pMF_167 : pMF 167 := ⟨List.mem_of_getElem? (i := 1089) (by decide +kernel), List.mem_of_getElem? (i := 61) (by decide +kernel), ⟨List.mem_of_getElem? (i := 1088) (by decide +kernel), List.mem_of_getElem? (i := 38) (by decide +kernel)⟩⟩
theorem pMF_168 : pMF 168 := ⟨List.mem_of_getElem? (i := 1097) (by decide +kernel), List.mem_of_getElem? (i := 61) (by decide +kernel), ⟨List.mem_of_getElem? (i := 1096) (by decide +kernel), List.mem_of_getElem? (i := 40) (by decide +kernel)⟩⟩
theorem pMF_169 : pMF 169 := ⟨List.mem_of_getElem? (i := 1081) (by decide +kernel), List.mem_of_getElem? (i := 61) (by decide +kernel), ⟨List.mem_of_getElem? (i := 1079) (by decide +kernel), List.mem_of_getElem? (i := 1080) (by decide +kernel)⟩⟩
theorem pMF_170 : pMF 170 := ⟨List.mem_of_getElem? (i := 1109) (by decide +kernel), List.mem_of_getElem? (i := 61) (by decide +kernel), ⟨List.mem_of_getElem? (i := 1108) (by decide +kernel), List.mem_of_getElem? (i := 42) (by decide +kernel)⟩⟩
theorem pMF_171 : pMF 171 := ⟨List.mem_of_getElem? (i := 1105) (by decide +kernel), List.mem_of_getElem? (i := 61) (by decide +kernel), ⟨List.mem_of_getElem? (i := 1104) (by decide +kernel), List.mem_of_getElem? (i := 41) (by decide +kernel)⟩⟩
theorem pMF_172 : pMF 172 := ⟨List.mem_of_getElem? (i := 1113) (by decide +kernel), List.mem_of_getElem? (i := 61) (by decide +kernel), ⟨List.mem_of_getElem? (i := 1112) (by decide +kernel), List.mem_of_getElem? (i := 43) (by decide +kernel)⟩⟩
theorem pMF_173 : pMF 173 := ⟨List.mem_of_getElem? (i := 1101) (by decide +kernel), List.mem_of_getElem? (i := 61) (by decide +kernel), ⟨List.mem_of_getElem? (i := 1099) (by decide +kernel), List.mem_of_getElem? (i := 1100) (by decide +kernel)⟩⟩
theorem pMF_174 : pMF 174 := ⟨List.mem_of_getElem? (i := 1117) (by decide +kernel), List.mem_of_getElem? (i := 61) (by decide +kernel), ⟨List.mem_of_getElem? (i := 1115) (by decide +kernel), List.mem_of_getElem? (i := 1116) (by decide +kernel)⟩⟩
theorem pMF_175 : pMF 175 := ⟨List.mem_of_getElem? (i := 1125) (by decide +kernel), List.mem_of_getElem? (i := 61) (by decide +kernel), ⟨List.mem_of_getElem? (i := 1124) (by decide +kernel), List.mem_of_getElem? (i := 44) (by decide +kernel)⟩⟩
theorem pMF_176 : pMF 176 := ⟨List.mem_of_getElem? (i := 1121) (by decide +kernel), List.mem_of_getElem? (i := 61) (by decide +kernel), ⟨List.mem_of_getElem? (i := 1119) (by decide +kernel), List.mem_of_getElem? (i := 1120) (by decide +kernel)⟩⟩
theorem pMF_177 : pMF 177 := ⟨List.mem_of_getElem? (i := 1141) (by decide +kernel), List.mem_of_getElem? (i := 61) (by decide +kernel), ⟨List.mem_of_getElem? (i := 1140) (by decide +kernel), List.mem_of_getElem? (i := 47) (by decide +kernel)⟩⟩
theorem pMF_178 : pMF 178 := ⟨List.mem_of_getElem? (i := 1137) (by decide +kernel), List.mem_of_getElem? (i := 61) (by decide +kernel), ⟨List.mem_of_getElem? (i := 1136) (by decide +kernel), List.mem_of_getElem? (i := 46) (by decide +kernel)⟩⟩
theorem pMF_179 : pMF 179 := ⟨List.mem_of_getElem? (i := 1133) (by decide +kernel), List.mem_of_getElem? (i := 61) (by decide +kernel), ⟨List.mem_of_getElem? (i := 1132) (by decide +kernel), List.mem_of_getElem? (i := 45) (by decide +kernel)⟩⟩
theorem pMF_180 : pMF 180 := ⟨List.mem_of_getElem? (i := 1129) (by decide +kernel), List.mem_of_getElem? (i := 61) (by decide +kernel), ⟨List.mem_of_getElem? (i := 1127) (by decide +kernel), List.mem_of_getElem? (i := 1128) (by decide +kernel)⟩⟩
theorem pMF_181 : pMF 181 := ⟨List.mem_of_getElem? (i := 1145) (by decide +kernel), List.mem_of_getElem? (i := 61) (by decide +kernel), ⟨List.mem_of_getElem? (i := 1143) (by decide +kernel), List.mem_of_getElem? (i := 1144) (by decide +kernel)⟩⟩
theorem pMF_182 : pMF 182 := ⟨List.mem_of_getElem? (i := 1149) (by decide +kernel), List.mem_of_getElem? (i := 61) (by decide +kernel), ⟨List.mem_of_getElem? (i := 1147) (by decide +kernel), List.mem_of_getElem? (i := 1148) (by decide +kernel)⟩⟩
theorem pMF_183 : pMF 183 := ⟨List.mem_of_getElem? (i := 1153) (by decide +kernel), List.mem_of_getElem? (i := 61) (by decide +kernel), ⟨List.mem_of_getElem? (i := 1151) (by decide +kernel), List.mem_of_getElem? (i := 1152) (by decide +kernel)⟩⟩
theorem pMF_184 : pMF 184 := ⟨List.mem_of_getElem? (i := 1161) (by decide +kernel), List.mem_of_getElem? (i := 61) (by decide +kernel), ⟨List.mem_of_getElem? (i := 1160) (by decide +kernel), List.mem_of_getElem? (i := 48) (by decide +kernel)⟩⟩
theorem pMF_185 : pMF 185 := ⟨List.mem_of_getElem? (i := 1157) (by decide +kernel), List.mem_of_getElem? (i := 61) (by decide +kernel), ⟨List.mem_of_getElem? (i := 1155) (by decide +kernel), List.mem_of_getElem? (i := 1156) (by decide +kernel)⟩⟩
theorem pMF_186 : pMF 186 := ⟨List.mem_of_getElem? (i := 1174) (by decide +kernel), List.mem_of_getElem? (i := 61) (by decide +kernel), ⟨List.mem_of_getElem? (i := 1173) (by decide +kernel), List.mem_of_getElem? (i := 50) (by decide +kernel)⟩⟩
theorem pMF_187 : pMF 187 := ⟨List.mem_of_getElem? (i := 1170) (by decide +kernel), List.mem_of_getElem? (i := 61) (by decide +kernel), ⟨List.mem_of_getElem? (i := 1169) (by decide +kernel), List.mem_of_getElem? (i := 49) (by decide +kernel)⟩⟩
theorem pMF_188 : pMF 188 := ⟨List.mem_of_getElem? (i := 1180) (by decide +kernel), List.mem_of_getElem? (i := 61) (by decide +kernel), ⟨List.mem_of_getElem? (i := 1179) (by decide +kernel), List.mem_of_getElem? (i := 51) (by decide +kernel)⟩⟩
theorem pMF_189 : pMF 189 := ⟨List.mem_of_getElem? (i := 1165) (by decide +kernel), List.mem_of_getElem? (i := 61) (by decide +kernel), ⟨List.mem_of_getElem? (i := 1163) (by decide +kernel), List.mem_of_getElem? (i := 1164) (by decide +kernel)⟩⟩
theorem pMF_190 : pMF 190 := ⟨List.mem_of_getElem? (i := 1187) (by decide +kernel), List.mem_of_getElem? (i := 61) (by decide +kernel), List.mem_of_getElem? (i := 1186) (by decide +kernel)⟩
theorem pMF_191 : pMF 191 := ⟨List.mem_of_getElem? (i := 1184) (by decide +kernel), List.mem_of_getElem? (i := 61) (by decide +kernel), ⟨List.mem_of_getElem? (i := 1182) (by decide +kernel), List.mem_of_getElem? (i := 1183) (by decide +kernel)⟩⟩
theorem pMF_192 : pMF 192 := ⟨List.mem_of_getElem? (i := 1192) (by decide +kernel), List.mem_of_getElem? (i := 61) (by decide +kernel), ⟨List.mem_of_getElem? (i := 1190) (by decide +kernel), List.mem_of_getElem? (i := 1191) (by decide +kernel)⟩⟩
theorem pMF_193 : pMF 193 := ⟨List.mem_of_getElem? (i := 1196) (by decide +kernel), List.mem_of_getElem? (i := 61) (by decide +kernel), ⟨List.mem_of_getElem? (i := 1194) (by decide +kernel), List.mem_of_getElem? (i := 1195) (by decide +kernel)⟩⟩
theorem pMF_194 : pMF 194 := ⟨List.mem_of_getElem? (i := 1200) (by decide +kernel), List.mem_of_getElem? (i := 61) (by decide +kernel), ⟨List.mem_of_getElem? (i := 1198) (by decide +kernel), List.mem_of_getElem? (i := 1199) (by decide +kernel)⟩⟩
theorem pMF_195 : pMF 195 := ⟨List.mem_of_getElem? (i := 1204) (by decide +kernel), List.mem_of_getElem? (i := 61) (by decide +kernel), ⟨List.mem_of_getElem? (i := 1202) (by decide +kernel), List.mem_of_getElem? (i := 1203) (by decide +kernel)⟩⟩
theorem pMF_196 : pMF 196 := ⟨List.mem_of_getElem? (i := 1208) (by decide +kernel), List.mem_of_getElem? (i := 61) (by decide +kernel), ⟨List.mem_of_getElem? (i := 1206) (by decide +kernel), List.mem_of_getElem? (i := 1207) (by decide +kernel)⟩⟩
theorem pMF_197 : pMF 197 := ⟨List.mem_of_getElem? (i := 1213) (by decide +kernel), List.mem_of_getElem? (i := 61) (by decide +kernel), ⟨List.mem_of_getElem? (i := 1211) (by decide +kernel), List.mem_of_getElem? (i := 1212) (by decide +kernel)⟩⟩
theorem pMF_198 : pMF 198 := ⟨List.mem_of_getElem? (i := 1217) (by decide +kernel), List.mem_of_getElem? (i := 61) (by decide +kernel), ⟨List.mem_of_getElem? (i := 1215) (by decide +kernel), List.mem_of_getElem? (i := 1216) (by decide +kernel)⟩⟩
theorem pMF_199 : pMF 199 := ⟨List.mem_of_getElem? (i := 1224) (by decide +kernel), List.mem_of_getElem? (i := 61) (by decide +kernel), List.mem_of_getElem? (i := 1223) (by decide +kernel)⟩
theorem pMF_200 : pMF 200 := ⟨List.mem_of_getElem? (i := 1231) (by decide +kernel), List.mem_of_getElem? (i := 61) (by decide +kernel), List.mem_of_getElem? (i := 1230) (by decide +kernel)⟩
theorem pMF_201 : pMF 201 := ⟨List.mem_of_getElem? (i := 1221) (by decide +kernel), List.mem_of_getElem? (i := 61) (by decide +kernel), ⟨List.mem_of_getElem? (i := 1219) (by decide +kernel), List.mem_of_getElem? (i := 1220) (by decide +kernel)⟩⟩
theorem pMF_202 : pMF 202 := ⟨List.mem_of_getElem? (i := 1228) (by decide +kernel), List.mem_of_getElem? (i := 61) (by decide +kernel), ⟨List.mem_of_getElem? (i := 1226) (by decide +kernel), List.mem_of_getElem? (i := 1227) (by decide +kernel)⟩⟩
theorem pMF_203 : pMF 203 := ⟨List.mem_of_getElem? (i := 1235) (by decide +kernel), List.mem_of_getElem? (i := 61) (by decide +kernel), ⟨List.mem_of_getElem? (i := 1233) (by decide +kernel), List.mem_of_getElem? (i := 1234) (by decide +kernel)⟩⟩
theorem pMF_204 : pMF 204 := ⟨List.mem_of_getElem? (i := 1239) (by decide +kernel), List.mem_of_getElem? (i := 61) (by decide +kernel), ⟨List.mem_of_getElem? (i := 1237) (by decide +kernel), List.mem_of_getElem? (i := 1238) (by decide +kernel)⟩⟩
theorem pMF_205 : pMF 205 := ⟨List.mem_of_getElem? (i := 1243) (by decide +kernel), List.mem_of_getElem? (i := 61) (by decide +kernel), ⟨List.mem_of_getElem? (i := 1241) (by decide +kernel), List.mem_of_getElem? (i := 1242) (by decide +kernel)⟩⟩
theorem pMF_206 : pMF 206 := ⟨List.mem_of_getElem? (i := 1247) (by decide +kernel), List.mem_of_getElem? (i := 61) (by decide +kernel), ⟨List.mem_of_getElem? (i := 1245) (by decide +kernel), List.mem_of_getElem? (i := 1246) (by decide +kernel)⟩⟩
theorem pMF_207 : pMF 207 := ⟨List.mem_of_getElem? (i := 1251) (by decide +kernel), List.mem_of_getElem? (i := 61) (by decide +kernel), ⟨List.mem_of_getElem? (i := 1249) (by decide +kernel), List.mem_of_getElem? (i := 1250) (by decide +kernel)⟩⟩
theorem pMF_208 : pMF 208 := ⟨List.mem_of_getElem? (i := 1255) (by decide +kernel), List.mem_of_getElem? (i := 61) (by decide +kernel), ⟨List.mem_of_getElem? (i := 1253) (by decide +kernel), List.mem_of_getElem? (i := 1254) (by decide +kernel)⟩⟩
theorem pMF_209 : pMF 209 := ⟨List.mem_of_getElem? (i := 1259) (by decide +kernel), List.mem_of_getElem? (i := 61) (by decide +kernel), ⟨List.mem_of_getElem? (i := 1257) (by decide +kernel), List.mem_of_getElem? (i := 1258) (by decide +kernel)⟩⟩
theorem pMF_ok (k : Nat) (h : k < 210) : pMF k := by
  match k, h with
  | 0, _ => exact pMF_0
  | 1, _ => exact pMF_1
  | 2, _ => exact pMF_2
  | 3, _ => exact pMF_3
  | 4, _ => exact pMF_4
  | 5, _ => exact pMF_5
  | 6, _ => exact pMF_6
  | 7, _ => exact pMF_7
  | 8, _ => exact pMF_8
  | 9, _ => exact pMF_9
  | 10, _ => exact pMF_10
  | 11, _ => exact pMF_11
  | 12, _ => exact pMF_12
  | 13, _ => exact pMF_13
  | 14, _ => exact pMF_14
  | 15, _ => exact pMF_15
  | 16, _ => exact pMF_16
  | 17, _ => exact pMF_17
  | 18, _ => exact pMF_18
  | 19, _ => exact pMF_19
  | 20, _ => exact pMF_20
  | 21, _ => exact pMF_21
  | 22, _ => exact pMF_22
  | 23, _ => exact pMF_23
  | 24, _ => exact pMF_24
  | 25, _ => exact pMF_25
  | 26, _ => exact pMF_26
  | 27, _ => exact pMF_27
  | 28, _ => exact pMF_28
  | 29, _ => exact pMF_29
  | 30, _ => exact pMF_30
  | 31, _ => exact pMF_31
  | 32, _ => exact pMF_32
  | 33, _ => exact pMF_33
  | 34, _ => exact pMF_34
  | 35, _ => exact pMF_35
  | 36, _ => exact pMF_36
  | 37, _ => exact pMF_37
  | 38, _ => exact pMF_38
  | 39, _ => exact pMF_39
  | 40, _ => exact pMF_40
  | 41, _ => exact pMF_41
  | 42, _ => exact pMF_42
  | 43, _ => exact pMF_43
  | 44, _ => exact pMF_44
  | 45, _ => exact pMF_45
  | 46, _ => exact pMF_46
  | 47, _ => exact pMF_47
  | 48, _ => exact pMF_48
  | 49, _ => exact pMF_49
  | 50, _ => exact pMF_50
  | 51, _ => exact pMF_51
  | 52, _ => exact pMF_52
  | 53, _ => exact pMF_53
  | 54, _ => exact pMF_54
  | 55, _ => exact pMF_55
  | 56, _ => exact pMF_56
  | 57, _ => exact pMF_57
  | 58, _ => exact pMF_58
  | 59, _ => exact pMF_59
  | 60, _ => exact pMF_60
  | 61, _ => exact pMF_61
  | 62, _ => exact pMF_62
  | 63, _ => exact pMF_63
  | 64, _ => exact pMF_64
  | 65, _ => exact pMF_65
  | 66, _ => exact pMF_66
  | 67, _ => exact pMF_67
  | 68, _ => exact pMF_68
  | 69, _ => exact pMF_69
  | 70, _ => exact pMF_70
  | 71, _ => exact pMF_71
  | 72, _ => exact pMF_72
  | 73, _ => exact pMF_73
  | 74, _ => exact pMF_74
  | 75, _ => exact pMF_75
  | 76, _ => exact pMF_76
  | 77, _ => exact pMF_77
  | 78, _ => exact pMF_78
  | 79, _ => exact pMF_79
  | 80, _ => exact pMF_80
  | 81, _ => exact pMF_81
  | 82, _ => exact pMF_82
  | 83, _ => exact pMF_83
  | 84, _ => exact pMF_84
  | 85, _ => exact pMF_85
  | 86, _ => exact pMF_86
  | 87, _ => exact pMF_87
  | 88, _ => exact pMF_88
  | 89, _ => exact pMF_89
  | 90, _ => exact pMF_90
  | 91, _ => exact pMF_91
  | 92, _ => exact pMF_92
  | 93, _ => exact pMF_93
  | 94, _ => exact pMF_94
  | 95, _ => exact pMF_95
  | 96, _ => exact pMF_96
  | 97, _ => exact pMF_97
  | 98, _ => exact pMF_98
  | 99, _ => exact pMF_99
  | 100, _ => exact pMF_100
  | 101, _ => exact pMF_101
  | 102, _ => exact pMF_102
  | 103, _ => exact pMF_103
  | 104, _ => exact pMF_104
  | 105, _ => exact pMF_105
  | 106, _ => exact pMF_106
  | 107, _ => exact pMF_107
  | 108, _ => exact pMF_108
  | 109, _ => exact pMF_109
  | 110, _ => exact pMF_110
  | 111, _ => exact pMF_111
  | 112, _ => exact pMF_112
  | 113, _ => exact pMF_113
  | 114, _ => exact pMF_114
  | 115, _ => exact pMF_115
  | 116, _ => exact pMF_116
  | 117, _ => exact pMF_117
  | 118, _ => exact pMF_118
  | 119, _ => exact pMF_119
  | 120, _ => exact pMF_120
  | 121, _ => exact pMF_121
  | 122, _ => exact pMF_122
  | 123, _ => exact pMF_123
  | 124, _ => exact pMF_124
  | 125, _ => exact pMF_125
  | 126, _ => exact pMF_126
  | 127, _ => exact pMF_127
  | 128, _ => exact pMF_128
  | 129, _ => exact pMF_129
  | 130, _ => exact pMF_130
  | 131, _ => exact pMF_131
  | 132, _ => exact pMF_132
  | 133, _ => exact pMF_133
  | 134, _ => exact pMF_134
  | 135, _ => exact pMF_135
  | 136, _ => exact pMF_136
  | 137, _ => exact pMF_137
  | 138, _ => exact pMF_138
  | 139, _ => exact pMF_139
  | 140, _ => exact pMF_140
  | 141, _ => exact pMF_141
  | 142, _ => exact pMF_142
  | 143, _ => exact pMF_143
  | 144, _ => exact pMF_144
  | 145, _ => exact pMF_145
  | 146, _ => exact pMF_146
  | 147, _ => exact pMF_147
  | 148, _ => exact pMF_148
  | 149, _ => exact pMF_149
  | 150, _ => exact pMF_150
  | 151, _ => exact pMF_151
  | 152, _ => exact pMF_152
  | 153, _ => exact pMF_153
  | 154, _ => exact pMF_154
  | 155, _ => exact pMF_155
  | 156, _ => exact pMF_156
  | 157, _ => exact pMF_157
  | 158, _ => exact pMF_158
  | 159, _ => exact pMF_159
  | 160, _ => exact pMF_160
  | 161, _ => exact pMF_161
  | 162, _ => exact pMF_162
  | 163, _ => exact pMF_163
  | 164, _ => exact pMF_164
  | 165, _ => exact pMF_165
  | 166, _ => exact pMF_166
  | 167, _ => exact pMF_167
  | 168, _ => exact pMF_168
  | 169, _ => exact pMF_169
  | 170, _ => exact pMF_170
  | 171, _ => exact pMF_171
  | 172, _ => exact pMF_172
  | 173, _ => exact pMF_173
  | 174, _ => exact pMF_174
  | 175, _ => exact pMF_175
  | 176, _ => exact pMF_176
  | 177, _ => exact pMF_177
  | 178, _ => exact pMF_178
  | 179, _ => exact pMF_179
  | 180, _ => exact pMF_180
  | 181, _ => exact pMF_181
  | 182, _ => exact pMF_182
  | 183, _ => exact pMF_183
  | 184, _ => exact pMF_184
  | 185, _ => exact pMF_185
  | 186, _ => exact pMF_186
  | 187, _ => exact pMF_187
  | 188, _ => exact pMF_188
  | 189, _ => exact pMF_189
  | 190, _ => exact pMF_190
  | 191, _ => exact pMF_191
  | 192, _ => exact pMF_192
  | 193, _ => exact pMF_193
  | 194, _ => exact pMF_194
  | 195, _ => exact pMF_195
  | 196, _ => exact pMF_196
  | 197, _ => exact pMF_197
  | 198, _ => exact pMF_198
  | 199, _ => exact pMF_199
  | 200, _ => exact pMF_200
  | 201, _ => exact pMF_201
  | 202, _ => exact pMF_202
  | 203, _ => exact pMF_203
  | 204, _ => exact pMF_204
  | 205, _ => exact pMF_205
  | 206, _ => exact pMF_206
  | 207, _ => exact pMF_207
  | 208, _ => exact pMF_208
  | 209, _ => exact pMF_209
  | k + 210, h => omega
def pMG (k : Nat) : Bool := plainName (pY k).cls && (!decide ((pY k).cls = "java/lang/invoke/MethodHandle") && (!decide ((pY k).cls = "java/lang/invoke/VarHandle") && (decide ((parseMethodDescriptor (pY k).desc).map (fun d => d.parameters.length) = some (pAn k)) && (Nat.ble (pL k) 19 && (decide ((pY k).cls = pNm (pCi k)) && Nat.blt (pCi k) 8)))))
theorem pMG_ok (k : Nat) (h : k < 210) : pMG k = true := by
  have h1 : (List.range 210).all pMG = true := by decide +kernel
  exact List.all_eq_true.mp h1 k (List.mem_range.mpr h)
