/-! the world behind the two constructors -/
def shF : List pSC := [.inl 6, .inl 3, .inr (.int, 4), .inr (.int, 4), .inr (.int, 4), .inr (.int, 16), .inr (.boolean, 4), .inl 2, .inr (.int, 15), .inl 2, .inr (.int, 24), .inl 2, .inr (.int, 24), .inl 3, .inr (.int, 4), .inr (.int, 4), .inr (.int, 4), .inr (.int, 16), .inr (.boolean, 4), .inl 2, .inr (.int, 15), .inl 2, .inr (.int, 24), .inl 2, .inr (.int, 24), .inl 3, .inr (.int, 4), .inr (.int, 4), .inr (.int, 4), .inr (.int, 16), .inr (.boolean, 4), .inl 2, .inr (.int, 15), .inl 2, .inr (.int, 24), .inl 2, .inr (.int, 24), .inl 0, .inl 1, .inl 0, .inr (.int, 4), .inr (.int, 4), .inr (.long, 16), .inr (.long, 16), .inr (.long, 4), .inr (.long, 4), .inr (.int, 4), .inr (.long, 4), .inr (.long, 4), .inr (.long, 4), .inr (.int, 4), .inl 5, .inr (.byte, 60), .inr (.object (pNm 4), 6), .inl 4, .inr (.long, 60), .inl 4, .inr (.long, 60), .inl 4, .inr (.long, 60), .inl 4, .inr (.long, 60), .inl 4, .inr (.long, 60), .inl 4, .inr (.long, 60), .inl 7, .inr (.int, 97), .inr (.int, 97), .inr (.int, 60), .inr (.int, 5), .inr (.int, 97), .inr (.int, 5), .inr (.long, 30), .inr (.long, 5), .inr (.int, 5), .inr (.int, 5), .inr (.long, 5), .inr (.int, 5), .inr (.long, 35), .inr (.int, 35), .inr (.int, 6), .inr (.int, 6), .inr (.long, 360), .inr (.long, 60)]
def mrF : List (List (Option Nat)) := [[some 1, some 13, some 25, none, some 37, some 38, some 51, some 53], [none, none, none, none, none, none, none, some 2, some 3, some 4, some 5, some 6, some 7, some 9, some 11], [], [], [], [], [], [none, some 8, none], [], [none, some 10, none], [], [none, some 12, none], [], [none, none, none, none, none, none, none, some 14, some 15, some 16, some 17, some 18, some 19, some 21, some 23], [], [], [], [], [], [none, some 20, none], [], [none, some 22, none], [], [none, some 24, none], [], [none, none, none, none, none, none, none, some 26, some 27, some 28, some 29, some 30, some 31, some 33, some 35], [], [], [], [], [], [none, some 32, none], [], [none, some 34, none], [], [none, some 36, none], [], [none, none, none, none], [some 39, some 40, some 41, some 42, some 43, some 44, some 45, none, none, some 46, some 47, none, some 48, some 49, none, some 50], [none, none, none, none], [], [], [], [], [], [], [], [], [], [], [], [some 52, none, none], [], [some 54, some 56, some 58, some 60, some 62, some 64], [none, none, some 55], [], [none, none, some 57], [], [none, none, some 59], [], [none, none, some 61], [], [none, none, some 63], [], [none, none, some 65], [], [some 67, some 68, none, some 69, none, none, none, some 70, some 71, some 72, some 73, some 74, none, some 75, none, some 76, some 77, some 78, some 79, some 80, none, some 81, some 82, some 83, some 84], [], [], [], [], [], [], [], [], [], [], [], [], [], [], [], [], [], []]
abbrev pWo (f : Nat → Nat → Int32) (g : Nat → Nat → Int64) : pWD := (shF, mrF, f, g)
theorem en_0 (o : Nat) : pEn 0 [.ref o] = [some (.ref o)] := rfl
theorem en_1 (o : Nat) (x0 : Nat) (x1 : Int32) (x2 : Int32) (x3 : Int32) : pEn 1 [.ref o, .ref x0, .int x1, .int x2, .int x3] = [some (.ref o), some (.ref x0), some (.int x1), some (.int x2), some (.int x3), none, none, none, none] := rfl
theorem en_2 (o : Nat) (x0 : Nat) : pEn 2 [.ref o, .ref x0] = [some (.ref o), some (.ref x0), none, none] := rfl
theorem en_3 (o : Nat) : pEn 3 [.ref o] = [some (.ref o)] := rfl
theorem en_4 (o : Nat) (x0 : Nat) (x1 : Int32) : pEn 4 [.ref o, .ref x0, .int x1] = [some (.ref o), some (.ref x0), some (.int x1)] := rfl
theorem en_5 (o : Nat) (x0 : Int32) : pEn 5 [.ref o, .int x0] = [some (.ref o), some (.int x0)] := rfl
theorem en_6 (x0 : Nat) (x1 : Int32) : pEn 6 [.ref x0, .int x1] = [some (.ref x0), some (.int x1)] := rfl
theorem en_7 (o : Nat) (x0 : Nat) (x1 : Int32) (x2 : Int32) (x3 : Int32) : pEn 7 [.ref o, .ref x0, .int x1, .int x2, .int x3] = [some (.ref o), some (.ref x0), some (.int x1), some (.int x2), some (.int x3), none, none, none] := rfl
theorem en_8 (o : Nat) (x0 : Nat) (x1 : Int32) (x2 : Int32) : pEn 8 [.ref o, .ref x0, .int x1, .int x2] = [some (.ref o), some (.ref x0), some (.int x1), some (.int x2), none, none, none] := rfl
theorem en_9 (o : Nat) (x0 : Nat) : pEn 9 [.ref o, .ref x0] = [some (.ref o), some (.ref x0), none, none] := rfl
theorem en_10 (o : Nat) (x0 : Nat) (x1 : Int64) (x2 : Int64) : pEn 10 [.ref o, .ref x0, .long x1, .long x2] = [some (.ref o), some (.ref x0), some (.long x1), none, some (.long x2), none, none, none] := rfl
theorem en_11 (x0 : Nat) : pEn 11 [.ref x0] = [some (.ref x0)] := rfl
theorem en_12 (x0 : Nat) (x1 : Int32) (x2 : Int32) (x3 : Int32) : pEn 12 [.ref x0, .int x1, .int x2, .int x3] = [some (.ref x0), some (.int x1), some (.int x2), some (.int x3), none, none] := rfl
theorem en_13 (o : Nat) (x0 : Nat) (x1 : Int32) (x2 : Int32) : pEn 13 [.ref o, .ref x0, .int x1, .int x2] = [some (.ref o), some (.ref x0), some (.int x1), some (.int x2), none, none, none] := rfl
theorem en_14 (o : Nat) (x0 : Nat) : pEn 14 [.ref o, .ref x0] = [some (.ref o), some (.ref x0)] := rfl
theorem en_15 (o : Nat) (x0 : Nat) (x1 : Int32) (x2 : Int32) : pEn 15 [.ref o, .ref x0, .int x1, .int x2] = [some (.ref o), some (.ref x0), some (.int x1), some (.int x2)] := rfl
theorem en_16 (o : Nat) (x0 : Nat) (x1 : Int32) : pEn 16 [.ref o, .ref x0, .int x1] = [some (.ref o), some (.ref x0), some (.int x1), none, none, none, none, none, none] := rfl
theorem en_17 (o : Nat) (x0 : Nat) : pEn 17 [.ref o, .ref x0] = [some (.ref o), some (.ref x0), none, none] := rfl
theorem en_18 (o : Nat) (x0 : Nat) : pEn 18 [.ref o, .ref x0] = [some (.ref o), some (.ref x0)] := rfl
theorem en_19 (o : Nat) (x0 : Nat) : pEn 19 [.ref o, .ref x0] = [some (.ref o), some (.ref x0), none] := rfl
theorem en_20 (o : Nat) (x0 : Nat) : pEn 20 [.ref o, .ref x0] = [some (.ref o), some (.ref x0), none, none] := rfl
theorem en_21 (o : Nat) (x0 : Nat) (x1 : Int32) : pEn 21 [.ref o, .ref x0, .int x1] = [some (.ref o), some (.ref x0), some (.int x1), none] := rfl
theorem en_22 (o : Nat) (x0 : Nat) : pEn 22 [.ref o, .ref x0] = [some (.ref o), some (.ref x0), none, none] := rfl
theorem en_23 (o : Nat) (x0 : Nat) (x1 : Int32) : pEn 23 [.ref o, .ref x0, .int x1] = [some (.ref o), some (.ref x0), some (.int x1), none, none] := rfl
theorem en_24 (o : Nat) (x0 : Nat) : pEn 24 [.ref o, .ref x0] = [some (.ref o), some (.ref x0), none, none] := rfl
theorem en_25 (o : Nat) (x0 : Nat) : pEn 25 [.ref o, .ref x0] = [some (.ref o), some (.ref x0), none, none, none] := rfl
theorem en_26 (o : Nat) (x0 : Nat) : pEn 26 [.ref o, .ref x0] = [some (.ref o), some (.ref x0), none, none] := rfl
theorem en_27 (o : Nat) (x0 : Nat) (x1 : Int32) : pEn 27 [.ref o, .ref x0, .int x1] = [some (.ref o), some (.ref x0), some (.int x1), none, none] := rfl
theorem en_28 (o : Nat) (x0 : Nat) (x1 : Int32) : pEn 28 [.ref o, .ref x0, .int x1] = [some (.ref o), some (.ref x0), some (.int x1), none, none, none, none] := rfl
theorem en_29 (o : Nat) (x0 : Nat) : pEn 29 [.ref o, .ref x0] = [some (.ref o), some (.ref x0), none] := rfl
theorem en_30 (o : Nat) (x0 : Int32) : pEn 30 [.ref o, .int x0] = [some (.ref o), some (.int x0)] := rfl
theorem en_31 (o : Nat) : pEn 31 [.ref o] = [some (.ref o)] := rfl
theorem en_32 (o : Nat) (x0 : Int32) (x1 : Int32) (x2 : Int32) : pEn 32 [.ref o, .int x0, .int x1, .int x2] = [some (.ref o), some (.int x0), some (.int x1), some (.int x2)] := rfl
theorem en_33 (o : Nat) : pEn 33 [.ref o] = [some (.ref o)] := rfl
theorem en_34 (o : Nat) (x0 : Int32) (x1 : Int32) : pEn 34 [.ref o, .int x0, .int x1] = [some (.ref o), some (.int x0), some (.int x1)] := rfl
theorem en_35 (o : Nat) (x0 : Nat) : pEn 35 [.ref o, .ref x0] = [some (.ref o), some (.ref x0)] := rfl
theorem en_36 (o : Nat) : pEn 36 [.ref o] = [some (.ref o)] := rfl
theorem en_37 (o : Nat) (x0 : Nat) : pEn 37 [.ref o, .ref x0] = [some (.ref o), some (.ref x0), none] := rfl
theorem en_38 (o : Nat) (x0 : Int32) (x1 : Int32) : pEn 38 [.ref o, .int x0, .int x1] = [some (.ref o), some (.int x0), some (.int x1), none] := rfl
theorem en_39 (o : Nat) (x0 : Int32) : pEn 39 [.ref o, .int x0] = [some (.ref o), some (.int x0)] := rfl
theorem en_40 (o : Nat) (x0 : Int32) (x1 : Int32) : pEn 40 [.ref o, .int x0, .int x1] = [some (.ref o), some (.int x0), some (.int x1)] := rfl
theorem en_41 (o : Nat) (x0 : Int32) : pEn 41 [.ref o, .int x0] = [some (.ref o), some (.int x0)] := rfl
theorem en_42 (o : Nat) (x0 : Int32) : pEn 42 [.ref o, .int x0] = [some (.ref o), some (.int x0)] := rfl
theorem en_43 (o : Nat) : pEn 43 [.ref o] = [some (.ref o)] := rfl
theorem en_44 (o : Nat) (x0 : Int32) : pEn 44 [.ref o, .int x0] = [some (.ref o), some (.int x0)] := rfl
theorem en_45 (o : Nat) (x0 : Int32) : pEn 45 [.ref o, .int x0] = [some (.ref o), some (.int x0)] := rfl
theorem en_46 (o : Nat) (x0 : Int32) (x1 : Int32) : pEn 46 [.ref o, .int x0, .int x1] = [some (.ref o), some (.int x0), some (.int x1)] := rfl
theorem en_47 (o : Nat) : pEn 47 [.ref o] = [some (.ref o), none, none] := rfl
theorem en_48 (o : Nat) (x0 : Nat) (x1 : Int32) : pEn 48 [.ref o, .ref x0, .int x1] = [some (.ref o), some (.ref x0), some (.int x1), none, none] := rfl
theorem en_49 (o : Nat) (x0 : Nat) (x1 : Int32) : pEn 49 [.ref o, .ref x0, .int x1] = [some (.ref o), some (.ref x0), some (.int x1), none] := rfl
theorem en_50 (o : Nat) : pEn 50 [.ref o] = [some (.ref o), none, none, none, none] := rfl
theorem en_51 (o : Nat) : pEn 51 [.ref o] = [some (.ref o)] := rfl
theorem en_52 (o : Nat) (x0 : Int32) (x1 : Int32) : pEn 52 [.ref o, .int x0, .int x1] = [some (.ref o), some (.int x0), some (.int x1), none] := rfl
theorem en_53 (o : Nat) (x0 : Int32) (x1 : Int32) : pEn 53 [.ref o, .int x0, .int x1] = [some (.ref o), some (.int x0), some (.int x1)] := rfl
theorem en_54 (o : Nat) (x0 : Int64) : pEn 54 [.ref o, .long x0] = [some (.ref o), some (.long x0), none] := rfl
theorem en_55 (o : Nat) : pEn 55 [.ref o] = [some (.ref o)] := rfl
theorem en_56 (o : Nat) (x0 : Int32) : pEn 56 [.ref o, .int x0] = [some (.ref o), some (.int x0)] := rfl
theorem en_57 (o : Nat) (x0 : Nat) : pEn 57 [.ref o, .ref x0] = [some (.ref o), some (.ref x0), none] := rfl
theorem en_58 (o : Nat) : pEn 58 [.ref o] = [some (.ref o)] := rfl
theorem en_59 (o : Nat) (x0 : Nat) : pEn 59 [.ref o, .ref x0] = [some (.ref o), some (.ref x0), none] := rfl
theorem en_60 (o : Nat) (x0 : Int32) : pEn 60 [.ref o, .int x0] = [some (.ref o), some (.int x0), none] := rfl
theorem en_61 (o : Nat) (x0 : Nat) : pEn 61 [.ref o, .ref x0] = [some (.ref o), some (.ref x0), none, none] := rfl
theorem en_62 (o : Nat) (x0 : Nat) : pEn 62 [.ref o, .ref x0] = [some (.ref o), some (.ref x0), none, none] := rfl
theorem en_63 (o : Nat) (x0 : Nat) : pEn 63 [.ref o, .ref x0] = [some (.ref o), some (.ref x0), none] := rfl
theorem en_64 (o : Nat) (x0 : Nat) : pEn 64 [.ref o, .ref x0] = [some (.ref o), some (.ref x0), none, none] := rfl
theorem en_65 (o : Nat) : pEn 65 [.ref o] = [some (.ref o), none] := rfl
theorem en_66 (o : Nat) (x0 : Int32) (x1 : Int32) : pEn 66 [.ref o, .int x0, .int x1] = [some (.ref o), some (.int x0), some (.int x1), none] := rfl
theorem en_67 (o : Nat) (x0 : Int32) (x1 : Int32) : pEn 67 [.ref o, .int x0, .int x1] = [some (.ref o), some (.int x0), some (.int x1), none] := rfl
theorem en_68 (o : Nat) (x0 : Int32) (x1 : Int32) : pEn 68 [.ref o, .int x0, .int x1] = [some (.ref o), some (.int x0), some (.int x1), none] := rfl
theorem en_69 (o : Nat) (x0 : Int32) (x1 : Int32) : pEn 69 [.ref o, .int x0, .int x1] = [some (.ref o), some (.int x0), some (.int x1), none] := rfl
theorem en_70 (o : Nat) (x0 : Int32) : pEn 70 [.ref o, .int x0] = [some (.ref o), some (.int x0)] := rfl
theorem en_71 (o : Nat) : pEn 71 [.ref o] = [some (.ref o), none] := rfl
theorem en_72 (o : Nat) (x0 : Int32) : pEn 72 [.ref o, .int x0] = [some (.ref o), some (.int x0), none] := rfl
theorem en_73 (o : Nat) (x0 : Int32) : pEn 73 [.ref o, .int x0] = [some (.ref o), some (.int x0)] := rfl
theorem en_74 (o : Nat) (x0 : Int32) : pEn 74 [.ref o, .int x0] = [some (.ref o), some (.int x0)] := rfl
theorem en_75 (o : Nat) (x0 : Int32) (x1 : Int32) : pEn 75 [.ref o, .int x0, .int x1] = [some (.ref o), some (.int x0), some (.int x1), none] := rfl
theorem en_76 (o : Nat) (x0 : Int32) (x1 : Int32) (x2 : Int32) (x3 : Int32) : pEn 76 [.ref o, .int x0, .int x1, .int x2, .int x3] = [some (.ref o), some (.int x0), some (.int x1), some (.int x2), some (.int x3)] := rfl
theorem en_77 (o : Nat) (x0 : Int32) (x1 : Int32) (x2 : Int32) : pEn 77 [.ref o, .int x0, .int x1, .int x2] = [some (.ref o), some (.int x0), some (.int x1), some (.int x2)] := rfl
theorem en_78 (o : Nat) (x0 : Int32) (x1 : Int32) (x2 : Int32) : pEn 78 [.ref o, .int x0, .int x1, .int x2] = [some (.ref o), some (.int x0), some (.int x1), some (.int x2)] := rfl
theorem en_79 (o : Nat) (x0 : Int32) (x1 : Int32) (x2 : Int32) (x3 : Int32) : pEn 79 [.ref o, .int x0, .int x1, .int x2, .int x3] = [some (.ref o), some (.int x0), some (.int x1), some (.int x2), some (.int x3)] := rfl
theorem en_80 (o : Nat) (x0 : Int32) (x1 : Int32) : pEn 80 [.ref o, .int x0, .int x1] = [some (.ref o), some (.int x0), some (.int x1), none] := rfl
theorem en_81 (o : Nat) : pEn 81 [.ref o] = [some (.ref o), none] := rfl
theorem en_82 (o : Nat) (x0 : Int32) : pEn 82 [.ref o, .int x0] = [some (.ref o), some (.int x0)] := rfl
theorem en_83 (o : Nat) (x0 : Int32) (x1 : Int32) : pEn 83 [.ref o, .int x0, .int x1] = [some (.ref o), some (.int x0), some (.int x1), none, none, none, none, none, none, none, none] := rfl
theorem en_84 (o : Nat) (x0 : Int32) (x1 : Int32) : pEn 84 [.ref o, .int x0, .int x1] = [some (.ref o), some (.int x0), some (.int x1), none] := rfl
theorem en_85 (o : Nat) (x0 : Int32) (x1 : Int32) (x2 : Int32) : pEn 85 [.ref o, .int x0, .int x1, .int x2] = [some (.ref o), some (.int x0), some (.int x1), some (.int x2)] := rfl
theorem en_86 (o : Nat) (x0 : Int32) (x1 : Int32) : pEn 86 [.ref o, .int x0, .int x1] = [some (.ref o), some (.int x0), some (.int x1)] := rfl
theorem en_87 (o : Nat) (x0 : Int32) (x1 : Int32) : pEn 87 [.ref o, .int x0, .int x1] = [some (.ref o), some (.int x0), some (.int x1), none, none] := rfl
theorem en_88 (o : Nat) (x0 : Int32) (x1 : Int32) (x2 : Int32) : pEn 88 [.ref o, .int x0, .int x1, .int x2] = [some (.ref o), some (.int x0), some (.int x1), some (.int x2)] := rfl
theorem en_89 (o : Nat) (x0 : Int32) (x1 : Int32) : pEn 89 [.ref o, .int x0, .int x1] = [some (.ref o), some (.int x0), some (.int x1)] := rfl
theorem en_90 (o : Nat) : pEn 90 [.ref o] = [some (.ref o), none] := rfl
theorem en_91 (o : Nat) (x0 : Int32) (x1 : Int32) : pEn 91 [.ref o, .int x0, .int x1] = [some (.ref o), some (.int x0), some (.int x1)] := rfl
theorem en_92 (o : Nat) (x0 : Int32) (x1 : Int32) : pEn 92 [.ref o, .int x0, .int x1] = [some (.ref o), some (.int x0), some (.int x1), none, none, none, none, none] := rfl
theorem en_93 (o : Nat) (x0 : Int32) : pEn 93 [.ref o, .int x0] = [some (.ref o), some (.int x0), none, none, none] := rfl
theorem en_94 (o : Nat) (x0 : Int32) : pEn 94 [.ref o, .int x0] = [some (.ref o), some (.int x0)] := rfl
theorem en_95 (o : Nat) (x0 : Int32) : pEn 95 [.ref o, .int x0] = [some (.ref o), some (.int x0)] := rfl
theorem en_96 (o : Nat) (x0 : Int64) (x1 : Int64) : pEn 96 [.ref o, .long x0, .long x1] = [some (.ref o), some (.long x0), none, some (.long x1), none, none, none, none, none, none] := rfl
theorem en_97 (o : Nat) (x0 : Int32) (x1 : Int32) : pEn 97 [.ref o, .int x0, .int x1] = [some (.ref o), some (.int x0), some (.int x1)] := rfl
theorem en_98 (o : Nat) (x0 : Int32) : pEn 98 [.ref o, .int x0] = [some (.ref o), some (.int x0), none, none, none, none, none] := rfl
theorem en_99 (o : Nat) (x0 : Int32) (x1 : Int32) (x2 : Int32) (x3 : Int32) : pEn 99 [.ref o, .int x0, .int x1, .int x2, .int x3] = [some (.ref o), some (.int x0), some (.int x1), some (.int x2), some (.int x3), none, none, none, none, none] := rfl
theorem en_100 (o : Nat) (x0 : Int32) (x1 : Int32) : pEn 100 [.ref o, .int x0, .int x1] = [some (.ref o), some (.int x0), some (.int x1)] := rfl
theorem en_101 (o : Nat) (x0 : Int32) : pEn 101 [.ref o, .int x0] = [some (.ref o), some (.int x0), none, none] := rfl
theorem en_102 (o : Nat) (x0 : Int32) (x1 : Int32) (x2 : Int32) : pEn 102 [.ref o, .int x0, .int x1, .int x2] = [some (.ref o), some (.int x0), some (.int x1), some (.int x2), none, none, none] := rfl
theorem en_103 (o : Nat) : pEn 103 [.ref o] = [some (.ref o)] := rfl
theorem en_104 (o : Nat) : pEn 104 [.ref o] = [some (.ref o)] := rfl
theorem en_105 (o : Nat) (x0 : Int32) : pEn 105 [.ref o, .int x0] = [some (.ref o), some (.int x0)] := rfl
theorem en_106 (o : Nat) (x0 : Int32) : pEn 106 [.ref o, .int x0] = [some (.ref o), some (.int x0)] := rfl
theorem en_107 (o : Nat) (x0 : Int32) (x1 : Int32) (x2 : Int32) : pEn 107 [.ref o, .int x0, .int x1, .int x2] = [some (.ref o), some (.int x0), some (.int x1), some (.int x2), none] := rfl
theorem en_108 (o : Nat) (x0 : Int32) (x1 : Int32) (x2 : Int64) : pEn 108 [.ref o, .int x0, .int x1, .long x2] = [some (.ref o), some (.int x0), some (.int x1), some (.long x2), none, none] := rfl
theorem en_109 (o : Nat) (x0 : Int32) (x1 : Int32) : pEn 109 [.ref o, .int x0, .int x1] = [some (.ref o), some (.int x0), some (.int x1), none] := rfl
theorem en_110 (o : Nat) (x0 : Int32) (x1 : Int32) (x2 : Int32) (x3 : Int32) (x4 : Int32) : pEn 110 [.ref o, .int x0, .int x1, .int x2, .int x3, .int x4] = [some (.ref o), some (.int x0), some (.int x1), some (.int x2), some (.int x3), some (.int x4), none, none] := rfl
theorem en_111 (x0 : Int32) (x1 : Int32) (x2 : Int32) : pEn 111 [.int x0, .int x1, .int x2] = [some (.int x0), some (.int x1), some (.int x2)] := rfl
theorem en_112 (x0 : Int64) : pEn 112 [.long x0] = [some (.long x0), none] := rfl
theorem en_113 (x0 : Int64) (x1 : Int32) : pEn 113 [.long x0, .int x1] = [some (.long x0), none, some (.int x1)] := rfl
theorem en_114 (x0 : Int64) (x1 : Int64) (x2 : Int32) : pEn 114 [.long x0, .long x1, .int x2] = [some (.long x0), none, some (.long x1), none, some (.int x2), none, none] := rfl
theorem en_115 (x0 : Int64) (x1 : Int64) : pEn 115 [.long x0, .long x1] = [some (.long x0), none, some (.long x1), none, none, none, none] := rfl
theorem en_116 (o : Nat) (x0 : Int32) (x1 : Int32) : pEn 116 [.ref o, .int x0, .int x1] = [some (.ref o), some (.int x0), some (.int x1)] := rfl
theorem en_117 (o : Nat) (x0 : Int32) : pEn 117 [.ref o, .int x0] = [some (.ref o), some (.int x0)] := rfl
theorem en_118 (o : Nat) (x0 : Int64) : pEn 118 [.ref o, .long x0] = [some (.ref o), some (.long x0), none] := rfl
theorem en_119 (o : Nat) (x0 : Int32) (x1 : Int32) : pEn 119 [.ref o, .int x0, .int x1] = [some (.ref o), some (.int x0), some (.int x1)] := rfl
theorem en_120 (o : Nat) (x0 : Int32) : pEn 120 [.ref o, .int x0] = [some (.ref o), some (.int x0)] := rfl
theorem en_121 (o : Nat) : pEn 121 [.ref o] = [some (.ref o), none] := rfl
theorem en_122 (x0 : Int64) (x1 : Int64) (x2 : Int64) : pEn 122 [.long x0, .long x1, .long x2] = [some (.long x0), none, some (.long x1), none, some (.long x2), none] := rfl
theorem en_123 (o : Nat) (x0 : Int32) : pEn 123 [.ref o, .int x0] = [some (.ref o), some (.int x0)] := rfl
theorem en_124 (o : Nat) (x0 : Int32) (x1 : Int32) : pEn 124 [.ref o, .int x0, .int x1] = [some (.ref o), some (.int x0), some (.int x1)] := rfl
theorem en_125 (o : Nat) : pEn 125 [.ref o] = [some (.ref o)] := rfl
theorem en_126 (o : Nat) (x0 : Int32) (x1 : Int32) : pEn 126 [.ref o, .int x0, .int x1] = [some (.ref o), some (.int x0), some (.int x1), none, none] := rfl
theorem en_127 (o : Nat) (x0 : Int32) : pEn 127 [.ref o, .int x0] = [some (.ref o), some (.int x0)] := rfl
theorem en_128 (o : Nat) (x0 : Int32) (x1 : Int32) : pEn 128 [.ref o, .int x0, .int x1] = [some (.ref o), some (.int x0), some (.int x1), none, none] := rfl
theorem en_129 (o : Nat) (x0 : Int32) (x1 : Int32) : pEn 129 [.ref o, .int x0, .int x1] = [some (.ref o), some (.int x0), some (.int x1), none] := rfl
theorem en_130 (o : Nat) (x0 : Int32) (x1 : Int32) : pEn 130 [.ref o, .int x0, .int x1] = [some (.ref o), some (.int x0), some (.int x1), none] := rfl
theorem en_131 (o : Nat) (x0 : Int32) : pEn 131 [.ref o, .int x0] = [some (.ref o), some (.int x0), none, none] := rfl
theorem en_132 (o : Nat) (x0 : Int32) : pEn 132 [.ref o, .int x0] = [some (.ref o), some (.int x0), none, none] := rfl
theorem en_133 (o : Nat) (x0 : Int32) : pEn 133 [.ref o, .int x0] = [some (.ref o), some (.int x0)] := rfl
theorem en_134 (o : Nat) (x0 : Int32) : pEn 134 [.ref o, .int x0] = [some (.ref o), some (.int x0)] := rfl
theorem en_135 (o : Nat) : pEn 135 [.ref o] = [some (.ref o)] := rfl
theorem en_136 (o : Nat) (x0 : Int32) : pEn 136 [.ref o, .int x0] = [some (.ref o), some (.int x0)] := rfl
theorem en_137 (o : Nat) : pEn 137 [.ref o] = [some (.ref o), none, none] := rfl
theorem en_138 (o : Nat) : pEn 138 [.ref o] = [some (.ref o), none, none] := rfl
theorem en_139 (o : Nat) : pEn 139 [.ref o] = [some (.ref o), none, none, none] := rfl
theorem en_140 (o : Nat) (x0 : Int32) (x1 : Int32) (x2 : Int32) : pEn 140 [.ref o, .int x0, .int x1, .int x2] = [some (.ref o), some (.int x0), some (.int x1), some (.int x2), none] := rfl
theorem en_141 (o : Nat) (x0 : Int32) (x1 : Int32) (x2 : Int32) : pEn 141 [.ref o, .int x0, .int x1, .int x2] = [some (.ref o), some (.int x0), some (.int x1), some (.int x2)] := rfl
theorem en_142 (o : Nat) (x0 : Int32) (x1 : Int32) (x2 : Int32) : pEn 142 [.ref o, .int x0, .int x1, .int x2] = [some (.ref o), some (.int x0), some (.int x1), some (.int x2), none] := rfl
theorem en_143 (o : Nat) (x0 : Int32) (x1 : Int32) : pEn 143 [.ref o, .int x0, .int x1] = [some (.ref o), some (.int x0), some (.int x1), none, none, none] := rfl
theorem en_144 (o : Nat) (x0 : Int32) (x1 : Int32) (x2 : Int32) : pEn 144 [.ref o, .int x0, .int x1, .int x2] = [some (.ref o), some (.int x0), some (.int x1), some (.int x2), none, none] := rfl
theorem en_145 (x0 : Int64) (x1 : Int64) : pEn 145 [.long x0, .long x1] = [some (.long x0), none, some (.long x1), none, none, none, none, none, none, none] := rfl
theorem en_146 (x0 : Int64) (x1 : Int64) (x2 : Int32) : pEn 146 [.long x0, .long x1, .int x2] = [some (.long x0), none, some (.long x1), none, some (.int x2), none, none] := rfl
theorem en_147 (x0 : Int32) : pEn 147 [.int x0] = [some (.int x0)] := rfl
theorem en_148 (o : Nat) (x0 : Int32) (x1 : Int32) (x2 : Int32) (x3 : Int32) : pEn 148 [.ref o, .int x0, .int x1, .int x2, .int x3] = [some (.ref o), some (.int x0), some (.int x1), some (.int x2), some (.int x3)] := rfl
theorem en_149 (o : Nat) (x0 : Int32) (x1 : Int32) (x2 : Int32) : pEn 149 [.ref o, .int x0, .int x1, .int x2] = [some (.ref o), some (.int x0), some (.int x1), some (.int x2)] := rfl
theorem en_150 (o : Nat) (x0 : Int32) : pEn 150 [.ref o, .int x0] = [some (.ref o), some (.int x0), none, none, none, none, none, none, none, none, none] := rfl
theorem en_151 (o : Nat) : pEn 151 [.ref o] = [some (.ref o), none, none, none, none] := rfl
theorem en_152 (o : Nat) (x0 : Int32) (x1 : Int32) : pEn 152 [.ref o, .int x0, .int x1] = [some (.ref o), some (.int x0), some (.int x1), none, none, none] := rfl
theorem en_153 (o : Nat) : pEn 153 [.ref o] = [some (.ref o)] := rfl
theorem en_154 (o : Nat) (x0 : Int32) : pEn 154 [.ref o, .int x0] = [some (.ref o), some (.int x0), none, none, none] := rfl
theorem en_155 (o : Nat) : pEn 155 [.ref o] = [some (.ref o), none, none] := rfl
theorem en_156 (o : Nat) : pEn 156 [.ref o] = [some (.ref o), none] := rfl
theorem en_157 (o : Nat) (x0 : Int32) : pEn 157 [.ref o, .int x0] = [some (.ref o), some (.int x0), none] := rfl
theorem en_158 (o : Nat) (x0 : Int32) (x1 : Int32) : pEn 158 [.ref o, .int x0, .int x1] = [some (.ref o), some (.int x0), some (.int x1)] := rfl
theorem en_159 (o : Nat) (x0 : Int32) (x1 : Int32) (x2 : Int32) : pEn 159 [.ref o, .int x0, .int x1, .int x2] = [some (.ref o), some (.int x0), some (.int x1), some (.int x2)] := rfl
theorem en_160 (o : Nat) (x0 : Int32) (x1 : Int32) (x2 : Int32) (x3 : Int32) : pEn 160 [.ref o, .int x0, .int x1, .int x2, .int x3] = [some (.ref o), some (.int x0), some (.int x1), some (.int x2), some (.int x3)] := rfl
theorem en_161 (o : Nat) (x0 : Int32) (x1 : Int32) : pEn 161 [.ref o, .int x0, .int x1] = [some (.ref o), some (.int x0), some (.int x1)] := rfl
theorem en_162 (o : Nat) : pEn 162 [.ref o] = [some (.ref o), none, none] := rfl
theorem en_163 (o : Nat) (x0 : Int32) : pEn 163 [.ref o, .int x0] = [some (.ref o), some (.int x0), none, none] := rfl
theorem en_164 (o : Nat) (x0 : Int32) (x1 : Int32) : pEn 164 [.ref o, .int x0, .int x1] = [some (.ref o), some (.int x0), some (.int x1), none, none, none, none, none, none, none, none, none, none, none, none, none, none, none, none] := rfl
theorem en_165 (o : Nat) : pEn 165 [.ref o] = [some (.ref o), none, none, none] := rfl
theorem en_166 (o : Nat) (x0 : Int32) : pEn 166 [.ref o, .int x0] = [some (.ref o), some (.int x0), none, none] := rfl
theorem en_167 (o : Nat) : pEn 167 [.ref o] = [some (.ref o), none, none] := rfl
theorem en_168 (o : Nat) (x0 : Int32) : pEn 168 [.ref o, .int x0] = [some (.ref o), some (.int x0), none, none, none] := rfl
theorem en_169 (o : Nat) (x0 : Int32) (x1 : Int32) : pEn 169 [.ref o, .int x0, .int x1] = [some (.ref o), some (.int x0), some (.int x1)] := rfl
theorem en_170 (o : Nat) (x0 : Int32) (x1 : Int32) : pEn 170 [.ref o, .int x0, .int x1] = [some (.ref o), some (.int x0), some (.int x1), none, none, none, none, none] := rfl
theorem en_171 (o : Nat) : pEn 171 [.ref o] = [some (.ref o), none, none] := rfl
theorem en_172 (o : Nat) : pEn 172 [.ref o] = [some (.ref o)] := rfl
theorem en_173 (o : Nat) (x0 : Int32) (x1 : Int32) (x2 : Int32) : pEn 173 [.ref o, .int x0, .int x1, .int x2] = [some (.ref o), some (.int x0), some (.int x1), some (.int x2)] := rfl
theorem en_174 (o : Nat) (x0 : Int32) (x1 : Int32) : pEn 174 [.ref o, .int x0, .int x1] = [some (.ref o), some (.int x0), some (.int x1), none, none, none] := rfl
theorem en_175 (o : Nat) (x0 : Int32) : pEn 175 [.ref o, .int x0] = [some (.ref o), some (.int x0), none, none, none] := rfl
theorem en_176 (o : Nat) (x0 : Int32) (x1 : Int32) : pEn 176 [.ref o, .int x0, .int x1] = [some (.ref o), some (.int x0), some (.int x1)] := rfl
theorem en_177 (o : Nat) (x0 : Int32) (x1 : Int32) (x2 : Int32) (x3 : Int64) : pEn 177 [.ref o, .int x0, .int x1, .int x2, .long x3] = [some (.ref o), some (.int x0), some (.int x1), some (.int x2), some (.long x3), none, none, none, none] := rfl
theorem en_178 (o : Nat) (x0 : Int32) : pEn 178 [.ref o, .int x0] = [some (.ref o), some (.int x0), none, none, none] := rfl
theorem en_179 (o : Nat) (x0 : Int32) : pEn 179 [.ref o, .int x0] = [some (.ref o), some (.int x0), none, none, none, none, none, none] := rfl
theorem en_180 (o : Nat) (x0 : Int32) (x1 : Int32) (x2 : Int32) : pEn 180 [.ref o, .int x0, .int x1, .int x2] = [some (.ref o), some (.int x0), some (.int x1), some (.int x2)] := rfl
theorem en_181 (o : Nat) (x0 : Int32) (x1 : Int32) : pEn 181 [.ref o, .int x0, .int x1] = [some (.ref o), some (.int x0), some (.int x1)] := rfl
theorem en_182 (o : Nat) : pEn 182 [.ref o] = [some (.ref o), none, none, none, none] := rfl
theorem en_183 (o : Nat) (x0 : Int32) (x1 : Int32) : pEn 183 [.ref o, .int x0, .int x1] = [some (.ref o), some (.int x0), some (.int x1)] := rfl
theorem en_184 (o : Nat) : pEn 184 [.ref o] = [some (.ref o), none, none, none] := rfl
theorem en_185 (o : Nat) (x0 : Int32) (x1 : Int32) : pEn 185 [.ref o, .int x0, .int x1] = [some (.ref o), some (.int x0), some (.int x1), none, none, none, none, none, none] := rfl
theorem en_186 (o : Nat) (x0 : Int32) : pEn 186 [.ref o, .int x0] = [some (.ref o), some (.int x0)] := rfl
theorem en_187 (o : Nat) : pEn 187 [.ref o] = [some (.ref o), none, none, none] := rfl
theorem en_188 (o : Nat) (x0 : Int32) (x1 : Int32) (x2 : Int32) : pEn 188 [.ref o, .int x0, .int x1, .int x2] = [some (.ref o), some (.int x0), some (.int x1), some (.int x2), none] := rfl
theorem en_189 (o : Nat) (x0 : Int32) : pEn 189 [.ref o, .int x0] = [some (.ref o), some (.int x0), none, none, none, none, none, none, none] := rfl
theorem en_190 (x0 : Int64) : pEn 190 [.long x0] = [some (.long x0), none] := rfl
theorem en_191 (o : Nat) (x0 : Int32) : pEn 191 [.ref o, .int x0] = [some (.ref o), some (.int x0), none, none] := rfl
theorem en_192 (o : Nat) (x0 : Int32) : pEn 192 [.ref o, .int x0] = [some (.ref o), some (.int x0), none, none] := rfl
theorem en_193 (o : Nat) (x0 : Int64) (x1 : Int64) : pEn 193 [.ref o, .long x0, .long x1] = [some (.ref o), some (.long x0), none, some (.long x1), none, none, none, none, none, none, none, none, none] := rfl
theorem en_194 (o : Nat) (x0 : Int32) (x1 : Int32) : pEn 194 [.ref o, .int x0, .int x1] = [some (.ref o), some (.int x0), some (.int x1)] := rfl
theorem en_195 (o : Nat) (x0 : Int32) : pEn 195 [.ref o, .int x0] = [some (.ref o), some (.int x0), none, none, none, none, none] := rfl
theorem en_196 (o : Nat) (x0 : Int32) (x1 : Int32) (x2 : Int32) (x3 : Int32) : pEn 196 [.ref o, .int x0, .int x1, .int x2, .int x3] = [some (.ref o), some (.int x0), some (.int x1), some (.int x2), some (.int x3), none, none, none, none, none, none, none] := rfl
theorem en_197 (o : Nat) (x0 : Int32) (x1 : Int32) : pEn 197 [.ref o, .int x0, .int x1] = [some (.ref o), some (.int x0), some (.int x1)] := rfl
theorem en_198 (o : Nat) (x0 : Int32) : pEn 198 [.ref o, .int x0] = [some (.ref o), some (.int x0), none, none, none, none] := rfl
theorem en_199 (x0 : Int32) : pEn 199 [.int x0] = [some (.int x0)] := rfl
theorem en_200 (x0 : Int64) (x1 : Int32) : pEn 200 [.long x0, .int x1] = [some (.long x0), none, some (.int x1)] := rfl
theorem en_201 (o : Nat) (x0 : Int32) (x1 : Int32) (x2 : Int32) : pEn 201 [.ref o, .int x0, .int x1, .int x2] = [some (.ref o), some (.int x0), some (.int x1), some (.int x2), none] := rfl
theorem en_202 (o : Nat) (x0 : Int32) (x1 : Int32) (x2 : Int64) : pEn 202 [.ref o, .int x0, .int x1, .long x2] = [some (.ref o), some (.int x0), some (.int x1), some (.long x2), none] := rfl
theorem en_203 (o : Nat) (x0 : Int32) (x1 : Int32) : pEn 203 [.ref o, .int x0, .int x1] = [some (.ref o), some (.int x0), some (.int x1)] := rfl
theorem en_204 (o : Nat) (x0 : Int32) (x1 : Int32) (x2 : Int32) (x3 : Int32) (x4 : Int32) : pEn 204 [.ref o, .int x0, .int x1, .int x2, .int x3, .int x4] = [some (.ref o), some (.int x0), some (.int x1), some (.int x2), some (.int x3), some (.int x4), none] := rfl
theorem en_205 (o : Nat) (x0 : Int32) (x1 : Int32) (x2 : Int32) : pEn 205 [.ref o, .int x0, .int x1, .int x2] = [some (.ref o), some (.int x0), some (.int x1), some (.int x2), none] := rfl
theorem en_206 (o : Nat) : pEn 206 [.ref o] = [some (.ref o), none] := rfl
theorem en_207 (o : Nat) : pEn 207 [.ref o] = [some (.ref o), none] := rfl
theorem en_208 (o : Nat) (x0 : Int32) : pEn 208 [.ref o, .int x0] = [some (.ref o), some (.int x0)] := rfl
theorem en_209 (o : Nat) (x0 : Int32) : pEn 209 [.ref o, .int x0] = [some (.ref o), some (.int x0)] := rfl
