/-! THE TABLES ARE TRUE: the code rows are what the bytes decode to, the links are words of the tables. -/
def kT : List Cond := lw_tbl.filter goodWord
def kw (i : Nat) (w : Cond) : Bool := decide (lw_tbl[i]? = some w) && goodWord w
theorem kw_in {i : Nat} {w : Cond} (h : kw i w = true) : w ∈ kT := by
  simp only [kw, Bool.and_eq_true, decide_eq_true_eq] at h
  exact List.mem_filter.mpr ⟨List.mem_of_getElem? h.1, h.2⟩
theorem kT_good {w : Cond} (h : w ∈ kT) : goodWord w = true := (List.mem_filter.mp h).2
theorem kT_tbl {w : Cond} (h : w ∈ kT) : w ∈ lw_tbl := (List.mem_filter.mp h).1
def kln (i : Instr) : Nat := match i with
  | .bipush _ => 2
  | .ldc _ => 2
  | .iload _ => 2
  | .lload _ => 2
  | .aload _ => 2
  | .istore _ => 2
  | .lstore _ => 2
  | .astore _ => 2
  | .newarray _ => 2
  | .sipush _ => 3
  | .ldc_w _ => 3
  | .ldc2_w _ => 3
  | .iinc _ _ => 3
  | .goto _ => 3
  | .if_icmp _ _ => 3
  | .ifCond _ _ => 3
  | .getfield _ => 3
  | .putfield _ => 3
  | .getstatic _ => 3
  | .new _ => 3
  | .anewarray _ => 3
  | .invokestatic _ => 3
  | .invokevirtual _ => 3
  | .invokespecial _ => 3
  | _ => 1
def klenok (i : Instr) (n : Nat) : Bool := match i with
  | .tableswitch _ _ _ _ => true
  | i => Nat.beq n (kln i)
def kck (m pc : Nat) : Bool := match kcodeT m pc with
  | none => true
  | some c => decide (decode (kby m) pc = .ok (c.1, c.2)) && klenok c.1 c.2
def kckm (m : Nat) : Bool := (List.range (kcl m)).all (kck m)
theorem kck_0 : kckm 0 = true := by decide +kernel
theorem kck_1 : kckm 1 = true := by decide +kernel
theorem kck_2 : kckm 2 = true := by decide +kernel
theorem kck_3 : kckm 3 = true := by decide +kernel
theorem kck_4 : kckm 4 = true := by decide +kernel
theorem kck_5 : kckm 5 = true := by decide +kernel
theorem kck_6 : kckm 6 = true := by decide +kernel
theorem kck_7 : kckm 7 = true := by decide +kernel
theorem kck_8 : kckm 8 = true := by decide +kernel
theorem kck_9 : kckm 9 = true := by decide +kernel
theorem kck_10 : kckm 10 = true := by decide +kernel
theorem kck_11 : kckm 11 = true := by decide +kernel
theorem kck_12 : kckm 12 = true := by decide +kernel
theorem kck_13 : kckm 13 = true := by decide +kernel
theorem kck_14 : kckm 14 = true := by decide +kernel
theorem kck_15 : kckm 15 = true := by decide +kernel
theorem kck_16 : kckm 16 = true := by decide +kernel
theorem kck_17 : kckm 17 = true := by decide +kernel
theorem kck_18 : kckm 18 = true := by decide +kernel
theorem kck_19 : kckm 19 = true := by decide +kernel
theorem kck_20 : kckm 20 = true := by decide +kernel
theorem kck_21 : kckm 21 = true := by decide +kernel
theorem kck_22 : kckm 22 = true := by decide +kernel
theorem kck_23 : kckm 23 = true := by decide +kernel
theorem kck_24 : kckm 24 = true := by decide +kernel
theorem kck_25 : kckm 25 = true := by decide +kernel
theorem kck_26 : kckm 26 = true := by decide +kernel
theorem kck_27 : kckm 27 = true := by decide +kernel
theorem kck_28 : kckm 28 = true := by decide +kernel
theorem kck_29 : kckm 29 = true := by decide +kernel
theorem kck_30 : kckm 30 = true := by decide +kernel
theorem kck_31 : kckm 31 = true := by decide +kernel
theorem kck_32 : kckm 32 = true := by decide +kernel
theorem kck_33 : kckm 33 = true := by decide +kernel
theorem kck_34 : kckm 34 = true := by decide +kernel
theorem kck_35 : kckm 35 = true := by decide +kernel
theorem kck_36 : kckm 36 = true := by decide +kernel
theorem kck_37 : kckm 37 = true := by decide +kernel
theorem kck_38 : kckm 38 = true := by decide +kernel
theorem kck_39 : kckm 39 = true := by decide +kernel
theorem kck_40 : kckm 40 = true := by decide +kernel
theorem kck_41 : kckm 41 = true := by decide +kernel
theorem kck_42 : kckm 42 = true := by decide +kernel
theorem kck_43 : kckm 43 = true := by decide +kernel
theorem kck_44 : kckm 44 = true := by decide +kernel
theorem kck_45 : kckm 45 = true := by decide +kernel
theorem kck_46 : kckm 46 = true := by decide +kernel
theorem kck_47 : kckm 47 = true := by decide +kernel
theorem kck_48 : kckm 48 = true := by decide +kernel
theorem kck_49 : kckm 49 = true := by decide +kernel
theorem kck_50 : kckm 50 = true := by decide +kernel
theorem kck_51 : kckm 51 = true := by decide +kernel
theorem kck_52 : kckm 52 = true := by decide +kernel
theorem kck_53 : kckm 53 = true := by decide +kernel
theorem kck_54 : kckm 54 = true := by decide +kernel
theorem kck_55 : kckm 55 = true := by decide +kernel
theorem kck_56 : kckm 56 = true := by decide +kernel
theorem kck_57 : kckm 57 = true := by decide +kernel
theorem kck_58 : kckm 58 = true := by decide +kernel
theorem kck_59 : kckm 59 = true := by decide +kernel
theorem kck_60 : kckm 60 = true := by decide +kernel
theorem kck_61 : kckm 61 = true := by decide +kernel
theorem kck_62 : kckm 62 = true := by decide +kernel
theorem kck_63 : kckm 63 = true := by decide +kernel
theorem kck_64 : kckm 64 = true := by decide +kernel
theorem kck_65 : kckm 65 = true := by decide +kernel
theorem kck_66 : kckm 66 = true := by decide +kernel
theorem kck_67 : kckm 67 = true := by decide +kernel
theorem kck_68 : kckm 68 = true := by decide +kernel
theorem kck_69 : kckm 69 = true := by decide +kernel
theorem kck_70 : kckm 70 = true := by decide +kernel
theorem kck_71 : kckm 71 = true := by decide +kernel
theorem kck_72 : kckm 72 = true := by decide +kernel
theorem kck_73 : kckm 73 = true := by decide +kernel
theorem kck_74 : kckm 74 = true := by decide +kernel
theorem kck_75 : kckm 75 = true := by decide +kernel
theorem kck_76 : kckm 76 = true := by decide +kernel
theorem kck_77 : kckm 77 = true := by decide +kernel
theorem kck_78 : kckm 78 = true := by decide +kernel
theorem kck_79 : kckm 79 = true := by decide +kernel
theorem kck_80 : kckm 80 = true := by decide +kernel
theorem kck_81 : kckm 81 = true := by decide +kernel
theorem kck_82 : kckm 82 = true := by decide +kernel
theorem kck_83 : kckm 83 = true := by decide +kernel
theorem kck_84 : kckm 84 = true := by decide +kernel
theorem kck_85 : kckm 85 = true := by decide +kernel
theorem kck_86 : kckm 86 = true := by decide +kernel
theorem kck_87 : kckm 87 = true := by decide +kernel
theorem kck_88 : kckm 88 = true := by decide +kernel
theorem kck_89 : kckm 89 = true := by decide +kernel
theorem kck_90 : kckm 90 = true := by decide +kernel
theorem kck_91 : kckm 91 = true := by decide +kernel
theorem kck_92 : kckm 92 = true := by decide +kernel
theorem kck_93 : kckm 93 = true := by decide +kernel
theorem kck_94 : kckm 94 = true := by decide +kernel
theorem kck_95 : kckm 95 = true := by decide +kernel
theorem kck_96 : kckm 96 = true := by decide +kernel
theorem kck_97 : kckm 97 = true := by decide +kernel
theorem kck_98 : kckm 98 = true := by decide +kernel
theorem kck_99 : kckm 99 = true := by decide +kernel
theorem kck_100 : kckm 100 = true := by decide +kernel
theorem kck_101 : kckm 101 = true := by decide +kernel
theorem kck_102 : kckm 102 = true := by decide +kernel
theorem kck_103 : kckm 103 = true := by decide +kernel
theorem kck_104 : kckm 104 = true := by decide +kernel
theorem kck_105 : kckm 105 = true := by decide +kernel
theorem kck_106 : kckm 106 = true := by decide +kernel
theorem kck_107 : kckm 107 = true := by decide +kernel
theorem kck_108 : kckm 108 = true := by decide +kernel
theorem kck_109 : kckm 109 = true := by decide +kernel
theorem kck_110 : kckm 110 = true := by decide +kernel
theorem kck_111 : kckm 111 = true := by decide +kernel
theorem kck_112 : kckm 112 = true := by decide +kernel
theorem kck_113 : kckm 113 = true := by decide +kernel
theorem kck_114 : kckm 114 = true := by decide +kernel
theorem kck_115 : kckm 115 = true := by decide +kernel
theorem kck_116 : kckm 116 = true := by decide +kernel
theorem kck_117 : kckm 117 = true := by decide +kernel
theorem kck_118 : kckm 118 = true := by decide +kernel
theorem kck_119 : kckm 119 = true := by decide +kernel
theorem kck_120 : kckm 120 = true := by decide +kernel
theorem kck_121 : kckm 121 = true := by decide +kernel
theorem kck_122 : kckm 122 = true := by decide +kernel
theorem kck_123 : kckm 123 = true := by decide +kernel
theorem kck_124 : kckm 124 = true := by decide +kernel
theorem kck_125 : kckm 125 = true := by decide +kernel
theorem kck_126 : kckm 126 = true := by decide +kernel
theorem kck_127 : kckm 127 = true := by decide +kernel
theorem kck_128 : kckm 128 = true := by decide +kernel
theorem kck_129 : kckm 129 = true := by decide +kernel
