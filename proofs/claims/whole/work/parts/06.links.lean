def lt {α β : Type} (x : α) (f : α → β) : β := f x
def fu : Nat := 1000
def isV (d : Nat) : Prop := d = 13 ∨ d = 31
def isD (d : Nat) : Prop := d = 13 ∨ d = 31 ∨ d = 51 ∨ d = 56 ∨ d = 61 ∨ d = 66
theorem isV_D {d : Nat} (h : isV d) : isD d := by rcases h with h | h <;> simp [isD, h]
theorem isV_13 : isV 13 := Or.inl rfl
theorem isV_31 : isV 31 := Or.inr rfl
theorem isD_13 : isD 13 := Or.inl rfl
theorem isD_31 : isD 31 := Or.inr (Or.inl rfl)
theorem isD_ver {i : Int32} (h : inb i 4 = true) : isD (51 + 5 * ix i) := by
  simp only [inb, Bool.and_eq_true, decide_eq_true_eq] at h
  have h1 := h.2
  unfold isD
  omega
def cpk (sp dp n : Int32) (n0 n1 : Nat) : Bool := decide (0 ≤ sp) && decide (0 ≤ dp) && decide (0 ≤ n) && decide (ix sp + ix n ≤ n0) && decide (ix dp + ix n ≤ n1)
theorem cpk_ok {sp dp n : Int32} {n0 n1 : Nat} (h : cpk sp dp n n0 n1 = true) : (¬ sp < 0) ∧ (¬ dp < 0) ∧ (¬ n < 0) ∧ sp.toNatClampNeg + n.toNatClampNeg ≤ n0 ∧ dp.toNatClampNeg + n.toNatClampNeg ≤ n1 := by
  simp only [cpk, Bool.and_eq_true, decide_eq_true_eq] at h
  obtain ⟨⟨⟨⟨h1, h2⟩, h3⟩, h4⟩, h5⟩ := h
  exact ⟨Int32.not_lt.mpr h1, Int32.not_lt.mpr h2, Int32.not_lt.mpr h3, h4, h5⟩
theorem sh_0 : sh 0 = .inr (7, LX7) := rfl
theorem sh_1 : sh 1 = .inr (4, LX4) := rfl
theorem sh_10 : sh 10 = .inr (0, LX0) := rfl
theorem sh_13 : sh 13 = .inr (1, LX1 13) := rfl
theorem sh_18 : sh 18 = .inr (6, LX6 13) := rfl
theorem sh_31 : sh 31 = .inr (1, LX1 31) := rfl
theorem sh_36 : sh 36 = .inr (6, LX6 31) := rfl
theorem sh_71 : sh 71 = .inr (3, LX3) := rfl
theorem sh_75 : sh 75 = .inr (2, LX2) := rfl
theorem sh_79 : sh 79 = .inr (5, LX5) := rfl
theorem sh_82 : sh 82 = .inr (8, LX8) := rfl
theorem sh_2 : sh 2 = .inl (0, 24) := rfl
theorem sh_3 : sh 3 = .inl (0, 24) := rfl
theorem sh_4 : sh 4 = .inl (0, 24) := rfl
theorem sh_5 : sh 5 = .inl (0, 24) := rfl
theorem sh_6 : sh 6 = .inl (0, 24) := rfl
theorem sh_7 : sh 7 = .inl (0, 96) := rfl
theorem sh_8 : sh 8 = .inl (0, 96) := rfl
theorem sh_9 : sh 9 = .inl (0, 96) := rfl
theorem sh_11 : sh 11 = .inl (0, 100) := rfl
theorem sh_12 : sh 12 = .inl (0, 100) := rfl
theorem sh_14 : sh 14 = .inl (0, 205) := rfl
theorem sh_15 : sh 15 = .inl (0, 41) := rfl
theorem sh_16 : sh 16 = .inl (0, 24) := rfl
theorem sh_17 : sh 17 = .inl (0, 10) := rfl
theorem sh_19 : sh 19 = .inl (0, 24) := rfl
theorem sh_20 : sh 20 = .inl (0, 24) := rfl
theorem sh_21 : sh 21 = .inl (0, 100) := rfl
theorem sh_22 : sh 22 = .inl (0, 100) := rfl
theorem sh_23 : sh 23 = .inl (0, 100) := rfl
theorem sh_24 : sh 24 = .inl (0, 100) := rfl
theorem sh_25 : sh 25 = .inl (0, 24) := rfl
theorem sh_26 : sh 26 = .inl (0, 24) := rfl
theorem sh_27 : sh 27 = .inl (0, 24) := rfl
theorem sh_28 : sh 28 = .inl (1, 24) := rfl
theorem sh_29 : sh 29 = .inl (1, 24) := rfl
theorem sh_30 : sh 30 = .inl (0, 24) := rfl
theorem sh_32 : sh 32 = .inl (0, 205) := rfl
theorem sh_33 : sh 33 = .inl (0, 41) := rfl
theorem sh_34 : sh 34 = .inl (0, 24) := rfl
theorem sh_35 : sh 35 = .inl (0, 10) := rfl
theorem sh_37 : sh 37 = .inl (0, 24) := rfl
theorem sh_38 : sh 38 = .inl (0, 24) := rfl
theorem sh_39 : sh 39 = .inl (0, 100) := rfl
theorem sh_40 : sh 40 = .inl (0, 100) := rfl
theorem sh_41 : sh 41 = .inl (0, 100) := rfl
theorem sh_42 : sh 42 = .inl (0, 100) := rfl
theorem sh_43 : sh 43 = .inl (0, 24) := rfl
theorem sh_44 : sh 44 = .inl (0, 24) := rfl
theorem sh_45 : sh 45 = .inl (0, 24) := rfl
theorem sh_46 : sh 46 = .inl (1, 24) := rfl
theorem sh_47 : sh 47 = .inl (1, 24) := rfl
theorem sh_48 : sh 48 = .inl (0, 24) := rfl
theorem sh_49 : sh 49 = .inl (2, 4) := rfl
theorem sh_50 : sh 50 = .inl (1, 4) := rfl
theorem sh_72 : sh 72 = .inl (0, 10) := rfl
theorem sh_73 : sh 73 = .inl (0, 200) := rfl
theorem sh_74 : sh 74 = .inl (1, 10) := rfl
theorem sh_76 : sh 76 = .inl (0, 5) := rfl
theorem sh_77 : sh 77 = .inl (0, 5) := rfl
theorem sh_78 : sh 78 = .inl (0, 5) := rfl
theorem sh_80 : sh 80 = .inl (0, 10) := rfl
theorem sh_81 : sh 81 = .inl (0, 10) := rfl
theorem sh_83 : sh 83 = .inl (0, 24) := rfl
theorem sh_84 : sh 84 = .inl (0, 96) := rfl
theorem sh_85 : sh 85 = .inl (0, 96) := rfl
theorem sh_86 : sh 86 = .inl (0, 96) := rfl
theorem sh_87 : sh 87 = .inl (0, 24) := rfl
theorem sh_88 : sh 88 = .inl (0, 24) := rfl
theorem sh_89 : sh 89 = .inl (0, 24) := rfl
theorem sh_90 : sh 90 = .inl (0, 24) := rfl
theorem sh_91 : sh 91 = .inl (0, 120) := rfl
theorem sh_92 : sh 92 = .inl (0, 5) := rfl
theorem sh_93 : sh 93 = .inl (0, 200) := rfl
theorem sh_94 : sh 94 = .inl (0, 1000) := rfl
theorem sh_95 : sh 95 = .inl (0, 50) := rfl
theorem sh_96 : sh 96 = .inl (1, 5) := rfl
theorem sh_97 : sh 97 = .inl (0, 100) := rfl
theorem sh_98 : sh 98 = .inl (0, 100) := rfl
theorem sh_99 : sh 99 = .inl (0, 100) := rfl
theorem sh_100 : sh 100 = .inl (0, 100) := rfl
theorem sh_101 : sh 101 = .inl (0, 100) := rfl
theorem sh_102 : sh 102 = .inl (0, 24) := rfl
theorem sh_103 : sh 103 = .inl (0, 24) := rfl
theorem sh_104 : sh 104 = .inl (0, 24) := rfl
theorem sh_105 : sh 105 = .inl (0, 24) := rfl
theorem sh_106 : sh 106 = .inl (1, 24) := rfl
theorem sh_107 : sh 107 = .inl (0, 24) := rfl
theorem sh_108 : sh 108 = .inl (1, 24) := rfl
theorem sh_109 : sh 109 = .inl (0, 5) := rfl
theorem sh_110 : sh 110 = .inl (0, 5) := rfl
theorem sh_111 : sh 111 = .inl (0, 5) := rfl
theorem sh_112 : sh 112 = .inl (0, 200) := rfl
theorem sh_113 : sh 113 = .inl (0, 10) := rfl
theorem sh_114 : sh 114 = .inl (0, 100) := rfl
theorem sh_115 : sh 115 = .inl (0, 5) := rfl
theorem sh_116 : sh 116 = .inl (0, 10) := rfl
theorem shD0 {d : Nat} (h : isD d) : sh d = .inr (1, LX1 d) := by rcases h with rfl | rfl | rfl | rfl | rfl | rfl <;> rfl
theorem shD1 {d : Nat} (h : isD d) : sh (d + 1) = .inl (0, 205) := by rcases h with rfl | rfl | rfl | rfl | rfl | rfl <;> rfl
theorem shD2 {d : Nat} (h : isD d) : sh (d + 2) = .inl (0, 41) := by rcases h with rfl | rfl | rfl | rfl | rfl | rfl <;> rfl
theorem shD3 {d : Nat} (h : isD d) : sh (d + 3) = .inl (0, 24) := by rcases h with rfl | rfl | rfl | rfl | rfl | rfl <;> rfl
theorem shD4 {d : Nat} (h : isD d) : sh (d + 4) = .inl (0, 10) := by rcases h with rfl | rfl | rfl | rfl | rfl | rfl <;> rfl
theorem shV5 {d : Nat} (h : isV d) : sh (d + 5) = .inr (6, LX6 d) := by rcases h with rfl | rfl <;> rfl
theorem shV6 {d : Nat} (h : isV d) : sh (d + 6) = .inl (0, 24) := by rcases h with rfl | rfl <;> rfl
theorem shV7 {d : Nat} (h : isV d) : sh (d + 7) = .inl (0, 24) := by rcases h with rfl | rfl <;> rfl
theorem shV8 {d : Nat} (h : isV d) : sh (d + 8) = .inl (0, 100) := by rcases h with rfl | rfl <;> rfl
theorem shV9 {d : Nat} (h : isV d) : sh (d + 9) = .inl (0, 100) := by rcases h with rfl | rfl <;> rfl
theorem shV10 {d : Nat} (h : isV d) : sh (d + 10) = .inl (0, 100) := by rcases h with rfl | rfl <;> rfl
theorem shV11 {d : Nat} (h : isV d) : sh (d + 11) = .inl (0, 100) := by rcases h with rfl | rfl <;> rfl
theorem shV12 {d : Nat} (h : isV d) : sh (d + 12) = .inl (0, 24) := by rcases h with rfl | rfl <;> rfl
theorem shV13 {d : Nat} (h : isV d) : sh (d + 13) = .inl (0, 24) := by rcases h with rfl | rfl <;> rfl
theorem shV14 {d : Nat} (h : isV d) : sh (d + 14) = .inl (0, 24) := by rcases h with rfl | rfl <;> rfl
theorem shV15 {d : Nat} (h : isV d) : sh (d + 15) = .inl (1, 24) := by rcases h with rfl | rfl <;> rfl
theorem shV16 {d : Nat} (h : isV d) : sh (d + 16) = .inl (1, 24) := by rcases h with rfl | rfl <;> rfl
theorem shV17 {d : Nat} (h : isV d) : sh (d + 17) = .inl (0, 24) := by rcases h with rfl | rfl <;> rfl
theorem fc_X0 : FC 0 RX0 TX0 3 tyX0 := ⟨rfl, tgl _ [86, 88, 90] (by decide +kernel) (by decide +kernel), tyX0_ok, nmX0⟩
theorem fc_X1 : FC 1 RX1 TX1 5 tyX1 := ⟨rfl, tgl _ [126, 128, 130, 132, 134] (by decide +kernel) (by decide +kernel), tyX1_ok, nmX1⟩
theorem fc_X2 : FC 2 RX2 TX2 5 tyX2 := ⟨rfl, tgl _ [258, 260, 262, 264, 266] (by decide +kernel) (by decide +kernel), tyX2_ok, nmX2⟩
theorem fc_X3 : FC 3 RX3 TX3 7 tyX3 := ⟨rfl, tgl _ [229, 231, 233, 235, 237, 239, 241] (by decide +kernel) (by decide +kernel), tyX3_ok, nmX3⟩
theorem fc_X4 : FC 4 RX4 TX4 9 tyX4 := ⟨rfl, tgl _ [51, 53, 55, 57, 59, 61, 63, 65, 67] (by decide +kernel) (by decide +kernel), tyX4_ok, nmX4⟩
theorem fc_X5 : FC 5 RX5 TX5 4 tyX5 := ⟨rfl, tgl _ [282, 284, 286, 288] (by decide +kernel) (by decide +kernel), tyX5_ok, nmX5⟩
theorem fc_X6 : FC 6 RX6 TX6 17 tyX6 := ⟨rfl, tgl _ [175, 177, 179, 181, 183, 185, 187, 189, 191, 193, 195, 197, 199, 201, 203, 205, 207] (by decide +kernel) (by decide +kernel), tyX6_ok, nmX6⟩
theorem fc_X7 : FC 7 RX7 TX7 13 tyX7 := ⟨rfl, tgl _ [304, 306, 308, 310, 312, 314, 316, 318, 320, 322, 324, 326, 328] (by decide +kernel) (by decide +kernel), tyX7_ok, nmX7⟩
theorem fc_X8 : FC 8 RX8 TX8 47 tyX8 := ⟨rfl, tgl _ [897, 899, 901, 903, 905, 907, 909, 911, 913, 915, 917, 919, 921, 923, 925, 927, 929, 931, 933, 935, 937, 939, 941, 943, 945, 947, 949, 951, 953, 955, 957, 959, 961, 963, 965, 967, 969, 971, 973, 975, 977, 979, 981, 983, 985, 987, 989] (by decide +kernel) (by decide +kernel), tyX8_ok, nmX8⟩
theorem fl_X0_9 : Cond.fieldLink RX0 9 (TX0 0).1 (TX0 0).2.1 (TX0 0).2.2.1 ∈ tg := tgl [Cond.fieldLink RX0 9 (TX0 0).1 (TX0 0).2.1 (TX0 0).2.2.1] [77] (by decide +kernel) (by decide +kernel) _ List.mem_cons_self
theorem fl_X0_15 : Cond.fieldLink RX0 15 (TX0 1).1 (TX0 1).2.1 (TX0 1).2.2.1 ∈ tg := tgl [Cond.fieldLink RX0 15 (TX0 1).1 (TX0 1).2.1 (TX0 1).2.2.1] [80] (by decide +kernel) (by decide +kernel) _ List.mem_cons_self
theorem fl_X0_18 : Cond.fieldLink RX0 18 (TX0 2).1 (TX0 2).2.1 (TX0 2).2.2.1 ∈ tg := tgl [Cond.fieldLink RX0 18 (TX0 2).1 (TX0 2).2.1 (TX0 2).2.2.1] [83] (by decide +kernel) (by decide +kernel) _ List.mem_cons_self
theorem fl_X1_9 : Cond.fieldLink RX1 9 (TX1 0).1 (TX1 0).2.1 (TX1 0).2.2.1 ∈ tg := tgl [Cond.fieldLink RX1 9 (TX1 0).1 (TX1 0).2.1 (TX1 0).2.2.1] [111] (by decide +kernel) (by decide +kernel) _ List.mem_cons_self
theorem fl_X1_15 : Cond.fieldLink RX1 15 (TX1 1).1 (TX1 1).2.1 (TX1 1).2.2.1 ∈ tg := tgl [Cond.fieldLink RX1 15 (TX1 1).1 (TX1 1).2.1 (TX1 1).2.2.1] [112] (by decide +kernel) (by decide +kernel) _ List.mem_cons_self
theorem fl_X1_18 : Cond.fieldLink RX1 18 (TX1 2).1 (TX1 2).2.1 (TX1 2).2.2.1 ∈ tg := tgl [Cond.fieldLink RX1 18 (TX1 2).1 (TX1 2).2.1 (TX1 2).2.2.1] [116] (by decide +kernel) (by decide +kernel) _ List.mem_cons_self
theorem fl_X1_29 : Cond.fieldLink RX1 29 (TX1 3).1 (TX1 3).2.1 (TX1 3).2.2.1 ∈ tg := tgl [Cond.fieldLink RX1 29 (TX1 3).1 (TX1 3).2.1 (TX1 3).2.2.1] [118] (by decide +kernel) (by decide +kernel) _ List.mem_cons_self
theorem fl_X1_44 : Cond.fieldLink RX1 44 (TX1 4).1 (TX1 4).2.1 (TX1 4).2.2.1 ∈ tg := tgl [Cond.fieldLink RX1 44 (TX1 4).1 (TX1 4).2.1 (TX1 4).2.2.1] [123] (by decide +kernel) (by decide +kernel) _ List.mem_cons_self
theorem fl_X2_9 : Cond.fieldLink RX2 9 (TX2 0).1 (TX2 0).2.1 (TX2 0).2.2.1 ∈ tg := tgl [Cond.fieldLink RX2 9 (TX2 0).1 (TX2 0).2.1 (TX2 0).2.2.1] [250] (by decide +kernel) (by decide +kernel) _ List.mem_cons_self
theorem fl_X2_15 : Cond.fieldLink RX2 15 (TX2 1).1 (TX2 1).2.1 (TX2 1).2.2.1 ∈ tg := tgl [Cond.fieldLink RX2 15 (TX2 1).1 (TX2 1).2.1 (TX2 1).2.2.1] [252] (by decide +kernel) (by decide +kernel) _ List.mem_cons_self
theorem fl_X2_18 : Cond.fieldLink RX2 18 (TX2 3).1 (TX2 3).2.1 (TX2 3).2.2.1 ∈ tg := tgl [Cond.fieldLink RX2 18 (TX2 3).1 (TX2 3).2.1 (TX2 3).2.2.1] [256] (by decide +kernel) (by decide +kernel) _ List.mem_cons_self
theorem fl_X2_21 : Cond.fieldLink RX2 21 (TX2 4).1 (TX2 4).2.1 (TX2 4).2.2.1 ∈ tg := tgl [Cond.fieldLink RX2 21 (TX2 4).1 (TX2 4).2.1 (TX2 4).2.2.1] [257] (by decide +kernel) (by decide +kernel) _ List.mem_cons_self
theorem fl_X2_25 : Cond.fieldLink RX2 25 (TX6 2).1 (TX6 2).2.1 (TX6 2).2.2.1 ∈ tg := tgl [Cond.fieldLink RX2 25 (TX6 2).1 (TX6 2).2.1 (TX6 2).2.2.1] [147] (by decide +kernel) (by decide +kernel) _ List.mem_cons_self
theorem fl_X2_31 : Cond.fieldLink RX2 31 (TX1 1).1 (TX1 1).2.1 (TX1 1).2.2.1 ∈ tg := tgl [Cond.fieldLink RX2 31 (TX1 1).1 (TX1 1).2.1 (TX1 1).2.2.1] [113] (by decide +kernel) (by decide +kernel) _ List.mem_cons_self
theorem fl_X2_35 : Cond.fieldLink RX2 35 (TX6 10).1 (TX6 10).2.1 (TX6 10).2.2.1 ∈ tg := tgl [Cond.fieldLink RX2 35 (TX6 10).1 (TX6 10).2.1 (TX6 10).2.2.1] [162] (by decide +kernel) (by decide +kernel) _ List.mem_cons_self
theorem fl_X2_46 : Cond.fieldLink RX2 46 (TX2 2).1 (TX2 2).2.1 (TX2 2).2.2.1 ∈ tg := tgl [Cond.fieldLink RX2 46 (TX2 2).1 (TX2 2).2.1 (TX2 2).2.2.1] [254] (by decide +kernel) (by decide +kernel) _ List.mem_cons_self
theorem fl_X2_49 : Cond.fieldLink RX2 49 (TX1 3).1 (TX1 3).2.1 (TX1 3).2.2.1 ∈ tg := tgl [Cond.fieldLink RX2 49 (TX1 3).1 (TX1 3).2.1 (TX1 3).2.2.1] [121] (by decide +kernel) (by decide +kernel) _ List.mem_cons_self
theorem fl_X3_9 : Cond.fieldLink RX3 9 (TX3 0).1 (TX3 0).2.1 (TX3 0).2.2.1 ∈ tg := tgl [Cond.fieldLink RX3 9 (TX3 0).1 (TX3 0).2.1 (TX3 0).2.2.1] [218] (by decide +kernel) (by decide +kernel) _ List.mem_cons_self
theorem fl_X3_15 : Cond.fieldLink RX3 15 (TX3 3).1 (TX3 3).2.1 (TX3 3).2.2.1 ∈ tg := tgl [Cond.fieldLink RX3 15 (TX3 3).1 (TX3 3).2.1 (TX3 3).2.2.1] [224] (by decide +kernel) (by decide +kernel) _ List.mem_cons_self
theorem fl_X3_19 : Cond.fieldLink RX3 19 (TX3 4).1 (TX3 4).2.1 (TX3 4).2.2.1 ∈ tg := tgl [Cond.fieldLink RX3 19 (TX3 4).1 (TX3 4).2.1 (TX3 4).2.2.1] [226] (by decide +kernel) (by decide +kernel) _ List.mem_cons_self
theorem fl_X3_22 : Cond.fieldLink RX3 22 (TX3 5).1 (TX3 5).2.1 (TX3 5).2.2.1 ∈ tg := tgl [Cond.fieldLink RX3 22 (TX3 5).1 (TX3 5).2.1 (TX3 5).2.2.1] [227] (by decide +kernel) (by decide +kernel) _ List.mem_cons_self
theorem fl_X3_26 : Cond.fieldLink RX3 26 (TX3 1).1 (TX3 1).2.1 (TX3 1).2.2.1 ∈ tg := tgl [Cond.fieldLink RX3 26 (TX3 1).1 (TX3 1).2.1 (TX3 1).2.2.1] [220] (by decide +kernel) (by decide +kernel) _ List.mem_cons_self
theorem fl_X3_38 : Cond.fieldLink RX3 38 (TX3 2).1 (TX3 2).2.1 (TX3 2).2.2.1 ∈ tg := tgl [Cond.fieldLink RX3 38 (TX3 2).1 (TX3 2).2.1 (TX3 2).2.2.1] [222] (by decide +kernel) (by decide +kernel) _ List.mem_cons_self
theorem fl_X3_41 : Cond.fieldLink RX3 41 (TX3 6).1 (TX3 6).2.1 (TX3 6).2.2.1 ∈ tg := tgl [Cond.fieldLink RX3 41 (TX3 6).1 (TX3 6).2.1 (TX3 6).2.2.1] [228] (by decide +kernel) (by decide +kernel) _ List.mem_cons_self
theorem fl_X4_9 : Cond.fieldLink RX4 9 (TX4 0).1 (TX4 0).2.1 (TX4 0).2.2.1 ∈ tg := tgl [Cond.fieldLink RX4 9 (TX4 0).1 (TX4 0).2.1 (TX4 0).2.2.1] [31] (by decide +kernel) (by decide +kernel) _ List.mem_cons_self
theorem fl_X4_15 : Cond.fieldLink RX4 15 (TX4 1).1 (TX4 1).2.1 (TX4 1).2.2.1 ∈ tg := tgl [Cond.fieldLink RX4 15 (TX4 1).1 (TX4 1).2.1 (TX4 1).2.2.1] [34] (by decide +kernel) (by decide +kernel) _ List.mem_cons_self
theorem fl_X4_18 : Cond.fieldLink RX4 18 (TX4 2).1 (TX4 2).2.1 (TX4 2).2.2.1 ∈ tg := tgl [Cond.fieldLink RX4 18 (TX4 2).1 (TX4 2).2.1 (TX4 2).2.2.1] [36] (by decide +kernel) (by decide +kernel) _ List.mem_cons_self
theorem fl_X4_21 : Cond.fieldLink RX4 21 (TX4 3).1 (TX4 3).2.1 (TX4 3).2.2.1 ∈ tg := tgl [Cond.fieldLink RX4 21 (TX4 3).1 (TX4 3).2.1 (TX4 3).2.2.1] [38] (by decide +kernel) (by decide +kernel) _ List.mem_cons_self
theorem fl_X4_24 : Cond.fieldLink RX4 24 (TX4 4).1 (TX4 4).2.1 (TX4 4).2.2.1 ∈ tg := tgl [Cond.fieldLink RX4 24 (TX4 4).1 (TX4 4).2.1 (TX4 4).2.2.1] [40] (by decide +kernel) (by decide +kernel) _ List.mem_cons_self
theorem fl_X4_27 : Cond.fieldLink RX4 27 (TX4 5).1 (TX4 5).2.1 (TX4 5).2.2.1 ∈ tg := tgl [Cond.fieldLink RX4 27 (TX4 5).1 (TX4 5).2.1 (TX4 5).2.2.1] [42] (by decide +kernel) (by decide +kernel) _ List.mem_cons_self
theorem fl_X4_30 : Cond.fieldLink RX4 30 (TX4 6).1 (TX4 6).2.1 (TX4 6).2.2.1 ∈ tg := tgl [Cond.fieldLink RX4 30 (TX4 6).1 (TX4 6).2.1 (TX4 6).2.2.1] [44] (by decide +kernel) (by decide +kernel) _ List.mem_cons_self
theorem fl_X4_33 : Cond.fieldLink RX4 33 (TX4 7).1 (TX4 7).2.1 (TX4 7).2.2.1 ∈ tg := tgl [Cond.fieldLink RX4 33 (TX4 7).1 (TX4 7).2.1 (TX4 7).2.2.1] [46] (by decide +kernel) (by decide +kernel) _ List.mem_cons_self
theorem fl_X4_36 : Cond.fieldLink RX4 36 (TX4 8).1 (TX4 8).2.1 (TX4 8).2.2.1 ∈ tg := tgl [Cond.fieldLink RX4 36 (TX4 8).1 (TX4 8).2.1 (TX4 8).2.2.1] [48] (by decide +kernel) (by decide +kernel) _ List.mem_cons_self
theorem fl_X5_9 : Cond.fieldLink RX5 9 (TX5 0).1 (TX5 0).2.1 (TX5 0).2.2.1 ∈ tg := tgl [Cond.fieldLink RX5 9 (TX5 0).1 (TX5 0).2.1 (TX5 0).2.2.1] [275] (by decide +kernel) (by decide +kernel) _ List.mem_cons_self
theorem fl_X5_15 : Cond.fieldLink RX5 15 (TX5 3).1 (TX5 3).2.1 (TX5 3).2.2.1 ∈ tg := tgl [Cond.fieldLink RX5 15 (TX5 3).1 (TX5 3).2.1 (TX5 3).2.2.1] [281] (by decide +kernel) (by decide +kernel) _ List.mem_cons_self
theorem fl_X5_18 : Cond.fieldLink RX5 18 (TX6 2).1 (TX6 2).2.1 (TX6 2).2.2.1 ∈ tg := tgl [Cond.fieldLink RX5 18 (TX6 2).1 (TX6 2).2.1 (TX6 2).2.2.1] [146] (by decide +kernel) (by decide +kernel) _ List.mem_cons_self
theorem fl_X5_24 : Cond.fieldLink RX5 24 (TX1 3).1 (TX1 3).2.1 (TX1 3).2.2.1 ∈ tg := tgl [Cond.fieldLink RX5 24 (TX1 3).1 (TX1 3).2.1 (TX1 3).2.2.1] [119] (by decide +kernel) (by decide +kernel) _ List.mem_cons_self
theorem fl_X5_35 : Cond.fieldLink RX5 35 (TX5 2).1 (TX5 2).2.1 (TX5 2).2.2.1 ∈ tg := tgl [Cond.fieldLink RX5 35 (TX5 2).1 (TX5 2).2.1 (TX5 2).2.2.1] [279] (by decide +kernel) (by decide +kernel) _ List.mem_cons_self
theorem fl_X5_58 : Cond.fieldLink RX5 58 (TX5 1).1 (TX5 1).2.1 (TX5 1).2.2.1 ∈ tg := tgl [Cond.fieldLink RX5 58 (TX5 1).1 (TX5 1).2.1 (TX5 1).2.2.1] [277] (by decide +kernel) (by decide +kernel) _ List.mem_cons_self
theorem fl_X6_9 : Cond.fieldLink RX6 9 (TX6 3).1 (TX6 3).2.1 (TX6 3).2.2.1 ∈ tg := tgl [Cond.fieldLink RX6 9 (TX6 3).1 (TX6 3).2.1 (TX6 3).2.2.1] [148] (by decide +kernel) (by decide +kernel) _ List.mem_cons_self
theorem fl_X6_15 : Cond.fieldLink RX6 15 (TX6 4).1 (TX6 4).2.1 (TX6 4).2.2.1 ∈ tg := tgl [Cond.fieldLink RX6 15 (TX6 4).1 (TX6 4).2.1 (TX6 4).2.2.1] [150] (by decide +kernel) (by decide +kernel) _ List.mem_cons_self
theorem fl_X6_18 : Cond.fieldLink RX6 18 (TX6 5).1 (TX6 5).2.1 (TX6 5).2.2.1 ∈ tg := tgl [Cond.fieldLink RX6 18 (TX6 5).1 (TX6 5).2.1 (TX6 5).2.2.1] [152] (by decide +kernel) (by decide +kernel) _ List.mem_cons_self
theorem fl_X6_21 : Cond.fieldLink RX6 21 (TX6 6).1 (TX6 6).2.1 (TX6 6).2.2.1 ∈ tg := tgl [Cond.fieldLink RX6 21 (TX6 6).1 (TX6 6).2.1 (TX6 6).2.2.1] [153] (by decide +kernel) (by decide +kernel) _ List.mem_cons_self
theorem fl_X6_24 : Cond.fieldLink RX6 24 (TX6 7).1 (TX6 7).2.1 (TX6 7).2.2.1 ∈ tg := tgl [Cond.fieldLink RX6 24 (TX6 7).1 (TX6 7).2.1 (TX6 7).2.2.1] [155] (by decide +kernel) (by decide +kernel) _ List.mem_cons_self
theorem fl_X6_27 : Cond.fieldLink RX6 27 (TX6 8).1 (TX6 8).2.1 (TX6 8).2.2.1 ∈ tg := tgl [Cond.fieldLink RX6 27 (TX6 8).1 (TX6 8).2.1 (TX6 8).2.2.1] [157] (by decide +kernel) (by decide +kernel) _ List.mem_cons_self
theorem fl_X6_30 : Cond.fieldLink RX6 30 (TX6 9).1 (TX6 9).2.1 (TX6 9).2.2.1 ∈ tg := tgl [Cond.fieldLink RX6 30 (TX6 9).1 (TX6 9).2.1 (TX6 9).2.2.1] [159] (by decide +kernel) (by decide +kernel) _ List.mem_cons_self
theorem fl_X6_33 : Cond.fieldLink RX6 33 (TX6 10).1 (TX6 10).2.1 (TX6 10).2.2.1 ∈ tg := tgl [Cond.fieldLink RX6 33 (TX6 10).1 (TX6 10).2.1 (TX6 10).2.2.1] [161] (by decide +kernel) (by decide +kernel) _ List.mem_cons_self
theorem fl_X6_36 : Cond.fieldLink RX6 36 (TX6 11).1 (TX6 11).2.1 (TX6 11).2.2.1 ∈ tg := tgl [Cond.fieldLink RX6 36 (TX6 11).1 (TX6 11).2.1 (TX6 11).2.2.1] [164] (by decide +kernel) (by decide +kernel) _ List.mem_cons_self
theorem fl_X6_39 : Cond.fieldLink RX6 39 (TX6 12).1 (TX6 12).2.1 (TX6 12).2.2.1 ∈ tg := tgl [Cond.fieldLink RX6 39 (TX6 12).1 (TX6 12).2.1 (TX6 12).2.2.1] [166] (by decide +kernel) (by decide +kernel) _ List.mem_cons_self
theorem fl_X6_43 : Cond.fieldLink RX6 43 (TX6 13).1 (TX6 13).2.1 (TX6 13).2.2.1 ∈ tg := tgl [Cond.fieldLink RX6 43 (TX6 13).1 (TX6 13).2.1 (TX6 13).2.2.1] [168] (by decide +kernel) (by decide +kernel) _ List.mem_cons_self
theorem fl_X6_46 : Cond.fieldLink RX6 46 (TX6 14).1 (TX6 14).2.1 (TX6 14).2.2.1 ∈ tg := tgl [Cond.fieldLink RX6 46 (TX6 14).1 (TX6 14).2.1 (TX6 14).2.2.1] [169] (by decide +kernel) (by decide +kernel) _ List.mem_cons_self
theorem fl_X6_49 : Cond.fieldLink RX6 49 (TX6 0).1 (TX6 0).2.1 (TX6 0).2.2.1 ∈ tg := tgl [Cond.fieldLink RX6 49 (TX6 0).1 (TX6 0).2.1 (TX6 0).2.2.1] [143] (by decide +kernel) (by decide +kernel) _ List.mem_cons_self
theorem fl_X6_53 : Cond.fieldLink RX6 53 (TX6 1).1 (TX6 1).2.1 (TX6 1).2.2.1 ∈ tg := tgl [Cond.fieldLink RX6 53 (TX6 1).1 (TX6 1).2.1 (TX6 1).2.2.1] [144] (by decide +kernel) (by decide +kernel) _ List.mem_cons_self
theorem fl_X6_57 : Cond.fieldLink RX6 57 (TX6 2).1 (TX6 2).2.1 (TX6 2).2.2.1 ∈ tg := tgl [Cond.fieldLink RX6 57 (TX6 2).1 (TX6 2).2.1 (TX6 2).2.2.1] [145] (by decide +kernel) (by decide +kernel) _ List.mem_cons_self
theorem fl_X6_61 : Cond.fieldLink RX6 61 (TX4 8).1 (TX4 8).2.1 (TX4 8).2.2.1 ∈ tg := tgl [Cond.fieldLink RX6 61 (TX4 8).1 (TX4 8).2.1 (TX4 8).2.2.1] [49] (by decide +kernel) (by decide +kernel) _ List.mem_cons_self
theorem fl_X6_82 : Cond.fieldLink RX6 82 (TX1 3).1 (TX1 3).2.1 (TX1 3).2.2.1 ∈ tg := tgl [Cond.fieldLink RX6 82 (TX1 3).1 (TX1 3).2.1 (TX1 3).2.2.1] [120] (by decide +kernel) (by decide +kernel) _ List.mem_cons_self
theorem fl_X6_89 : Cond.fieldLink RX6 89 (TX0 2).1 (TX0 2).2.1 (TX0 2).2.2.1 ∈ tg := tgl [Cond.fieldLink RX6 89 (TX0 2).1 (TX0 2).2.1 (TX0 2).2.2.1] [84] (by decide +kernel) (by decide +kernel) _ List.mem_cons_self
theorem fl_X6_92 : Cond.fieldLink RX6 92 (TX0 0).1 (TX0 0).2.1 (TX0 0).2.2.1 ∈ tg := tgl [Cond.fieldLink RX6 92 (TX0 0).1 (TX0 0).2.1 (TX0 0).2.2.1] [78] (by decide +kernel) (by decide +kernel) _ List.mem_cons_self
theorem fl_X6_109 : Cond.fieldLink RX6 109 (TX0 1).1 (TX0 1).2.1 (TX0 1).2.2.1 ∈ tg := tgl [Cond.fieldLink RX6 109 (TX0 1).1 (TX0 1).2.1 (TX0 1).2.2.1] [81] (by decide +kernel) (by decide +kernel) _ List.mem_cons_self
theorem fl_X6_112 : Cond.fieldLink RX6 112 (TX1 1).1 (TX1 1).2.1 (TX1 1).2.2.1 ∈ tg := tgl [Cond.fieldLink RX6 112 (TX1 1).1 (TX1 1).2.1 (TX1 1).2.2.1] [114] (by decide +kernel) (by decide +kernel) _ List.mem_cons_self
theorem fl_X6_118 : Cond.fieldLink RX6 118 (TX6 16).1 (TX6 16).2.1 (TX6 16).2.2.1 ∈ tg := tgl [Cond.fieldLink RX6 118 (TX6 16).1 (TX6 16).2.1 (TX6 16).2.2.1] [173] (by decide +kernel) (by decide +kernel) _ List.mem_cons_self
theorem fl_X6_148 : Cond.fieldLink RX6 148 (TX6 15).1 (TX6 15).2.1 (TX6 15).2.2.1 ∈ tg := tgl [Cond.fieldLink RX6 148 (TX6 15).1 (TX6 15).2.1 (TX6 15).2.2.1] [171] (by decide +kernel) (by decide +kernel) _ List.mem_cons_self
theorem fl_X6_151 : Cond.fieldLink RX6 151 (TX1 4).1 (TX1 4).2.1 (TX1 4).2.2.1 ∈ tg := tgl [Cond.fieldLink RX6 151 (TX1 4).1 (TX1 4).2.1 (TX1 4).2.2.1] [125] (by decide +kernel) (by decide +kernel) _ List.mem_cons_self
theorem fl_X6_162 : Cond.fieldLink RX6 162 (TX4 0).1 (TX4 0).2.1 (TX4 0).2.2.1 ∈ tg := tgl [Cond.fieldLink RX6 162 (TX4 0).1 (TX4 0).2.1 (TX4 0).2.2.1] [33] (by decide +kernel) (by decide +kernel) _ List.mem_cons_self
theorem fl_X7_10 : Cond.fieldLink RX7 10 (TX7 0).1 (TX7 0).2.1 (TX7 0).2.2.1 ∈ tg := tgl [Cond.fieldLink RX7 10 (TX7 0).1 (TX7 0).2.1 (TX7 0).2.2.1] [291] (by decide +kernel) (by decide +kernel) _ List.mem_cons_self
theorem fl_X7_19 : Cond.fieldLink RX7 19 (TX7 1).1 (TX7 1).2.1 (TX7 1).2.2.1 ∈ tg := tgl [Cond.fieldLink RX7 19 (TX7 1).1 (TX7 1).2.1 (TX7 1).2.2.1] [292] (by decide +kernel) (by decide +kernel) _ List.mem_cons_self
theorem fl_X7_26 : Cond.fieldLink RX7 26 (TX7 2).1 (TX7 2).2.1 (TX7 2).2.2.1 ∈ tg := tgl [Cond.fieldLink RX7 26 (TX7 2).1 (TX7 2).2.1 (TX7 2).2.2.1] [293] (by decide +kernel) (by decide +kernel) _ List.mem_cons_self
theorem fl_X7_35 : Cond.fieldLink RX7 35 (TX7 3).1 (TX7 3).2.1 (TX7 3).2.2.1 ∈ tg := tgl [Cond.fieldLink RX7 35 (TX7 3).1 (TX7 3).2.1 (TX7 3).2.2.1] [294] (by decide +kernel) (by decide +kernel) _ List.mem_cons_self
theorem fl_X7_39 : Cond.fieldLink RX7 39 (TX7 4).1 (TX7 4).2.1 (TX7 4).2.2.1 ∈ tg := tgl [Cond.fieldLink RX7 39 (TX7 4).1 (TX7 4).2.1 (TX7 4).2.2.1] [295] (by decide +kernel) (by decide +kernel) _ List.mem_cons_self
theorem fl_X7_42 : Cond.fieldLink RX7 42 (TX7 5).1 (TX7 5).2.1 (TX7 5).2.2.1 ∈ tg := tgl [Cond.fieldLink RX7 42 (TX7 5).1 (TX7 5).2.1 (TX7 5).2.2.1] [296] (by decide +kernel) (by decide +kernel) _ List.mem_cons_self
theorem fl_X7_45 : Cond.fieldLink RX7 45 (TX7 6).1 (TX7 6).2.1 (TX7 6).2.2.1 ∈ tg := tgl [Cond.fieldLink RX7 45 (TX7 6).1 (TX7 6).2.1 (TX7 6).2.2.1] [297] (by decide +kernel) (by decide +kernel) _ List.mem_cons_self
theorem fl_X7_49 : Cond.fieldLink RX7 49 (TX7 7).1 (TX7 7).2.1 (TX7 7).2.2.1 ∈ tg := tgl [Cond.fieldLink RX7 49 (TX7 7).1 (TX7 7).2.1 (TX7 7).2.2.1] [298] (by decide +kernel) (by decide +kernel) _ List.mem_cons_self
theorem fl_X7_56 : Cond.fieldLink RX7 56 (TX7 8).1 (TX7 8).2.1 (TX7 8).2.2.1 ∈ tg := tgl [Cond.fieldLink RX7 56 (TX7 8).1 (TX7 8).2.1 (TX7 8).2.2.1] [299] (by decide +kernel) (by decide +kernel) _ List.mem_cons_self
theorem fl_X7_63 : Cond.fieldLink RX7 63 (TX7 9).1 (TX7 9).2.1 (TX7 9).2.2.1 ∈ tg := tgl [Cond.fieldLink RX7 63 (TX7 9).1 (TX7 9).2.1 (TX7 9).2.2.1] [300] (by decide +kernel) (by decide +kernel) _ List.mem_cons_self
theorem fl_X7_70 : Cond.fieldLink RX7 70 (TX7 10).1 (TX7 10).2.1 (TX7 10).2.2.1 ∈ tg := tgl [Cond.fieldLink RX7 70 (TX7 10).1 (TX7 10).2.1 (TX7 10).2.2.1] [301] (by decide +kernel) (by decide +kernel) _ List.mem_cons_self
theorem fl_X7_81 : Cond.fieldLink RX7 81 (TX4 8).1 (TX4 8).2.1 (TX4 8).2.2.1 ∈ tg := tgl [Cond.fieldLink RX7 81 (TX4 8).1 (TX4 8).2.1 (TX4 8).2.2.1] [50] (by decide +kernel) (by decide +kernel) _ List.mem_cons_self
theorem fl_X7_100 : Cond.fieldLink RX7 100 (TX4 0).1 (TX4 0).2.1 (TX4 0).2.2.1 ∈ tg := tgl [Cond.fieldLink RX7 100 (TX4 0).1 (TX4 0).2.1 (TX4 0).2.2.1] [32] (by decide +kernel) (by decide +kernel) _ List.mem_cons_self
theorem fl_X7_104 : Cond.fieldLink RX7 104 (TX4 3).1 (TX4 3).2.1 (TX4 3).2.2.1 ∈ tg := tgl [Cond.fieldLink RX7 104 (TX4 3).1 (TX4 3).2.1 (TX4 3).2.2.1] [39] (by decide +kernel) (by decide +kernel) _ List.mem_cons_self
theorem fl_X7_107 : Cond.fieldLink RX7 107 (TX4 4).1 (TX4 4).2.1 (TX4 4).2.2.1 ∈ tg := tgl [Cond.fieldLink RX7 107 (TX4 4).1 (TX4 4).2.1 (TX4 4).2.2.1] [41] (by decide +kernel) (by decide +kernel) _ List.mem_cons_self
theorem fl_X7_110 : Cond.fieldLink RX7 110 (TX1 2).1 (TX1 2).2.1 (TX1 2).2.2.1 ∈ tg := tgl [Cond.fieldLink RX7 110 (TX1 2).1 (TX1 2).2.1 (TX1 2).2.2.1] [117] (by decide +kernel) (by decide +kernel) _ List.mem_cons_self
theorem fl_X7_117 : Cond.fieldLink RX7 117 (TX4 1).1 (TX4 1).2.1 (TX4 1).2.2.1 ∈ tg := tgl [Cond.fieldLink RX7 117 (TX4 1).1 (TX4 1).2.1 (TX4 1).2.2.1] [35] (by decide +kernel) (by decide +kernel) _ List.mem_cons_self
theorem fl_X7_120 : Cond.fieldLink RX7 120 (TX4 2).1 (TX4 2).2.1 (TX4 2).2.2.1 ∈ tg := tgl [Cond.fieldLink RX7 120 (TX4 2).1 (TX4 2).2.1 (TX4 2).2.2.1] [37] (by decide +kernel) (by decide +kernel) _ List.mem_cons_self
theorem fl_X7_127 : Cond.fieldLink RX7 127 (TX6 4).1 (TX6 4).2.1 (TX6 4).2.2.1 ∈ tg := tgl [Cond.fieldLink RX7 127 (TX6 4).1 (TX6 4).2.1 (TX6 4).2.2.1] [151] (by decide +kernel) (by decide +kernel) _ List.mem_cons_self
theorem fl_X7_137 : Cond.fieldLink RX7 137 (TX4 5).1 (TX4 5).2.1 (TX4 5).2.2.1 ∈ tg := tgl [Cond.fieldLink RX7 137 (TX4 5).1 (TX4 5).2.1 (TX4 5).2.2.1] [43] (by decide +kernel) (by decide +kernel) _ List.mem_cons_self
theorem fl_X7_140 : Cond.fieldLink RX7 140 (TX4 6).1 (TX4 6).2.1 (TX4 6).2.2.1 ∈ tg := tgl [Cond.fieldLink RX7 140 (TX4 6).1 (TX4 6).2.1 (TX4 6).2.2.1] [45] (by decide +kernel) (by decide +kernel) _ List.mem_cons_self
theorem fl_X7_143 : Cond.fieldLink RX7 143 (TX4 7).1 (TX4 7).2.1 (TX4 7).2.2.1 ∈ tg := tgl [Cond.fieldLink RX7 143 (TX4 7).1 (TX4 7).2.1 (TX4 7).2.2.1] [47] (by decide +kernel) (by decide +kernel) _ List.mem_cons_self
theorem fl_X7_146 : Cond.fieldLink RX7 146 (TX1 3).1 (TX1 3).2.1 (TX1 3).2.2.1 ∈ tg := tgl [Cond.fieldLink RX7 146 (TX1 3).1 (TX1 3).2.1 (TX1 3).2.2.1] [122] (by decide +kernel) (by decide +kernel) _ List.mem_cons_self
theorem fl_X7_158 : Cond.fieldLink RX7 158 (TX6 16).1 (TX6 16).2.1 (TX6 16).2.2.1 ∈ tg := tgl [Cond.fieldLink RX7 158 (TX6 16).1 (TX6 16).2.1 (TX6 16).2.2.1] [174] (by decide +kernel) (by decide +kernel) _ List.mem_cons_self
theorem fl_X7_161 : Cond.fieldLink RX7 161 (TX6 9).1 (TX6 9).2.1 (TX6 9).2.2.1 ∈ tg := tgl [Cond.fieldLink RX7 161 (TX6 9).1 (TX6 9).2.1 (TX6 9).2.2.1] [160] (by decide +kernel) (by decide +kernel) _ List.mem_cons_self
theorem fl_X7_164 : Cond.fieldLink RX7 164 (TX1 4).1 (TX1 4).2.1 (TX1 4).2.2.1 ∈ tg := tgl [Cond.fieldLink RX7 164 (TX1 4).1 (TX1 4).2.1 (TX1 4).2.2.1] [124] (by decide +kernel) (by decide +kernel) _ List.mem_cons_self
theorem fl_X7_172 : Cond.fieldLink RX7 172 (TX1 1).1 (TX1 1).2.1 (TX1 1).2.2.1 ∈ tg := tgl [Cond.fieldLink RX7 172 (TX1 1).1 (TX1 1).2.1 (TX1 1).2.2.1] [115] (by decide +kernel) (by decide +kernel) _ List.mem_cons_self
theorem fl_X7_182 : Cond.fieldLink RX7 182 (TX0 2).1 (TX0 2).2.1 (TX0 2).2.2.1 ∈ tg := tgl [Cond.fieldLink RX7 182 (TX0 2).1 (TX0 2).2.1 (TX0 2).2.2.1] [85] (by decide +kernel) (by decide +kernel) _ List.mem_cons_self
theorem fl_X7_191 : Cond.fieldLink RX7 191 (TX6 8).1 (TX6 8).2.1 (TX6 8).2.2.1 ∈ tg := tgl [Cond.fieldLink RX7 191 (TX6 8).1 (TX6 8).2.1 (TX6 8).2.2.1] [158] (by decide +kernel) (by decide +kernel) _ List.mem_cons_self
theorem fl_X7_194 : Cond.fieldLink RX7 194 (TX6 6).1 (TX6 6).2.1 (TX6 6).2.2.1 ∈ tg := tgl [Cond.fieldLink RX7 194 (TX6 6).1 (TX6 6).2.1 (TX6 6).2.2.1] [154] (by decide +kernel) (by decide +kernel) _ List.mem_cons_self
theorem fl_X7_197 : Cond.fieldLink RX7 197 (TX6 7).1 (TX6 7).2.1 (TX6 7).2.2.1 ∈ tg := tgl [Cond.fieldLink RX7 197 (TX6 7).1 (TX6 7).2.1 (TX6 7).2.2.1] [156] (by decide +kernel) (by decide +kernel) _ List.mem_cons_self
theorem fl_X7_203 : Cond.fieldLink RX7 203 (TX0 0).1 (TX0 0).2.1 (TX0 0).2.2.1 ∈ tg := tgl [Cond.fieldLink RX7 203 (TX0 0).1 (TX0 0).2.1 (TX0 0).2.2.1] [79] (by decide +kernel) (by decide +kernel) _ List.mem_cons_self
theorem fl_X7_209 : Cond.fieldLink RX7 209 (TX0 1).1 (TX0 1).2.1 (TX0 1).2.2.1 ∈ tg := tgl [Cond.fieldLink RX7 209 (TX0 1).1 (TX0 1).2.1 (TX0 1).2.2.1] [82] (by decide +kernel) (by decide +kernel) _ List.mem_cons_self
theorem fl_X7_222 : Cond.fieldLink RX7 222 (TX2 2).1 (TX2 2).2.1 (TX2 2).2.2.1 ∈ tg := tgl [Cond.fieldLink RX7 222 (TX2 2).1 (TX2 2).2.1 (TX2 2).2.2.1] [255] (by decide +kernel) (by decide +kernel) _ List.mem_cons_self
theorem fl_X7_223 : Cond.fieldLink RX7 223 (TX2 0).1 (TX2 0).2.1 (TX2 0).2.2.1 ∈ tg := tgl [Cond.fieldLink RX7 223 (TX2 0).1 (TX2 0).2.1 (TX2 0).2.2.1] [251] (by decide +kernel) (by decide +kernel) _ List.mem_cons_self
theorem fl_X7_224 : Cond.fieldLink RX7 224 (TX2 1).1 (TX2 1).2.1 (TX2 1).2.2.1 ∈ tg := tgl [Cond.fieldLink RX7 224 (TX2 1).1 (TX2 1).2.1 (TX2 1).2.2.1] [253] (by decide +kernel) (by decide +kernel) _ List.mem_cons_self
theorem fl_X7_231 : Cond.fieldLink RX7 231 (TX6 15).1 (TX6 15).2.1 (TX6 15).2.2.1 ∈ tg := tgl [Cond.fieldLink RX7 231 (TX6 15).1 (TX6 15).2.1 (TX6 15).2.2.1] [172] (by decide +kernel) (by decide +kernel) _ List.mem_cons_self
theorem fl_X7_243 : Cond.fieldLink RX7 243 (TX3 1).1 (TX3 1).2.1 (TX3 1).2.2.1 ∈ tg := tgl [Cond.fieldLink RX7 243 (TX3 1).1 (TX3 1).2.1 (TX3 1).2.2.1] [221] (by decide +kernel) (by decide +kernel) _ List.mem_cons_self
theorem fl_X7_251 : Cond.fieldLink RX7 251 (TX3 2).1 (TX3 2).2.1 (TX3 2).2.2.1 ∈ tg := tgl [Cond.fieldLink RX7 251 (TX3 2).1 (TX3 2).2.1 (TX3 2).2.2.1] [223] (by decide +kernel) (by decide +kernel) _ List.mem_cons_self
theorem fl_X7_254 : Cond.fieldLink RX7 254 (TX3 0).1 (TX3 0).2.1 (TX3 0).2.2.1 ∈ tg := tgl [Cond.fieldLink RX7 254 (TX3 0).1 (TX3 0).2.1 (TX3 0).2.2.1] [219] (by decide +kernel) (by decide +kernel) _ List.mem_cons_self
theorem fl_X7_261 : Cond.fieldLink RX7 261 (TX3 3).1 (TX3 3).2.1 (TX3 3).2.2.1 ∈ tg := tgl [Cond.fieldLink RX7 261 (TX3 3).1 (TX3 3).2.1 (TX3 3).2.2.1] [225] (by decide +kernel) (by decide +kernel) _ List.mem_cons_self
theorem fl_X7_277 : Cond.fieldLink RX7 277 (TX6 3).1 (TX6 3).2.1 (TX6 3).2.2.1 ∈ tg := tgl [Cond.fieldLink RX7 277 (TX6 3).1 (TX6 3).2.1 (TX6 3).2.2.1] [149] (by decide +kernel) (by decide +kernel) _ List.mem_cons_self
theorem fl_X7_287 : Cond.fieldLink RX7 287 (TX7 12).1 (TX7 12).2.1 (TX7 12).2.2.1 ∈ tg := tgl [Cond.fieldLink RX7 287 (TX7 12).1 (TX7 12).2.1 (TX7 12).2.2.1] [303] (by decide +kernel) (by decide +kernel) _ List.mem_cons_self
theorem fl_X7_295 : Cond.fieldLink RX7 295 (TX5 2).1 (TX5 2).2.1 (TX5 2).2.2.1 ∈ tg := tgl [Cond.fieldLink RX7 295 (TX5 2).1 (TX5 2).2.1 (TX5 2).2.2.1] [280] (by decide +kernel) (by decide +kernel) _ List.mem_cons_self
theorem fl_X7_298 : Cond.fieldLink RX7 298 (TX5 0).1 (TX5 0).2.1 (TX5 0).2.2.1 ∈ tg := tgl [Cond.fieldLink RX7 298 (TX5 0).1 (TX5 0).2.1 (TX5 0).2.2.1] [276] (by decide +kernel) (by decide +kernel) _ List.mem_cons_self
theorem fl_X7_301 : Cond.fieldLink RX7 301 (TX5 1).1 (TX5 1).2.1 (TX5 1).2.2.1 ∈ tg := tgl [Cond.fieldLink RX7 301 (TX5 1).1 (TX5 1).2.1 (TX5 1).2.2.1] [278] (by decide +kernel) (by decide +kernel) _ List.mem_cons_self
theorem fl_X7_304 : Cond.fieldLink RX7 304 (TX7 11).1 (TX7 11).2.1 (TX7 11).2.2.1 ∈ tg := tgl [Cond.fieldLink RX7 304 (TX7 11).1 (TX7 11).2.1 (TX7 11).2.2.1] [302] (by decide +kernel) (by decide +kernel) _ List.mem_cons_self
theorem fl_X7_307 : Cond.fieldLink RX7 307 (TX6 11).1 (TX6 11).2.1 (TX6 11).2.2.1 ∈ tg := tgl [Cond.fieldLink RX7 307 (TX6 11).1 (TX6 11).2.1 (TX6 11).2.2.1] [165] (by decide +kernel) (by decide +kernel) _ List.mem_cons_self
theorem fl_X7_310 : Cond.fieldLink RX7 310 (TX6 12).1 (TX6 12).2.1 (TX6 12).2.2.1 ∈ tg := tgl [Cond.fieldLink RX7 310 (TX6 12).1 (TX6 12).2.1 (TX6 12).2.2.1] [167] (by decide +kernel) (by decide +kernel) _ List.mem_cons_self
theorem fl_X7_313 : Cond.fieldLink RX7 313 (TX6 14).1 (TX6 14).2.1 (TX6 14).2.2.1 ∈ tg := tgl [Cond.fieldLink RX7 313 (TX6 14).1 (TX6 14).2.1 (TX6 14).2.2.1] [170] (by decide +kernel) (by decide +kernel) _ List.mem_cons_self
theorem fl_X7_316 : Cond.fieldLink RX7 316 (TX6 10).1 (TX6 10).2.1 (TX6 10).2.2.1 ∈ tg := tgl [Cond.fieldLink RX7 316 (TX6 10).1 (TX6 10).2.1 (TX6 10).2.2.1] [163] (by decide +kernel) (by decide +kernel) _ List.mem_cons_self
theorem fl_X8_7 : Cond.fieldLink RX8 7 (TX8 1).1 (TX8 1).2.1 (TX8 1).2.2.1 ∈ tg := tgl [Cond.fieldLink RX8 7 (TX8 1).1 (TX8 1).2.1 (TX8 1).2.2.1] [851] (by decide +kernel) (by decide +kernel) _ List.mem_cons_self
theorem fl_X8_13 : Cond.fieldLink RX8 13 (TX8 2).1 (TX8 2).2.1 (TX8 2).2.2.1 ∈ tg := tgl [Cond.fieldLink RX8 13 (TX8 2).1 (TX8 2).2.1 (TX8 2).2.2.1] [852] (by decide +kernel) (by decide +kernel) _ List.mem_cons_self
theorem fl_X8_16 : Cond.fieldLink RX8 16 (TX8 3).1 (TX8 3).2.1 (TX8 3).2.2.1 ∈ tg := tgl [Cond.fieldLink RX8 16 (TX8 3).1 (TX8 3).2.1 (TX8 3).2.2.1] [853] (by decide +kernel) (by decide +kernel) _ List.mem_cons_self
theorem fl_X8_19 : Cond.fieldLink RX8 19 (TX8 4).1 (TX8 4).2.1 (TX8 4).2.2.1 ∈ tg := tgl [Cond.fieldLink RX8 19 (TX8 4).1 (TX8 4).2.1 (TX8 4).2.2.1] [854] (by decide +kernel) (by decide +kernel) _ List.mem_cons_self
theorem fl_X8_22 : Cond.fieldLink RX8 22 (TX8 5).1 (TX8 5).2.1 (TX8 5).2.2.1 ∈ tg := tgl [Cond.fieldLink RX8 22 (TX8 5).1 (TX8 5).2.1 (TX8 5).2.2.1] [855] (by decide +kernel) (by decide +kernel) _ List.mem_cons_self
theorem fl_X8_25 : Cond.fieldLink RX8 25 (TX8 6).1 (TX8 6).2.1 (TX8 6).2.2.1 ∈ tg := tgl [Cond.fieldLink RX8 25 (TX8 6).1 (TX8 6).2.1 (TX8 6).2.2.1] [856] (by decide +kernel) (by decide +kernel) _ List.mem_cons_self
theorem fl_X8_28 : Cond.fieldLink RX8 28 (TX8 7).1 (TX8 7).2.1 (TX8 7).2.2.1 ∈ tg := tgl [Cond.fieldLink RX8 28 (TX8 7).1 (TX8 7).2.1 (TX8 7).2.2.1] [857] (by decide +kernel) (by decide +kernel) _ List.mem_cons_self
theorem fl_X8_31 : Cond.fieldLink RX8 31 (TX8 8).1 (TX8 8).2.1 (TX8 8).2.2.1 ∈ tg := tgl [Cond.fieldLink RX8 31 (TX8 8).1 (TX8 8).2.1 (TX8 8).2.2.1] [858] (by decide +kernel) (by decide +kernel) _ List.mem_cons_self
theorem fl_X8_34 : Cond.fieldLink RX8 34 (TX8 9).1 (TX8 9).2.1 (TX8 9).2.2.1 ∈ tg := tgl [Cond.fieldLink RX8 34 (TX8 9).1 (TX8 9).2.1 (TX8 9).2.2.1] [859] (by decide +kernel) (by decide +kernel) _ List.mem_cons_self
theorem fl_X8_37 : Cond.fieldLink RX8 37 (TX8 10).1 (TX8 10).2.1 (TX8 10).2.2.1 ∈ tg := tgl [Cond.fieldLink RX8 37 (TX8 10).1 (TX8 10).2.1 (TX8 10).2.2.1] [860] (by decide +kernel) (by decide +kernel) _ List.mem_cons_self
theorem fl_X8_40 : Cond.fieldLink RX8 40 (TX8 11).1 (TX8 11).2.1 (TX8 11).2.2.1 ∈ tg := tgl [Cond.fieldLink RX8 40 (TX8 11).1 (TX8 11).2.1 (TX8 11).2.2.1] [861] (by decide +kernel) (by decide +kernel) _ List.mem_cons_self
theorem fl_X8_43 : Cond.fieldLink RX8 43 (TX8 12).1 (TX8 12).2.1 (TX8 12).2.2.1 ∈ tg := tgl [Cond.fieldLink RX8 43 (TX8 12).1 (TX8 12).2.1 (TX8 12).2.2.1] [862] (by decide +kernel) (by decide +kernel) _ List.mem_cons_self
theorem fl_X8_46 : Cond.fieldLink RX8 46 (TX8 13).1 (TX8 13).2.1 (TX8 13).2.2.1 ∈ tg := tgl [Cond.fieldLink RX8 46 (TX8 13).1 (TX8 13).2.1 (TX8 13).2.2.1] [863] (by decide +kernel) (by decide +kernel) _ List.mem_cons_self
theorem fl_X8_49 : Cond.fieldLink RX8 49 (TX8 14).1 (TX8 14).2.1 (TX8 14).2.2.1 ∈ tg := tgl [Cond.fieldLink RX8 49 (TX8 14).1 (TX8 14).2.1 (TX8 14).2.2.1] [864] (by decide +kernel) (by decide +kernel) _ List.mem_cons_self
theorem fl_X8_53 : Cond.fieldLink RX8 53 (TX8 15).1 (TX8 15).2.1 (TX8 15).2.2.1 ∈ tg := tgl [Cond.fieldLink RX8 53 (TX8 15).1 (TX8 15).2.1 (TX8 15).2.2.1] [865] (by decide +kernel) (by decide +kernel) _ List.mem_cons_self
theorem fl_X8_57 : Cond.fieldLink RX8 57 (TX8 17).1 (TX8 17).2.1 (TX8 17).2.2.1 ∈ tg := tgl [Cond.fieldLink RX8 57 (TX8 17).1 (TX8 17).2.1 (TX8 17).2.2.1] [867] (by decide +kernel) (by decide +kernel) _ List.mem_cons_self
theorem fl_X8_60 : Cond.fieldLink RX8 60 (TX8 18).1 (TX8 18).2.1 (TX8 18).2.2.1 ∈ tg := tgl [Cond.fieldLink RX8 60 (TX8 18).1 (TX8 18).2.1 (TX8 18).2.2.1] [868] (by decide +kernel) (by decide +kernel) _ List.mem_cons_self
theorem fl_X8_63 : Cond.fieldLink RX8 63 (TX8 19).1 (TX8 19).2.1 (TX8 19).2.2.1 ∈ tg := tgl [Cond.fieldLink RX8 63 (TX8 19).1 (TX8 19).2.1 (TX8 19).2.2.1] [869] (by decide +kernel) (by decide +kernel) _ List.mem_cons_self
theorem fl_X8_66 : Cond.fieldLink RX8 66 (TX8 20).1 (TX8 20).2.1 (TX8 20).2.2.1 ∈ tg := tgl [Cond.fieldLink RX8 66 (TX8 20).1 (TX8 20).2.1 (TX8 20).2.2.1] [870] (by decide +kernel) (by decide +kernel) _ List.mem_cons_self
theorem fl_X8_69 : Cond.fieldLink RX8 69 (TX8 22).1 (TX8 22).2.1 (TX8 22).2.2.1 ∈ tg := tgl [Cond.fieldLink RX8 69 (TX8 22).1 (TX8 22).2.1 (TX8 22).2.2.1] [872] (by decide +kernel) (by decide +kernel) _ List.mem_cons_self
theorem fl_X8_72 : Cond.fieldLink RX8 72 (TX8 23).1 (TX8 23).2.1 (TX8 23).2.2.1 ∈ tg := tgl [Cond.fieldLink RX8 72 (TX8 23).1 (TX8 23).2.1 (TX8 23).2.2.1] [873] (by decide +kernel) (by decide +kernel) _ List.mem_cons_self
theorem fl_X8_75 : Cond.fieldLink RX8 75 (TX8 24).1 (TX8 24).2.1 (TX8 24).2.2.1 ∈ tg := tgl [Cond.fieldLink RX8 75 (TX8 24).1 (TX8 24).2.1 (TX8 24).2.2.1] [874] (by decide +kernel) (by decide +kernel) _ List.mem_cons_self
theorem fl_X8_78 : Cond.fieldLink RX8 78 (TX8 26).1 (TX8 26).2.1 (TX8 26).2.2.1 ∈ tg := tgl [Cond.fieldLink RX8 78 (TX8 26).1 (TX8 26).2.1 (TX8 26).2.2.1] [876] (by decide +kernel) (by decide +kernel) _ List.mem_cons_self
theorem fl_X8_81 : Cond.fieldLink RX8 81 (TX8 27).1 (TX8 27).2.1 (TX8 27).2.2.1 ∈ tg := tgl [Cond.fieldLink RX8 81 (TX8 27).1 (TX8 27).2.1 (TX8 27).2.2.1] [877] (by decide +kernel) (by decide +kernel) _ List.mem_cons_self
theorem fl_X8_84 : Cond.fieldLink RX8 84 (TX8 28).1 (TX8 28).2.1 (TX8 28).2.2.1 ∈ tg := tgl [Cond.fieldLink RX8 84 (TX8 28).1 (TX8 28).2.1 (TX8 28).2.2.1] [878] (by decide +kernel) (by decide +kernel) _ List.mem_cons_self
theorem fl_X8_87 : Cond.fieldLink RX8 87 (TX8 29).1 (TX8 29).2.1 (TX8 29).2.2.1 ∈ tg := tgl [Cond.fieldLink RX8 87 (TX8 29).1 (TX8 29).2.1 (TX8 29).2.2.1] [879] (by decide +kernel) (by decide +kernel) _ List.mem_cons_self
theorem fl_X8_90 : Cond.fieldLink RX8 90 (TX8 30).1 (TX8 30).2.1 (TX8 30).2.2.1 ∈ tg := tgl [Cond.fieldLink RX8 90 (TX8 30).1 (TX8 30).2.1 (TX8 30).2.2.1] [880] (by decide +kernel) (by decide +kernel) _ List.mem_cons_self
theorem fl_X8_93 : Cond.fieldLink RX8 93 (TX8 31).1 (TX8 31).2.1 (TX8 31).2.2.1 ∈ tg := tgl [Cond.fieldLink RX8 93 (TX8 31).1 (TX8 31).2.1 (TX8 31).2.2.1] [881] (by decide +kernel) (by decide +kernel) _ List.mem_cons_self
theorem fl_X8_96 : Cond.fieldLink RX8 96 (TX8 32).1 (TX8 32).2.1 (TX8 32).2.2.1 ∈ tg := tgl [Cond.fieldLink RX8 96 (TX8 32).1 (TX8 32).2.1 (TX8 32).2.2.1] [882] (by decide +kernel) (by decide +kernel) _ List.mem_cons_self
theorem fl_X8_99 : Cond.fieldLink RX8 99 (TX8 33).1 (TX8 33).2.1 (TX8 33).2.2.1 ∈ tg := tgl [Cond.fieldLink RX8 99 (TX8 33).1 (TX8 33).2.1 (TX8 33).2.2.1] [883] (by decide +kernel) (by decide +kernel) _ List.mem_cons_self
theorem fl_X8_102 : Cond.fieldLink RX8 102 (TX8 35).1 (TX8 35).2.1 (TX8 35).2.2.1 ∈ tg := tgl [Cond.fieldLink RX8 102 (TX8 35).1 (TX8 35).2.1 (TX8 35).2.2.1] [885] (by decide +kernel) (by decide +kernel) _ List.mem_cons_self
theorem fl_X8_105 : Cond.fieldLink RX8 105 (TX8 39).1 (TX8 39).2.1 (TX8 39).2.2.1 ∈ tg := tgl [Cond.fieldLink RX8 105 (TX8 39).1 (TX8 39).2.1 (TX8 39).2.2.1] [889] (by decide +kernel) (by decide +kernel) _ List.mem_cons_self
theorem fl_X8_108 : Cond.fieldLink RX8 108 (TX8 42).1 (TX8 42).2.1 (TX8 42).2.2.1 ∈ tg := tgl [Cond.fieldLink RX8 108 (TX8 42).1 (TX8 42).2.1 (TX8 42).2.2.1] [892] (by decide +kernel) (by decide +kernel) _ List.mem_cons_self
theorem fl_X8_111 : Cond.fieldLink RX8 111 (TX8 43).1 (TX8 43).2.1 (TX8 43).2.2.1 ∈ tg := tgl [Cond.fieldLink RX8 111 (TX8 43).1 (TX8 43).2.1 (TX8 43).2.2.1] [893] (by decide +kernel) (by decide +kernel) _ List.mem_cons_self
theorem fl_X8_114 : Cond.fieldLink RX8 114 (TX8 45).1 (TX8 45).2.1 (TX8 45).2.2.1 ∈ tg := tgl [Cond.fieldLink RX8 114 (TX8 45).1 (TX8 45).2.1 (TX8 45).2.2.1] [895] (by decide +kernel) (by decide +kernel) _ List.mem_cons_self
theorem fl_X8_117 : Cond.fieldLink RX8 117 (TX8 46).1 (TX8 46).2.1 (TX8 46).2.2.1 ∈ tg := tgl [Cond.fieldLink RX8 117 (TX8 46).1 (TX8 46).2.1 (TX8 46).2.2.1] [896] (by decide +kernel) (by decide +kernel) _ List.mem_cons_self
theorem fl_X8_124 : Cond.fieldLink RX8 124 (TX8 0).1 (TX8 0).2.1 (TX8 0).2.2.1 ∈ tg := tgl [Cond.fieldLink RX8 124 (TX8 0).1 (TX8 0).2.1 (TX8 0).2.2.1] [850] (by decide +kernel) (by decide +kernel) _ List.mem_cons_self
theorem fl_X8_158 : Cond.fieldLink RX8 158 (TX8 21).1 (TX8 21).2.1 (TX8 21).2.2.1 ∈ tg := tgl [Cond.fieldLink RX8 158 (TX8 21).1 (TX8 21).2.1 (TX8 21).2.2.1] [871] (by decide +kernel) (by decide +kernel) _ List.mem_cons_self
theorem fl_X8_161 : Cond.fieldLink RX8 161 (TX8 16).1 (TX8 16).2.1 (TX8 16).2.2.1 ∈ tg := tgl [Cond.fieldLink RX8 161 (TX8 16).1 (TX8 16).2.1 (TX8 16).2.2.1] [866] (by decide +kernel) (by decide +kernel) _ List.mem_cons_self
theorem fl_X8_177 : Cond.fieldLink RX8 177 (TX8 25).1 (TX8 25).2.1 (TX8 25).2.2.1 ∈ tg := tgl [Cond.fieldLink RX8 177 (TX8 25).1 (TX8 25).2.1 (TX8 25).2.2.1] [875] (by decide +kernel) (by decide +kernel) _ List.mem_cons_self
theorem fl_X8_250 : Cond.fieldLink RX8 250 (TX8 34).1 (TX8 34).2.1 (TX8 34).2.2.1 ∈ tg := tgl [Cond.fieldLink RX8 250 (TX8 34).1 (TX8 34).2.1 (TX8 34).2.2.1] [884] (by decide +kernel) (by decide +kernel) _ List.mem_cons_self
theorem fl_X8_263 : Cond.fieldLink RX8 263 (TX8 36).1 (TX8 36).2.1 (TX8 36).2.2.1 ∈ tg := tgl [Cond.fieldLink RX8 263 (TX8 36).1 (TX8 36).2.1 (TX8 36).2.2.1] [886] (by decide +kernel) (by decide +kernel) _ List.mem_cons_self
theorem fl_X8_270 : Cond.fieldLink RX8 270 (TX8 37).1 (TX8 37).2.1 (TX8 37).2.2.1 ∈ tg := tgl [Cond.fieldLink RX8 270 (TX8 37).1 (TX8 37).2.1 (TX8 37).2.2.1] [887] (by decide +kernel) (by decide +kernel) _ List.mem_cons_self
theorem fl_X8_273 : Cond.fieldLink RX8 273 (TX8 38).1 (TX8 38).2.1 (TX8 38).2.2.1 ∈ tg := tgl [Cond.fieldLink RX8 273 (TX8 38).1 (TX8 38).2.1 (TX8 38).2.2.1] [888] (by decide +kernel) (by decide +kernel) _ List.mem_cons_self
theorem fl_X8_279 : Cond.fieldLink RX8 279 (TX8 40).1 (TX8 40).2.1 (TX8 40).2.2.1 ∈ tg := tgl [Cond.fieldLink RX8 279 (TX8 40).1 (TX8 40).2.1 (TX8 40).2.2.1] [890] (by decide +kernel) (by decide +kernel) _ List.mem_cons_self
theorem fl_X8_286 : Cond.fieldLink RX8 286 (TX8 41).1 (TX8 41).2.1 (TX8 41).2.2.1 ∈ tg := tgl [Cond.fieldLink RX8 286 (TX8 41).1 (TX8 41).2.1 (TX8 41).2.2.1] [891] (by decide +kernel) (by decide +kernel) _ List.mem_cons_self
theorem fl_X8_330 : Cond.fieldLink RX8 330 (TX8 44).1 (TX8 44).2.1 (TX8 44).2.2.1 ∈ tg := tgl [Cond.fieldLink RX8 330 (TX8 44).1 (TX8 44).2.1 (TX8 44).2.2.1] [894] (by decide +kernel) (by decide +kernel) _ List.mem_cons_self
theorem cl_X8_131 : Cond.constantLong RX8 131 49 ∈ tg := tgl [Cond.constantLong RX8 131 49] [999] (by decide +kernel) (by decide +kernel) _ List.mem_cons_self
theorem cl_X8_133 : Cond.constantLong RX8 133 26 ∈ tg := tgl [Cond.constantLong RX8 133 26] [1003] (by decide +kernel) (by decide +kernel) _ List.mem_cons_self
theorem cl_X8_139 : Cond.constantLong RX8 139 2100 ∈ tg := tgl [Cond.constantLong RX8 139 2100] [1004] (by decide +kernel) (by decide +kernel) _ List.mem_cons_self
theorem cl_X8_141 : Cond.constantLong RX8 141 999 ∈ tg := tgl [Cond.constantLong RX8 141 999] [1005] (by decide +kernel) (by decide +kernel) _ List.mem_cons_self
theorem cl_X8_151 : Cond.constantLong RX8 151 9999 ∈ tg := tgl [Cond.constantLong RX8 151 9999] [1022] (by decide +kernel) (by decide +kernel) _ List.mem_cons_self
theorem cl_X8_156 : Cond.constantLong RX8 156 2 ∈ tg := tgl [Cond.constantLong RX8 156 2] [1039] (by decide +kernel) (by decide +kernel) _ List.mem_cons_self
theorem cl_X8_225 : Cond.constantLong RX8 225 6 ∈ tg := tgl [Cond.constantLong RX8 225 6] [1110] (by decide +kernel) (by decide +kernel) _ List.mem_cons_self
theorem cl_X8_227 : Cond.constantLong RX8 227 10 ∈ tg := tgl [Cond.constantLong RX8 227 10] [1111] (by decide +kernel) (by decide +kernel) _ List.mem_cons_self
theorem cl_X8_242 : Cond.constantLong RX8 242 (-1) ∈ tg := tgl [Cond.constantLong RX8 242 (-1)] [1155] (by decide +kernel) (by decide +kernel) _ List.mem_cons_self
theorem cl_X8_266 : Cond.constantLong RX8 266 8 ∈ tg := tgl [Cond.constantLong RX8 266 8] [1200] (by decide +kernel) (by decide +kernel) _ List.mem_cons_self
theorem cl_X8_268 : Cond.constantLong RX8 268 255 ∈ tg := tgl [Cond.constantLong RX8 268 255] [1201] (by decide +kernel) (by decide +kernel) _ List.mem_cons_self
theorem cl_X8_282 : Cond.constantLong RX8 282 97 ∈ tg := tgl [Cond.constantLong RX8 282 97] [1214] (by decide +kernel) (by decide +kernel) _ List.mem_cons_self
theorem cl_X8_284 : Cond.constantLong RX8 284 122 ∈ tg := tgl [Cond.constantLong RX8 284 122] [1215] (by decide +kernel) (by decide +kernel) _ List.mem_cons_self
theorem cl_X8_289 : Cond.constantLong RX8 289 48 ∈ tg := tgl [Cond.constantLong RX8 289 48] [1236] (by decide +kernel) (by decide +kernel) _ List.mem_cons_self
theorem cl_X8_291 : Cond.constantLong RX8 291 57 ∈ tg := tgl [Cond.constantLong RX8 291 57] [1237] (by decide +kernel) (by decide +kernel) _ List.mem_cons_self
theorem cl_X8_317 : Cond.constantLong RX8 317 9 ∈ tg := tgl [Cond.constantLong RX8 317 9] [1250] (by decide +kernel) (by decide +kernel) _ List.mem_cons_self
theorem cl_X8_319 : Cond.constantLong RX8 319 3 ∈ tg := tgl [Cond.constantLong RX8 319 3] [1255] (by decide +kernel) (by decide +kernel) _ List.mem_cons_self
theorem cl_X8_333 : Cond.constantLong RX8 333 5 ∈ tg := tgl [Cond.constantLong RX8 333 5] [1288] (by decide +kernel) (by decide +kernel) _ List.mem_cons_self
theorem cw_X1_48 : CwV RX1 48 yX1_copyNote cX1_copyNote 3 none 2 := ⟨tgl _ [509, 511, 4, 512] (by decide +kernel) (by decide +kernel), tgp _ 12 (by decide +kernel) (by decide +kernel), by decide +kernel⟩
theorem cw_X1_52 : CwV RX1 52 yX1_removeNote cX1_removeNote 3 none 1 := ⟨tgl _ [536, 525, 4, 527] (by decide +kernel) (by decide +kernel), tgl [Cond.selects yX1_removeNote.cls yX1_removeNote yX1_removeNote] [526] (by decide +kernel) (by decide +kernel) _ List.mem_cons_self, by decide +kernel⟩
theorem cw_X1_56 : CwV RX1 56 yX1_insertNote cX1_insertNote 3 none 1 := ⟨tgl _ [537, 506, 4, 508] (by decide +kernel) (by decide +kernel), tgl [Cond.selects yX1_insertNote.cls yX1_insertNote yX1_insertNote] [507] (by decide +kernel) (by decide +kernel) _ List.mem_cons_self, by decide +kernel⟩
theorem cw_X2_38 : CwV RX2 38 yX6_meantIn cX6_meantIn 3 (some .int) 2 := ⟨tgl _ [592, 593, 6, 595] (by decide +kernel) (by decide +kernel), tgl [Cond.selects yX6_meantIn.cls yX6_meantIn yX6_meantIn] [594] (by decide +kernel) (by decide +kernel) _ List.mem_cons_self, by decide +kernel⟩
theorem cw_X2_42 : CwV RX2 42 yX2_sortIn cX2_sortIn 3 none 1 := ⟨tgl _ [596, 598, 8, 599] (by decide +kernel) (by decide +kernel), tgp _ 15 (by decide +kernel) (by decide +kernel), by decide +kernel⟩
theorem cw_X2_52 : CwV RX2 52 yX2_addRow cX2_addRow 5 none 3 := ⟨tgl _ [600, 602, 8, 603] (by decide +kernel) (by decide +kernel), tgp _ 16 (by decide +kernel) (by decide +kernel), by decide +kernel⟩
theorem cw_X2_56 : CwV RX2 56 yX2_addPiece cX2_addPiece 3 none 2 := ⟨tgl _ [604, 606, 8, 607] (by decide +kernel) (by decide +kernel), tgp _ 17 (by decide +kernel) (by decide +kernel), by decide +kernel⟩
theorem cw_X3_44 : CwV RX3 44 yX3_skipBlanks cX3_skipBlanks 1 none 0 := ⟨tgl _ [647, 649, 7, 650] (by decide +kernel) (by decide +kernel), tgp _ 18 (by decide +kernel) (by decide +kernel), by decide +kernel⟩
theorem cw_X3_47 : CwV RX3 47 yX3_readClause cX3_readClause 4 (some .boolean) 0 := ⟨tgl _ [651, 653, 7, 654] (by decide +kernel) (by decide +kernel), tgp _ 19 (by decide +kernel) (by decide +kernel), by decide +kernel⟩
theorem cw_X3_51 : CwV RX3 51 yX3_readHead cX3_readHead 3 (some .int) 0 := ⟨tgl _ [655, 657, 7, 658] (by decide +kernel) (by decide +kernel), tgp _ 20 (by decide +kernel) (by decide +kernel), by decide +kernel⟩
theorem cw_X3_55 : CwV RX3 55 yX3_blame cX3_blame 3 (some .boolean) 2 := ⟨tgl _ [732, 734, 7, 735] (by decide +kernel) (by decide +kernel), tgp _ 23 (by decide +kernel) (by decide +kernel), by decide +kernel⟩
theorem cw_X3_59 : CwV RX3 59 yX3_readNumber cX3_readNumber 4 (some .boolean) 1 := ⟨tgl _ [736, 738, 7, 739] (by decide +kernel) (by decide +kernel), tgp _ 24 (by decide +kernel) (by decide +kernel), by decide +kernel⟩
theorem cw_X3_63 : CwV RX3 63 yX3_readShow cX3_readShow 2 (some .boolean) 0 := ⟨tgl _ [745, 747, 7, 748] (by decide +kernel) (by decide +kernel), tgp _ 26 (by decide +kernel) (by decide +kernel), by decide +kernel⟩
theorem cw_X3_66 : CwV RX3 66 yX3_readEnd cX3_readEnd 1 (some .boolean) 0 := ⟨tgl _ [749, 751, 7, 752] (by decide +kernel) (by decide +kernel), tgp _ 27 (by decide +kernel) (by decide +kernel), by decide +kernel⟩
theorem cw_X3_69 : CwV RX3 69 yX3_readChoice cX3_readChoice 4 (some .boolean) 1 := ⟨tgl _ [753, 755, 7, 756] (by decide +kernel) (by decide +kernel), tgp _ 28 (by decide +kernel) (by decide +kernel), by decide +kernel⟩
theorem cw_X3_72 : CwV RX3 72 yX3_wordEnd cX3_wordEnd 2 (some .int) 0 := ⟨tgl _ [659, 661, 7, 662] (by decide +kernel) (by decide +kernel), tgp _ 21 (by decide +kernel) (by decide +kernel), by decide +kernel⟩
theorem cw_X3_75 : CwS RX3 75 yX3_headOf cX3_headOf 1 (some (.object "java/lang/String")) 1 := ⟨tgl _ [663, 664, 7, 665] (by decide +kernel) (by decide +kernel), by decide +kernel⟩
theorem cw_X3_79 : CwV RX3 79 yX3_spells cX3_spells 4 (some .boolean) 2 := ⟨tgl _ [676, 678, 7, 679] (by decide +kernel) (by decide +kernel), tgp _ 22 (by decide +kernel) (by decide +kernel), by decide +kernel⟩
theorem cw_X3_83 : CwS RX3 83 yX3_choiceOf cX3_choiceOf 2 (some (.object "java/lang/String")) 2 := ⟨tgl _ [757, 758, 7, 759] (by decide +kernel) (by decide +kernel), by decide +kernel⟩
theorem cw_X3_87 : CwV RX3 87 yX3_isInBounds cX3_isInBounds 3 (some .boolean) 2 := ⟨tgl _ [740, 742, 7, 743] (by decide +kernel) (by decide +kernel), tgp _ 25 (by decide +kernel) (by decide +kernel), by decide +kernel⟩
theorem cw_X4_46 : CwV RX4 46 yX4_compareAuthors cX4_compareAuthors 3 (some .int) 2 := ⟨tgl _ [422, 424, 2, 425] (by decide +kernel) (by decide +kernel), tgp _ 6 (by decide +kernel) (by decide +kernel), by decide +kernel⟩
theorem cw_X5_39 : CwV RX5 39 yX5_setTrial cX5_setTrial 4 none 3 := ⟨tgl _ [830, 832, 9, 833] (by decide +kernel) (by decide +kernel), tgp _ 31 (by decide +kernel) (by decide +kernel), by decide +kernel⟩
theorem cw_X5_43 : CwV RX5 43 yX6_present cX6_present 4 none 1 := ⟨tgl _ [834, 427, 6, 429] (by decide +kernel) (by decide +kernel), tgl [Cond.selects yX6_present.cls yX6_present yX6_present] [428] (by decide +kernel) (by decide +kernel) _ List.mem_cons_self, by decide +kernel⟩
theorem cw_X5_47 : CwV RX5 47 yX5_weigh cX5_weigh 3 none 1 := ⟨tgl _ [835, 837, 9, 838] (by decide +kernel) (by decide +kernel), tgp _ 32 (by decide +kernel) (by decide +kernel), by decide +kernel⟩
theorem cw_X5_51 : CwV RX5 51 yX6_unclearWorks cX6_unclearWorks 3 (some .int) 0 := ⟨tgl _ [839, 617, 6, 619] (by decide +kernel) (by decide +kernel), tgl [Cond.selects yX6_unclearWorks.cls yX6_unclearWorks yX6_unclearWorks] [618] (by decide +kernel) (by decide +kernel) _ List.mem_cons_self, by decide +kernel⟩
theorem cw_X5_55 : CwV RX5 55 yX6_roomOfAll cX6_roomOfAll 3 (some .int) 0 := ⟨tgl _ [840, 625, 6, 627] (by decide +kernel) (by decide +kernel), tgl [Cond.selects yX6_roomOfAll.cls yX6_roomOfAll yX6_roomOfAll] [626] (by decide +kernel) (by decide +kernel) _ List.mem_cons_self, by decide +kernel⟩
theorem cw_X6_67 : CwV RX6 67 yX1_meantAs cX1_meantAs 4 (some .int) 1 := ⟨tgl _ [389, 370, 4, 372] (by decide +kernel) (by decide +kernel), tgl [Cond.selects yX1_meantAs.cls yX1_meantAs yX1_meantAs] [371] (by decide +kernel) (by decide +kernel) _ List.mem_cons_self, by decide +kernel⟩
theorem cw_X6_73 : CwV RX6 73 yX6_layRow cX6_layRow 4 none 0 := ⟨tgl _ [390, 392, 6, 393] (by decide +kernel) (by decide +kernel), tgp _ 2 (by decide +kernel) (by decide +kernel), by decide +kernel⟩
theorem cw_X6_76 : CwV RX6 76 yX6_findCited cX6_findCited 3 none 0 := ⟨tgl _ [399, 401, 6, 402] (by decide +kernel) (by decide +kernel), tgp _ 3 (by decide +kernel) (by decide +kernel), by decide +kernel⟩
theorem cw_X6_79 : CwV RX6 79 yX6_sortList cX6_sortList 2 none 0 := ⟨tgl _ [407, 409, 6, 410] (by decide +kernel) (by decide +kernel), tgp _ 4 (by decide +kernel) (by decide +kernel), by decide +kernel⟩
theorem cw_X6_85 : CwV RX6 85 yX6_present cX6_present 4 none 1 := ⟨tgl _ [426, 427, 6, 429] (by decide +kernel) (by decide +kernel), tgl [Cond.selects yX6_present.cls yX6_present yX6_present] [428] (by decide +kernel) (by decide +kernel) _ List.mem_cons_self, by decide +kernel⟩
theorem cw_X6_95 : CwV RX6 95 yX1_callAt cX1_callAt 3 (some .int) 2 := ⟨tgl _ [395, 396, 4, 398] (by decide +kernel) (by decide +kernel), tgl [Cond.selects yX1_callAt.cls yX1_callAt yX1_callAt] [397] (by decide +kernel) (by decide +kernel) _ List.mem_cons_self, by decide +kernel⟩
theorem cw_X6_99 : CwV RX6 99 yX6_meantAt cX6_meantAt 2 (some .int) 1 := ⟨tgl _ [403, 404, 6, 406] (by decide +kernel) (by decide +kernel), tgl [Cond.selects yX6_meantAt.cls yX6_meantAt yX6_meantAt] [405] (by decide +kernel) (by decide +kernel) _ List.mem_cons_self, by decide +kernel⟩
theorem cw_X6_102 : CwV RX6 102 yX6_isMeantAhead cX6_isMeantAhead 4 (some .boolean) 2 := ⟨tgl _ [571, 573, 6, 574] (by decide +kernel) (by decide +kernel), tgp _ 13 (by decide +kernel) (by decide +kernel), by decide +kernel⟩
theorem cw_X6_106 : CwV RX6 106 yX6_isNear cX6_isNear 4 (some .boolean) 2 := ⟨tgl _ [575, 577, 6, 578] (by decide +kernel) (by decide +kernel), tgp _ 14 (by decide +kernel) (by decide +kernel), by decide +kernel⟩
theorem cw_X6_115 : CwV RX6 115 yX6_meantIn cX6_meantIn 3 (some .int) 2 := ⟨tgl _ [812, 593, 6, 595] (by decide +kernel) (by decide +kernel), tgl [Cond.selects yX6_meantIn.cls yX6_meantIn yX6_meantIn] [594] (by decide +kernel) (by decide +kernel) _ List.mem_cons_self, by decide +kernel⟩
theorem cw_X6_121 : CwV RX6 121 yX6_roomOf cX6_roomOf 3 (some .int) 1 := ⟨tgl _ [628, 470, 6, 472] (by decide +kernel) (by decide +kernel), tgl [Cond.selects yX6_roomOf.cls yX6_roomOf yX6_roomOf] [471] (by decide +kernel) (by decide +kernel) _ List.mem_cons_self, by decide +kernel⟩
theorem cw_X6_124 : CwV RX6 124 yX4_initialsOf cX4_initialsOf 3 (some .int) 1 := ⟨tgl _ [473, 474, 2, 476] (by decide +kernel) (by decide +kernel), tgl [Cond.selects yX4_initialsOf.cls yX4_initialsOf yX4_initialsOf] [475] (by decide +kernel) (by decide +kernel) _ List.mem_cons_self, by decide +kernel⟩
theorem cw_X6_127 : CwV RX6 127 yX4_isBeyond cX4_isBeyond 3 (some .boolean) 2 := ⟨tgl _ [477, 478, 2, 480] (by decide +kernel) (by decide +kernel), tgl [Cond.selects yX4_isBeyond.cls yX4_isBeyond yX4_isBeyond] [479] (by decide +kernel) (by decide +kernel) _ List.mem_cons_self, by decide +kernel⟩
theorem cw_X6_130 : CwV RX6 130 yX6_authorsShown cX6_authorsShown 6 (some .int) 2 := ⟨tgl _ [430, 432, 6, 433] (by decide +kernel) (by decide +kernel), tgp _ 7 (by decide +kernel) (by decide +kernel), by decide +kernel⟩
theorem cw_X6_134 : CwV RX6 134 yX6_hasNamesake cX6_hasNamesake 4 (some .boolean) 1 := ⟨tgl _ [442, 444, 6, 445] (by decide +kernel) (by decide +kernel), tgp _ 9 (by decide +kernel) (by decide +kernel), by decide +kernel⟩
theorem cw_X6_138 : CwV RX6 138 yX6_giveLetter cX6_giveLetter 7 none 2 := ⟨tgl _ [454, 456, 6, 457] (by decide +kernel) (by decide +kernel), tgp _ 10 (by decide +kernel) (by decide +kernel), by decide +kernel⟩
theorem cw_X6_142 : CwS RX6 142 yJ7_fill_53178 cJ7_fill_53178 4 none 2 := ⟨tgl _ [394, 109, 5, 110] (by decide +kernel) (by decide +kernel), by decide +kernel⟩
theorem cw_X6_154 : CwV RX6 154 yX6_sinkToPlace cX6_sinkToPlace 4 none 1 := ⟨tgl _ [411, 413, 6, 414] (by decide +kernel) (by decide +kernel), tgp _ 5 (by decide +kernel) (by decide +kernel), by decide +kernel⟩
theorem cw_X6_158 : CwV RX6 158 yX4_isAhead cX4_isAhead 7 (some .boolean) 3 := ⟨tgl _ [415, 416, 2, 418] (by decide +kernel) (by decide +kernel), tgl [Cond.selects yX4_isAhead.cls yX4_isAhead yX4_isAhead] [417] (by decide +kernel) (by decide +kernel) _ List.mem_cons_self, by decide +kernel⟩
theorem cw_X6_165 : CwV RX6 165 yX6_hasLikeWork cX6_hasLikeWork 4 (some .boolean) 2 := ⟨tgl _ [434, 436, 6, 437] (by decide +kernel) (by decide +kernel), tgp _ 8 (by decide +kernel) (by decide +kernel), by decide +kernel⟩
theorem cw_X6_168 : CwV RX6 168 yX4_isLike cX4_isLike 7 (some .boolean) 3 := ⟨tgl _ [438, 439, 2, 441] (by decide +kernel) (by decide +kernel), tgl [Cond.selects yX4_isLike.cls yX4_isLike yX4_isLike] [440] (by decide +kernel) (by decide +kernel) _ List.mem_cons_self, by decide +kernel⟩
theorem cw_X6_172 : CwV RX6 172 yX4_firstFamily cX4_firstFamily 2 (some .int) 1 := ⟨tgl _ [446, 447, 2, 449] (by decide +kernel) (by decide +kernel), tgl [Cond.selects yX4_firstFamily.cls yX4_firstFamily yX4_firstFamily] [448] (by decide +kernel) (by decide +kernel) _ List.mem_cons_self, by decide +kernel⟩
theorem cw_X6_175 : CwV RX6 175 yX4_sameInitials cX4_sameInitials 3 (some .boolean) 2 := ⟨tgl _ [450, 451, 2, 453] (by decide +kernel) (by decide +kernel), tgl [Cond.selects yX4_sameInitials.cls yX4_sameInitials yX4_sameInitials] [452] (by decide +kernel) (by decide +kernel) _ List.mem_cons_self, by decide +kernel⟩
theorem cw_X6_178 : CwV RX6 178 yX6_looksAlike cX6_looksAlike 3 (some .boolean) 2 := ⟨tgl _ [458, 460, 6, 461] (by decide +kernel) (by decide +kernel), tgp _ 11 (by decide +kernel) (by decide +kernel), by decide +kernel⟩
theorem cw_X7_74 : CwS RX7 74 yX7_isAuthor cX7_isAuthor 3 (some .boolean) 3 := ⟨tgl _ [335, 336, 1, 337] (by decide +kernel) (by decide +kernel), by decide +kernel⟩
theorem cw_X7_78 : CwS RX7 78 yX7_within cX7_within 3 (some .boolean) 3 := ⟨tgl _ [338, 339, 1, 340] (by decide +kernel) (by decide +kernel), by decide +kernel⟩
theorem cw_X7_85 : CwV RX7 85 yX4_addWork cX4_addWork 4 (some .int) 2 := ⟨tgl _ [341, 342, 2, 344] (by decide +kernel) (by decide +kernel), tgl [Cond.selects yX4_addWork.cls yX4_addWork yX4_addWork] [343] (by decide +kernel) (by decide +kernel) _ List.mem_cons_self, by decide +kernel⟩
theorem cw_X7_89 : CwV RX7 89 yX4_addAuthor cX4_addAuthor 6 none 4 := ⟨tgl _ [345, 346, 2, 348] (by decide +kernel) (by decide +kernel), tgl [Cond.selects yX4_addAuthor.cls yX4_addAuthor yX4_addAuthor] [347] (by decide +kernel) (by decide +kernel) _ List.mem_cons_self, by decide +kernel⟩
theorem cw_X7_93 : CwV RX7 93 yX7_unsettle cX7_unsettle 1 none 0 := ⟨tgl _ [349, 351, 1, 352] (by decide +kernel) (by decide +kernel), tgp _ 0 (by decide +kernel) (by decide +kernel), by decide +kernel⟩
theorem cw_X7_96 : CwV RX7 96 yX4_has cX4_has 2 (some .boolean) 1 := ⟨tgl _ [357, 358, 2, 360] (by decide +kernel) (by decide +kernel), tgl [Cond.selects yX4_has.cls yX4_has yX4_has] [359] (by decide +kernel) (by decide +kernel) _ List.mem_cons_self, by decide +kernel⟩
theorem cw_X7_113 : CwV RX7 113 yX1_meantAs cX1_meantAs 4 (some .int) 1 := ⟨tgl _ [369, 370, 4, 372] (by decide +kernel) (by decide +kernel), tgl [Cond.selects yX1_meantAs.cls yX1_meantAs yX1_meantAs] [371] (by decide +kernel) (by decide +kernel) _ List.mem_cons_self, by decide +kernel⟩
theorem cw_X7_123 : CwV RX7 123 yX7_settledView cX7_settledView 1 (some (.object "CitedWorks$View")) 0 := ⟨tgl _ [381, 383, 1, 384] (by decide +kernel) (by decide +kernel), tgp _ 1 (by decide +kernel) (by decide +kernel), by decide +kernel⟩
theorem cw_X7_130 : CwV RX7 130 yX6_isCited cX6_isCited 2 (some .boolean) 1 := ⟨tgl _ [462, 463, 6, 465] (by decide +kernel) (by decide +kernel), tgl [Cond.selects yX6_isCited.cls yX6_isCited yX6_isCited] [464] (by decide +kernel) (by decide +kernel) _ List.mem_cons_self, by decide +kernel⟩
theorem cw_X7_133 : CwS RX7 133 yX7_aboutCited cX7_aboutCited 3 (some .int) 3 := ⟨tgl _ [466, 467, 1, 468] (by decide +kernel) (by decide +kernel), by decide +kernel⟩
theorem cw_X7_149 : CwS RX7 149 yX7_shortFigures cX7_shortFigures 4 (some .int) 2 := ⟨tgl _ [489, 490, 1, 491] (by decide +kernel) (by decide +kernel), by decide +kernel⟩
theorem cw_X7_152 : CwS RX7 152 yX7_figures cX7_figures 1 (some .int) 1 := ⟨tgl _ [492, 493, 1, 494] (by decide +kernel) (by decide +kernel), by decide +kernel⟩
theorem cw_X7_167 : CwV RX7 167 yX1_insertNote cX1_insertNote 3 none 1 := ⟨tgl _ [505, 506, 4, 508] (by decide +kernel) (by decide +kernel), tgl [Cond.selects yX1_insertNote.cls yX1_insertNote yX1_insertNote] [507] (by decide +kernel) (by decide +kernel) _ List.mem_cons_self, by decide +kernel⟩
theorem cw_X7_171 : CwV RX7 171 yX1_has cX1_has 2 (some .boolean) 1 := ⟨tgl _ [520, 521, 4, 523] (by decide +kernel) (by decide +kernel), tgl [Cond.selects yX1_has.cls yX1_has yX1_has] [522] (by decide +kernel) (by decide +kernel) _ List.mem_cons_self, by decide +kernel⟩
theorem cw_X7_175 : CwV RX7 175 yX1_removeNote cX1_removeNote 3 none 1 := ⟨tgl _ [524, 525, 4, 527] (by decide +kernel) (by decide +kernel), tgl [Cond.selects yX1_removeNote.cls yX1_removeNote yX1_removeNote] [526] (by decide +kernel) (by decide +kernel) _ List.mem_cons_self, by decide +kernel⟩
theorem cw_X7_178 : CwV RX7 178 yX1_shiftNote cX1_shiftNote 3 none 2 := ⟨tgl _ [532, 533, 4, 535] (by decide +kernel) (by decide +kernel), tgl [Cond.selects yX1_shiftNote.cls yX1_shiftNote yX1_shiftNote] [534] (by decide +kernel) (by decide +kernel) _ List.mem_cons_self, by decide +kernel⟩
theorem cw_X7_183 : CwV RX7 183 yX0_addCall cX0_addCall 4 (some .int) 2 := ⟨tgl _ [542, 543, 3, 545] (by decide +kernel) (by decide +kernel), tgl [Cond.selects yX0_addCall.cls yX0_addCall yX0_addCall] [544] (by decide +kernel) (by decide +kernel) _ List.mem_cons_self, by decide +kernel⟩
theorem cw_X7_186 : CwV RX7 186 yX1_addCall cX1_addCall 3 none 2 := ⟨tgl _ [546, 547, 4, 549] (by decide +kernel) (by decide +kernel), tgl [Cond.selects yX1_addCall.cls yX1_addCall yX1_addCall] [548] (by decide +kernel) (by decide +kernel) _ List.mem_cons_self, by decide +kernel⟩
theorem cw_X7_188 : CwV RX7 188 yX6_stands cX6_stands 2 (some .boolean) 1 := ⟨tgl _ [554, 555, 6, 557] (by decide +kernel) (by decide +kernel), tgl [Cond.selects yX6_stands.cls yX6_stands yX6_stands] [556] (by decide +kernel) (by decide +kernel) _ List.mem_cons_self, by decide +kernel⟩
theorem cw_X7_200 : CwV RX7 200 yX1_removeCall cX1_removeCall 4 none 2 := ⟨tgl _ [558, 559, 4, 561] (by decide +kernel) (by decide +kernel), tgl [Cond.selects yX1_removeCall.cls yX1_removeCall yX1_removeCall] [560] (by decide +kernel) (by decide +kernel) _ List.mem_cons_self, by decide +kernel⟩
theorem cw_X7_206 : CwV RX7 206 yX6_meantAt cX6_meantAt 2 (some .int) 1 := ⟨tgl _ [566, 404, 6, 406] (by decide +kernel) (by decide +kernel), tgl [Cond.selects yX6_meantAt.cls yX6_meantAt yX6_meantAt] [405] (by decide +kernel) (by decide +kernel) _ List.mem_cons_self, by decide +kernel⟩
theorem cw_X7_212 : CwV RX7 212 yX6_formAt cX6_formAt 4 (some .int) 1 := ⟨tgl _ [567, 568, 6, 570] (by decide +kernel) (by decide +kernel), tgl [Cond.selects yX6_formAt.cls yX6_formAt yX6_formAt] [569] (by decide +kernel) (by decide +kernel) _ List.mem_cons_self, by decide +kernel⟩
theorem cw_X7_215 : CwV RX7 215 yX1_callAt cX1_callAt 3 (some .int) 2 := ⟨tgl _ [583, 396, 4, 398] (by decide +kernel) (by decide +kernel), tgl [Cond.selects yX1_callAt.cls yX1_callAt yX1_callAt] [397] (by decide +kernel) (by decide +kernel) _ List.mem_cons_self, by decide +kernel⟩
theorem cw_X7_218 : CwV RX7 218 yX2_cutUp cX2_cutUp 5 none 2 := ⟨tgl _ [588, 589, 8, 591] (by decide +kernel) (by decide +kernel), tgl [Cond.selects yX2_cutUp.cls yX2_cutUp yX2_cutUp] [590] (by decide +kernel) (by decide +kernel) _ List.mem_cons_self, by decide +kernel⟩
theorem cw_X7_227 : CwV RX7 227 yX1_joinedWorks cX1_joinedWorks 3 (some .int) 0 := ⟨tgl _ [612, 613, 4, 615] (by decide +kernel) (by decide +kernel), tgl [Cond.selects yX1_joinedWorks.cls yX1_joinedWorks yX1_joinedWorks] [614] (by decide +kernel) (by decide +kernel) _ List.mem_cons_self, by decide +kernel⟩
theorem cw_X7_234 : CwV RX7 234 yX6_unclearWorks cX6_unclearWorks 3 (some .int) 0 := ⟨tgl _ [616, 617, 6, 619] (by decide +kernel) (by decide +kernel), tgl [Cond.selects yX6_unclearWorks.cls yX6_unclearWorks yX6_unclearWorks] [618] (by decide +kernel) (by decide +kernel) _ List.mem_cons_self, by decide +kernel⟩
theorem cw_X7_237 : CwV RX7 237 yX6_letteredWorks cX6_letteredWorks 3 (some .int) 0 := ⟨tgl _ [620, 621, 6, 623] (by decide +kernel) (by decide +kernel), tgl [Cond.selects yX6_letteredWorks.cls yX6_letteredWorks yX6_letteredWorks] [622] (by decide +kernel) (by decide +kernel) _ List.mem_cons_self, by decide +kernel⟩
theorem cw_X7_240 : CwV RX7 240 yX6_roomOfAll cX6_roomOfAll 3 (some .int) 0 := ⟨tgl _ [624, 625, 6, 627] (by decide +kernel) (by decide +kernel), tgl [Cond.selects yX6_roomOfAll.cls yX6_roomOfAll yX6_roomOfAll] [626] (by decide +kernel) (by decide +kernel) _ List.mem_cons_self, by decide +kernel⟩
theorem cw_X7_245 : CwV RX7 245 yX3_addByte cX3_addByte 2 none 1 := ⟨tgl _ [633, 634, 7, 636] (by decide +kernel) (by decide +kernel), tgl [Cond.selects yX3_addByte.cls yX3_addByte yX3_addByte] [635] (by decide +kernel) (by decide +kernel) _ List.mem_cons_self, by decide +kernel⟩
theorem cw_X7_248 : CwV RX7 248 yX3_readText cX3_readText 2 (some .int) 0 := ⟨tgl _ [641, 642, 7, 644] (by decide +kernel) (by decide +kernel), tgl [Cond.selects yX3_readText.cls yX3_readText yX3_readText] [643] (by decide +kernel) (by decide +kernel) _ List.mem_cons_self, by decide +kernel⟩
theorem cw_X7_264 : CwV RX7 264 yX1_copyOf cX1_copyOf 2 none 1 := ⟨tgl _ [784, 785, 4, 787] (by decide +kernel) (by decide +kernel), tgl [Cond.selects yX1_copyOf.cls yX1_copyOf yX1_copyOf] [786] (by decide +kernel) (by decide +kernel) _ List.mem_cons_self, by decide +kernel⟩
theorem cw_X7_268 : CwV RX7 268 yX7_isKept cX7_isKept 2 (some .boolean) 1 := ⟨tgl _ [792, 794, 1, 795] (by decide +kernel) (by decide +kernel), tgp _ 29 (by decide +kernel) (by decide +kernel), by decide +kernel⟩
theorem cw_X7_271 : CwV RX7 271 yX6_settle cX6_settle 2 none 0 := ⟨tgl _ [385, 386, 6, 388] (by decide +kernel) (by decide +kernel), tgl [Cond.selects yX6_settle.cls yX6_settle yX6_settle] [387] (by decide +kernel) (by decide +kernel) _ List.mem_cons_self, by decide +kernel⟩
theorem cw_X7_274 : CwV RX7 274 yX7_readsOtherwise cX7_readsOtherwise 7 (some .boolean) 1 := ⟨tgl _ [800, 802, 1, 803] (by decide +kernel) (by decide +kernel), tgp _ 30 (by decide +kernel) (by decide +kernel), by decide +kernel⟩
theorem cw_X7_280 : CwV RX7 280 yX6_noteMeans cX6_noteMeans 4 (some .boolean) 2 := ⟨tgl _ [808, 809, 6, 811] (by decide +kernel) (by decide +kernel), tgl [Cond.selects yX6_noteMeans.cls yX6_noteMeans yX6_noteMeans] [810] (by decide +kernel) (by decide +kernel) _ List.mem_cons_self, by decide +kernel⟩
theorem cw_X7_284 : CwV RX7 284 yX6_worksCalled cX6_worksCalled 4 (some .int) 1 := ⟨tgl _ [817, 818, 6, 820] (by decide +kernel) (by decide +kernel), tgl [Cond.selects yX6_worksCalled.cls yX6_worksCalled yX6_worksCalled] [819] (by decide +kernel) (by decide +kernel) _ List.mem_cons_self, by decide +kernel⟩
theorem cw_X7_291 : CwV RX7 291 yX5_search cX5_search 5 none 1 := ⟨tgl _ [825, 826, 9, 828] (by decide +kernel) (by decide +kernel), tgl [Cond.selects yX5_search.cls yX5_search yX5_search] [827] (by decide +kernel) (by decide +kernel) _ List.mem_cons_self, by decide +kernel⟩
theorem cw_X7_319 : CwV RX7 319 yX6_roomOf cX6_roomOf 3 (some .int) 1 := ⟨tgl _ [469, 470, 6, 472] (by decide +kernel) (by decide +kernel), tgl [Cond.selects yX6_roomOf.cls yX6_roomOf yX6_roomOf] [471] (by decide +kernel) (by decide +kernel) _ List.mem_cons_self, by decide +kernel⟩
theorem cw_X8_120 : CwS RX8 120 yX8_atFirst cX8_atFirst 1 (some .int) 1 := ⟨tgl _ [847, 848, 10, 849] (by decide +kernel) (by decide +kernel), by decide +kernel⟩
theorem cw_X8_127 : CwS RX8 127 yX8_in cX8_in 6 (some .boolean) 3 := ⟨tgl _ [1000, 1001, 10, 1002] (by decide +kernel) (by decide +kernel), by decide +kernel⟩
theorem cw_X8_135 : CwS RX8 135 yX8_isName cX8_isName 3 (some .boolean) 3 := ⟨tgl _ [996, 997, 10, 998] (by decide +kernel) (by decide +kernel), by decide +kernel⟩
theorem cw_X8_143 : CwV RX8 143 yX8_name cX8_name 6 none 4 := ⟨tgl _ [1006, 1008, 10, 1009] (by decide +kernel) (by decide +kernel), tgp _ 33 (by decide +kernel) (by decide +kernel), by decide +kernel⟩
theorem cw_X8_147 : CwV RX8 147 yX8_noWork cX8_noWork 2 (some .boolean) 1 := ⟨tgl _ [1014, 1016, 10, 1017] (by decide +kernel) (by decide +kernel), tgp _ 34 (by decide +kernel) (by decide +kernel), by decide +kernel⟩
theorem cw_X8_153 : CwV RX8 153 yX8_meant cX8_meant 3 (some .int) 1 := ⟨tgl _ [1027, 1029, 10, 1030] (by decide +kernel) (by decide +kernel), tgp _ 35 (by decide +kernel) (by decide +kernel), by decide +kernel⟩
theorem cw_X8_164 : CwV RX8 164 yX8_sizeOf cX8_sizeOf 2 (some .int) 1 := ⟨tgl _ [1052, 1054, 10, 1055] (by decide +kernel) (by decide +kernel), tgp _ 38 (by decide +kernel) (by decide +kernel), by decide +kernel⟩
theorem cw_X8_167 : CwV RX8 167 yX8_callAt cX8_callAt 3 (some .int) 2 := ⟨tgl _ [1056, 1058, 10, 1059] (by decide +kernel) (by decide +kernel), tgp _ 39 (by decide +kernel) (by decide +kernel), by decide +kernel⟩
theorem cw_X8_171 : CwV RX8 171 yX8_styleOf cX8_styleOf 2 (some .int) 1 := ⟨tgl _ [1064, 1066, 10, 1067] (by decide +kernel) (by decide +kernel), tgp _ 41 (by decide +kernel) (by decide +kernel), by decide +kernel⟩
theorem cw_X8_174 : CwV RX8 174 yX8_byName cX8_byName 6 (some .int) 2 := ⟨tgl _ [1076, 1078, 10, 1079] (by decide +kernel) (by decide +kernel), tgp _ 44 (by decide +kernel) (by decide +kernel), by decide +kernel⟩
theorem cw_X8_180 : CwV RX8 180 yX8_isCited cX8_isCited 2 (some .boolean) 1 := ⟨tgl _ [1068, 1070, 10, 1071] (by decide +kernel) (by decide +kernel), tgp _ 42 (by decide +kernel) (by decide +kernel), by decide +kernel⟩
theorem cw_X8_183 : CwV RX8 183 yX8_isAhead cX8_isAhead 3 (some .boolean) 2 := ⟨tgl _ [1072, 1074, 10, 1075] (by decide +kernel) (by decide +kernel), tgp _ 43 (by decide +kernel) (by decide +kernel), by decide +kernel⟩
theorem cw_X8_187 : CwS RX8 187 yX8_lesser cX8_lesser 2 (some .int) 2 := ⟨tgl _ [1096, 1097, 10, 1098] (by decide +kernel) (by decide +kernel), by decide +kernel⟩
theorem cw_X8_190 : CwV RX8 190 yX8_shownAtFirst cX8_shownAtFirst 2 (some .int) 1 := ⟨tgl _ [1088, 1090, 10, 1091] (by decide +kernel) (by decide +kernel), tgp _ 47 (by decide +kernel) (by decide +kernel), by decide +kernel⟩
theorem cw_X8_193 : CwV RX8 193 yX8_isLike cX8_isLike 7 (some .boolean) 3 := ⟨tgl _ [1092, 1094, 10, 1095] (by decide +kernel) (by decide +kernel), tgp _ 48 (by decide +kernel) (by decide +kernel), by decide +kernel⟩
theorem cw_X8_196 : CwV RX8 196 yX8_shownOf cX8_shownOf 6 (some .int) 1 := ⟨tgl _ [1084, 1086, 10, 1087] (by decide +kernel) (by decide +kernel), tgp _ 46 (by decide +kernel) (by decide +kernel), by decide +kernel⟩
theorem cw_X8_199 : CwV RX8 199 yX8_showsInitials cX8_showsInitials 5 (some .boolean) 1 := ⟨tgl _ [1099, 1101, 10, 1102] (by decide +kernel) (by decide +kernel), tgp _ 49 (by decide +kernel) (by decide +kernel), by decide +kernel⟩
theorem cw_X8_202 : CwV RX8 202 yX8_isFaceLike cX8_isFaceLike 5 (some .boolean) 2 := ⟨tgl _ [1103, 1105, 10, 1106] (by decide +kernel) (by decide +kernel), tgp _ 50 (by decide +kernel) (by decide +kernel), by decide +kernel⟩
theorem cw_X8_205 : CwS RX8 205 yX8_one cX8_one 1 (some .int) 1 := ⟨tgl _ [1107, 1108, 10, 1109] (by decide +kernel) (by decide +kernel), by decide +kernel⟩
theorem cw_X8_209 : CwV RX8 209 yX8_findCalls cX8_findCalls 4 none 0 := ⟨tgl _ [1048, 1050, 10, 1051] (by decide +kernel) (by decide +kernel), tgp _ 37 (by decide +kernel) (by decide +kernel), by decide +kernel⟩
theorem cw_X8_212 : CwV RX8 212 yX8_findList cX8_findList 3 none 0 := ⟨tgl _ [1060, 1062, 10, 1063] (by decide +kernel) (by decide +kernel), tgp _ 40 (by decide +kernel) (by decide +kernel), by decide +kernel⟩
theorem cw_X8_215 : CwV RX8 215 yX8_findShown cX8_findShown 5 none 0 := ⟨tgl _ [1080, 1082, 10, 1083] (by decide +kernel) (by decide +kernel), tgp _ 45 (by decide +kernel) (by decide +kernel), by decide +kernel⟩
theorem cw_X8_218 : CwV RX8 218 yX8_roomOf cX8_roomOf 3 (some .int) 1 := ⟨tgl _ [1112, 1114, 10, 1115] (by decide +kernel) (by decide +kernel), tgp _ 51 (by decide +kernel) (by decide +kernel), by decide +kernel⟩
theorem cw_X8_221 : CwV RX8 221 yX8_findAll cX8_findAll 2 none 1 := ⟨tgl _ [1044, 1046, 10, 1047] (by decide +kernel) (by decide +kernel), tgp _ 36 (by decide +kernel) (by decide +kernel), by decide +kernel⟩
theorem cw_X8_229 : CwS RX8 229 yX8_figures cX8_figures 1 (some .int) 1 := ⟨tgl _ [1128, 1129, 10, 1130] (by decide +kernel) (by decide +kernel), by decide +kernel⟩
theorem cw_X8_232 : CwV RX8 232 yX8_toldFigures cX8_toldFigures 5 (some .int) 1 := ⟨tgl _ [1124, 1126, 10, 1127] (by decide +kernel) (by decide +kernel), tgp _ 52 (by decide +kernel) (by decide +kernel), by decide +kernel⟩
theorem cw_X8_235 : CwV RX8 235 yX8_copyNote cX8_copyNote 4 none 2 := ⟨tgl _ [1135, 1137, 10, 1138] (by decide +kernel) (by decide +kernel), tgp _ 53 (by decide +kernel) (by decide +kernel), by decide +kernel⟩
theorem cw_X8_239 : CwV RX8 239 yX8_noNote cX8_noNote 2 (some .boolean) 1 := ⟨tgl _ [1143, 1145, 10, 1146] (by decide +kernel) (by decide +kernel), tgp _ 54 (by decide +kernel) (by decide +kernel), by decide +kernel⟩
theorem cw_X8_244 : CwV RX8 244 yX8_standing cX8_standing 4 (some .int) 1 := ⟨tgl _ [1160, 1162, 10, 1163] (by decide +kernel) (by decide +kernel), tgp _ 55 (by decide +kernel) (by decide +kernel), by decide +kernel⟩
theorem cw_X8_247 : CwV RX8 247 yX8_formOf cX8_formOf 6 (some .int) 1 := ⟨tgl _ [1168, 1170, 10, 1171] (by decide +kernel) (by decide +kernel), tgp _ 56 (by decide +kernel) (by decide +kernel), by decide +kernel⟩
theorem cw_X8_253 : CwV RX8 253 yX8_findPieces cX8_findPieces 7 none 1 := ⟨tgl _ [1180, 1182, 10, 1183] (by decide +kernel) (by decide +kernel), tgp _ 57 (by decide +kernel) (by decide +kernel), by decide +kernel⟩
theorem cw_X8_256 : CwV RX8 256 yX8_unclear cX8_unclear 3 (some .int) 0 := ⟨tgl _ [1188, 1190, 10, 1191] (by decide +kernel) (by decide +kernel), tgp _ 58 (by decide +kernel) (by decide +kernel), by decide +kernel⟩
theorem cw_X8_260 : CwV RX8 260 yX8_roomAll cX8_roomAll 3 (some .int) 0 := ⟨tgl _ [1192, 1194, 10, 1195] (by decide +kernel) (by decide +kernel), tgp _ 59 (by decide +kernel) (by decide +kernel), by decide +kernel⟩
theorem cw_X8_276 : CwV RX8 276 yX8_look cX8_look 1 (some .int) 0 := ⟨tgl _ [1206, 1208, 10, 1209] (by decide +kernel) (by decide +kernel), tgp _ 60 (by decide +kernel) (by decide +kernel), by decide +kernel⟩
theorem cw_X8_293 : CwV RX8 293 yX8_want cX8_want 4 (some .boolean) 3 := ⟨tgl _ [1224, 1226, 10, 1227] (by decide +kernel) (by decide +kernel), tgp _ 64 (by decide +kernel) (by decide +kernel), by decide +kernel⟩
theorem cw_X8_297 : CwV RX8 297 yX8_isWord cX8_isWord 10 (some .boolean) 7 := ⟨tgl _ [1220, 1222, 10, 1223] (by decide +kernel) (by decide +kernel), tgp _ 63 (by decide +kernel) (by decide +kernel), by decide +kernel⟩
theorem cw_X8_301 : CwV RX8 301 yX8_takeNumber cX8_takeNumber 8 (some .int) 3 := ⟨tgl _ [1232, 1234, 10, 1235] (by decide +kernel) (by decide +kernel), tgp _ 66 (by decide +kernel) (by decide +kernel), by decide +kernel⟩
theorem cw_X8_305 : CwV RX8 305 yX8_takeWord cX8_takeWord 2 none 0 := ⟨tgl _ [1210, 1212, 10, 1213] (by decide +kernel) (by decide +kernel), tgp _ 61 (by decide +kernel) (by decide +kernel), by decide +kernel⟩
theorem cw_X8_308 : CwV RX8 308 yX8_wordOf cX8_wordOf 2 (some .int) 1 := ⟨tgl _ [1238, 1240, 10, 1241] (by decide +kernel) (by decide +kernel), tgp _ 67 (by decide +kernel) (by decide +kernel), by decide +kernel⟩
theorem cw_X8_311 : CwV RX8 311 yX8_kindOf cX8_kindOf 1 (some .int) 0 := ⟨tgl _ [1216, 1218, 10, 1219] (by decide +kernel) (by decide +kernel), tgp _ 62 (by decide +kernel) (by decide +kernel), by decide +kernel⟩
theorem cw_X8_314 : CwV RX8 314 yX8_readClause cX8_readClause 3 none 1 := ⟨tgl _ [1228, 1230, 10, 1231] (by decide +kernel) (by decide +kernel), tgp _ 65 (by decide +kernel) (by decide +kernel), by decide +kernel⟩
theorem cw_X8_321 : CwV RX8 321 yX8_copySlot cX8_copySlot 5 none 2 := ⟨tgl _ [1256, 1258, 10, 1259] (by decide +kernel) (by decide +kernel), tgp _ 68 (by decide +kernel) (by decide +kernel), by decide +kernel⟩
theorem cw_X8_324 : CwV RX8 324 yX8_noVersion cX8_noVersion 2 (some .boolean) 1 := ⟨tgl _ [1264, 1266, 10, 1267] (by decide +kernel) (by decide +kernel), tgp _ 69 (by decide +kernel) (by decide +kernel), by decide +kernel⟩
theorem cw_X8_327 : CwV RX8 327 yX8_readBy cX8_readBy 4 (some .int) 1 := ⟨tgl _ [1272, 1274, 10, 1275] (by decide +kernel) (by decide +kernel), tgp _ 70 (by decide +kernel) (by decide +kernel), by decide +kernel⟩
theorem cw_X8_335 : CwV RX8 335 yX8_tryStyle cX8_tryStyle 5 none 3 := ⟨tgl _ [1289, 1291, 10, 1292] (by decide +kernel) (by decide +kernel), tgp _ 71 (by decide +kernel) (by decide +kernel), by decide +kernel⟩
def CwA (own : String) (idx : Nat) : Prop := ∀ w ∈ ([.methodLink own idx arraycopyName, .native arraycopyName, .static arraycopyName, .initialized "java/lang/System"] : List Cond), w ∈ tg
theorem cwA_X1_38 : CwA RX1 38 := tgl _ [513, 515, 514, 12] (by decide +kernel) (by decide +kernel)
theorem cwA_X3_32 : CwA RX3 32 := tgl _ [646, 515, 514, 12] (by decide +kernel) (by decide +kernel)
theorem cwA_X5_29 : CwA RX5 29 := tgl _ [829, 515, 514, 12] (by decide +kernel) (by decide +kernel)
theorem cwA_X7_255 : CwA RX7 255 := tgl _ [770, 515, 514, 12] (by decide +kernel) (by decide +kernel)
def CwM (own : String) (idx : Nat) : Prop := ∀ w ∈ ([.methodLink own idx Lib.Math.min.name, .static Lib.Math.min.name, .initialized "java/lang/Math", .code Lib.Math.min.name Lib.Math.min.code 2 (some .int)] : List Cond), w ∈ tg
theorem cwM_X4_40 : CwM RX4 40 := tgl _ [419, 420, 11, 421] (by decide +kernel) (by decide +kernel)
def CwN (own : String) (idx : Nat) (y : MethodName) (bytes : ByteArray) (maxL : Nat) (rt : Option FieldType) (n : Nat) : Prop := (∀ w ∈ ([.static y, .initialized y.cls, .code y bytes maxL rt] : List Cond), w ∈ tg) ∧ (y.cls ≠ "java/lang/invoke/MethodHandle" ∧ y.cls ≠ "java/lang/invoke/VarHandle" ∧ (parseMethodDescriptor y.desc).map (fun d => d.parameters.length) = some n) ∧ Cond.methodLinkNest own idx y "CitedWorks" = nestM
theorem cwN_X3_90 : CwN RX3 90 yX7_within cX7_within 3 (some .boolean) 3 := ⟨tgl _ [339, 1, 340] (by decide +kernel) (by decide +kernel), by decide +kernel, by decide +kernel⟩
