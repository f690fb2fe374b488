set_option maxHeartbeats 4000000 in
theorem w_X8_in {G : Gl} {p : Program} {l : Launch} {e : Env} {s0 : State} {m : MethodId} {args : Array Value} {below : List Frame} {meth : Method} {c : Code} (C : Cx G p s0 m args meth c cX8_in 6 RX8 (some .boolean)) {r : Int32}  (x0 : Int64) (x2 : Int64) (x4 : Int64) (μ : Mu) (hF : f_X8_in x0 x2 x4 = r) : X G p l e 0 0 s0 m args below meth c 6 (some (.int r)) μ μ 0 [(0, .long x0), (2, .long x2), (4, .long x4)] [] := by
  unfold f_X8_in at hF
  refine x_lload_n C 0 dX8_in_0 rfl rfl ?_
  refine x_lload_n C 1 dX8_in_1 rfl rfl ?_
  refine x_lcmp C dX8_in_2 ?_
  refine x_if_lt (tgt := 17) C dX8_in_3 (by decide) (fun hc => ?_) (fun hc => ?_)
  · replace hF := f_t hc hF
    refine x_iconst (v := 0) C dX8_in_17 (by decide) ?_
    exact x_zret C dX8_in_18 (by decide) hF rfl
  · replace hF := f_f hc hF
    refine x_lload_n C 0 dX8_in_6 rfl rfl ?_
    refine x_lload C 2 dX8_in_7 rfl ?_
    refine x_lcmp C dX8_in_9 ?_
    refine x_if_gt (tgt := 17) C dX8_in_10 (by decide) (fun hc => ?_) (fun hc => ?_)
    · replace hF := f_t hc hF
      refine x_iconst (v := 0) C dX8_in_17 (by decide) ?_
      exact x_zret C dX8_in_18 (by decide) hF rfl
    · replace hF := f_f hc hF
      refine x_iconst (v := 1) C dX8_in_13 (by decide) ?_
      refine x_goto (tgt := 18) C dX8_in_14 (by decide) ?_
      exact x_zret C dX8_in_18 (by decide) hF rfl
set_option maxHeartbeats 4000000 in
theorem c_X8_in {G : Gl} (l : Launch) (hA : Ap G) (x0 : Int64) (x2 : Int64) (x4 : Int64) (μ : Mu) : Mth G l yX8_in cX8_in 6 (some .boolean) 0 0 [.long x0, .long x2, .long x4] (some (.int (f_X8_in x0 x2 x4))) μ μ := Mth.of hA (by decide) rfl (Nat.le_of_ble_eq_true rfl) (fun p e s0 m args below meth c C => w_X8_in C x0 x2 x4 μ rfl)
set_option maxHeartbeats 4000000 in
theorem w_X8_noWork {G : Gl} {p : Program} {l : Launch} {e : Env} {s0 : State} {m : MethodId} {args : Array Value} {below : List Frame} {meth : Method} {c : Code} (C : Cx G p s0 m args meth c cX8_noWork 2 RX8 (some .boolean)) {r : Int32}  (x1 : Int32) (μ : Mu) (hF : f_X8_noWork x1 μ = r) : X G p l e 1 25 s0 m args below meth c 2 (some (.int r)) μ μ 0 [(0, .ref (G.ad 82)), (1, .int x1)] [] := by
  unfold f_X8_noWork at hF
  refine x_iload_n C 1 dX8_noWork_0 rfl rfl ?_
  refine x_i2l C dX8_noWork_1 ?_
  refine x_lconst (v := 0) C dX8_noWork_2 (by decide) ?_
  refine x_aload_n C 0 dX8_noWork_3 rfl rfl ?_
  refine x_getI C fc_X8 fl_X8_124 sh_82 (by decide) rfl dX8_noWork_4 ?_
  refine x_iconst (v := 1) C dX8_noWork_7 (by decide) ?_
  refine x_isub C dX8_noWork_8 ?_
  refine x_i2l C dX8_noWork_9 ?_
  refine x_cSi (rest := []) C (c_X8_in l C.2.2.2.2.2.2.2.2 ((x1 : Int32).toInt64) 0 (((μ 82 0) - 1 : Int32).toInt64) μ) cw_X8_127 ⟨by decide, by decide⟩ rfl rfl (Nat.le_of_ble_eq_true rfl) dX8_noWork_10 ?_
  refine x_if_ne (tgt := 20) C dX8_noWork_13 (by decide) (fun hc => ?_) (fun hc => ?_)
  · replace hF := f_f hc hF
    refine x_iconst (v := 0) C dX8_noWork_20 (by decide) ?_
    exact x_zret C dX8_noWork_21 (by decide) hF rfl
  · replace hF := f_t hc hF
    refine x_iconst (v := 1) C dX8_noWork_16 (by decide) ?_
    refine x_goto (tgt := 21) C dX8_noWork_17 (by decide) ?_
    exact x_zret C dX8_noWork_21 (by decide) hF rfl
set_option maxHeartbeats 4000000 in
theorem c_X8_noWork {G : Gl} (l : Launch) (hA : Ap G) (x1 : Int32) (μ : Mu) : Mth G l yX8_noWork cX8_noWork 2 (some .boolean) 1 25 [.ref (G.ad 82), .int x1] (some (.int (f_X8_noWork x1 μ))) μ μ := Mth.of hA (by decide) rfl (Nat.le_of_ble_eq_true rfl) (fun p e s0 m args below meth c C => w_X8_noWork C x1 μ rfl)
set_option maxHeartbeats 4000000 in
theorem w_X8_sizeOf {G : Gl} {p : Program} {l : Launch} {e : Env} {s0 : State} {m : MethodId} {args : Array Value} {below : List Frame} {meth : Method} {c : Code} (C : Cx G p s0 m args meth c cX8_sizeOf 2 RX8 (some .int)) {r : Int32}  (x1 : Int32) (μ : Mu) (hF : f_X8_sizeOf x1 μ = some r) : X G p l e 0 0 s0 m args below meth c 2 (some (.int r)) μ μ 0 [(0, .ref (G.ad 82)), (1, .int x1)] [] := by
  unfold f_X8_sizeOf at hF
  refine x_aload_n C 0 dX8_sizeOf_0 rfl rfl ?_
  refine x_getR C fc_X8 fl_X8_40 sh_82 (by decide) rfl dX8_sizeOf_1 ?_
  refine x_bipush (v := 40) C dX8_sizeOf_4 (by decide) ?_
  refine x_aload_n C 0 dX8_sizeOf_6 rfl rfl ?_
  refine x_getI C fc_X8 fl_X8_53 sh_82 (by decide) rfl dX8_sizeOf_7 ?_
  refine x_imul C dX8_sizeOf_10 ?_
  refine x_iload_n C 1 dX8_sizeOf_11 rfl rfl ?_
  refine x_iadd C dX8_sizeOf_12 ?_
  obtain ⟨hi1, hF⟩ := f_chk hF
  refine x_iald C sh_93 hi1 dX8_sizeOf_13 ?_
  exact x_iret C dX8_sizeOf_14 (Option.some.inj hF) rfl
set_option maxHeartbeats 4000000 in
theorem c_X8_sizeOf {G : Gl} (l : Launch) (hA : Ap G) {r : Int32}  (x1 : Int32) (μ : Mu) (hF : f_X8_sizeOf x1 μ = some r) : Mth G l yX8_sizeOf cX8_sizeOf 2 (some .int) 0 0 [.ref (G.ad 82), .int x1] (some (.int r)) μ μ := Mth.of hA (by decide) rfl (Nat.le_of_ble_eq_true rfl) (fun p e s0 m args below meth c C => w_X8_sizeOf C x1 μ hF)
set_option maxHeartbeats 4000000 in
theorem w_X8_callAt {G : Gl} {p : Program} {l : Launch} {e : Env} {s0 : State} {m : MethodId} {args : Array Value} {below : List Frame} {meth : Method} {c : Code} (C : Cx G p s0 m args meth c cX8_callAt 3 RX8 (some .int)) {r : Int32}  (x1 : Int32) (x2 : Int32) (μ : Mu) (hF : f_X8_callAt x1 x2 μ = some r) : X G p l e 0 0 s0 m args below meth c 3 (some (.int r)) μ μ 0 [(0, .ref (G.ad 82)), (1, .int x1), (2, .int x2)] [] := by
  unfold f_X8_callAt at hF
  refine x_aload_n C 0 dX8_callAt_0 rfl rfl ?_
  refine x_getR C fc_X8 fl_X8_43 sh_82 (by decide) rfl dX8_callAt_1 ?_
  refine x_iconst (v := 5) C dX8_callAt_4 (by decide) ?_
  refine x_bipush (v := 40) C dX8_callAt_5 (by decide) ?_
  refine x_aload_n C 0 dX8_callAt_7 rfl rfl ?_
  refine x_getI C fc_X8 fl_X8_53 sh_82 (by decide) rfl dX8_callAt_8 ?_
  refine x_imul C dX8_callAt_11 ?_
  refine x_iload_n C 1 dX8_callAt_12 rfl rfl ?_
  refine x_iadd C dX8_callAt_13 ?_
  refine x_imul C dX8_callAt_14 ?_
  refine x_iload_n C 2 dX8_callAt_15 rfl rfl ?_
  refine x_iadd C dX8_callAt_16 ?_
  obtain ⟨hi1, hF⟩ := f_chk hF
  refine x_iald C sh_94 hi1 dX8_callAt_17 ?_
  exact x_iret C dX8_callAt_18 (Option.some.inj hF) rfl
set_option maxHeartbeats 4000000 in
theorem c_X8_callAt {G : Gl} (l : Launch) (hA : Ap G) {r : Int32}  (x1 : Int32) (x2 : Int32) (μ : Mu) (hF : f_X8_callAt x1 x2 μ = some r) : Mth G l yX8_callAt cX8_callAt 3 (some .int) 0 0 [.ref (G.ad 82), .int x1, .int x2] (some (.int r)) μ μ := Mth.of hA (by decide) rfl (Nat.le_of_ble_eq_true rfl) (fun p e s0 m args below meth c C => w_X8_callAt C x1 x2 μ hF)
set_option maxHeartbeats 4000000 in
theorem w_X8_meant_L2 {G : Gl} {p : Program} {l : Launch} {e : Env} {s0 : State} {m : MethodId} {args : Array Value} {below : List Frame} {meth : Method} {c : Code} (C : Cx G p s0 m args meth c cX8_meant 3 RX8 (some .int)) {r : Int32}  (μ : Mu) : ∀ (n : Nat) (x2 : Int32), f_X8_meant_L2 μ n x2 = some r → X G p l e 0 0 s0 m args below meth c 3 (some (.int r)) μ μ 2 [(0, .ref (G.ad 82)), (2, .int x2)] [] := by
  intro n
  induction n with
  | zero =>
    intro x2 hF
    rw [f_X8_meant_L2] at hF
    cases hF
  | succ n ih =>
    intro x2 hF
    rw [f_X8_meant_L2] at hF
    refine x_aload_n C 0 dX8_meant_2 rfl rfl ?_
    refine x_getR C fc_X8 fl_X8_34 sh_82 (by decide) rfl dX8_meant_3 ?_
    refine x_bipush (v := 24) C dX8_meant_6 (by decide) ?_
    refine x_aload_n C 0 dX8_meant_8 rfl rfl ?_
    refine x_getI C fc_X8 fl_X8_53 sh_82 (by decide) rfl dX8_meant_9 ?_
    refine x_imul C dX8_meant_12 ?_
    refine x_iload_n C 1 dX8_meant_13 rfl rfl ?_
    refine x_iadd C dX8_meant_14 ?_
    obtain ⟨hi1, hF⟩ := f_chk hF
    refine x_iald C sh_91 hi1 dX8_meant_15 ?_
    refine x_if_lt (tgt := 37) C dX8_meant_16 (by decide) (fun hc => ?_) (fun hc => ?_)
    · replace hF := f_t hc hF
      refine x_iload_n C 1 dX8_meant_37 rfl rfl ?_
      exact x_iret C dX8_meant_38 (Option.some.inj hF) rfl
    · replace hF := f_f hc hF
      refine x_aload_n C 0 dX8_meant_19 rfl rfl ?_
      refine x_getR C fc_X8 fl_X8_34 sh_82 (by decide) rfl dX8_meant_20 ?_
      refine x_bipush (v := 24) C dX8_meant_23 (by decide) ?_
      refine x_aload_n C 0 dX8_meant_25 rfl rfl ?_
      refine x_getI C fc_X8 fl_X8_53 sh_82 (by decide) rfl dX8_meant_26 ?_
      refine x_imul C dX8_meant_29 ?_
      refine x_iload_n C 1 dX8_meant_30 rfl rfl ?_
      refine x_iadd C dX8_meant_31 ?_
      refine x_iald C sh_91 hi1 dX8_meant_32 ?_
      refine x_letI hF (fun y2 hF => ?_)
      refine x_istore_n C [(2, .int y2), (0, .ref (G.ad 82))] dX8_meant_33 rfl (by decide) rfl ?_
      refine x_goto (tgt := 2) C dX8_meant_34 (by decide) ?_
      exact x_pick [(0, .ref (G.ad 82)), (2, .int y2)] [1, 0] rfl (ih y2 hF)
set_option maxHeartbeats 4000000 in
theorem w_X8_meant {G : Gl} {p : Program} {l : Launch} {e : Env} {s0 : State} {m : MethodId} {args : Array Value} {below : List Frame} {meth : Method} {c : Code} (C : Cx G p s0 m args meth c cX8_meant 3 RX8 (some .int)) {r : Int32}  (x1 : Int32) (μ : Mu) (hF : f_X8_meant x1 μ = some r) : X G p l e 0 0 s0 m args below meth c 3 (some (.int r)) μ μ 0 [(0, .ref (G.ad 82)), (1, .int x1)] [] := by
  unfold f_X8_meant at hF
  refine x_iload_n C 1 dX8_meant_0 rfl rfl ?_
  refine x_istore_n C [(2, .int x1), (0, .ref (G.ad 82)), (1, .int x1)] dX8_meant_1 rfl (by decide) rfl ?_
  exact x_pick [(0, .ref (G.ad 82)), (2, .int x1)] [1, 0] rfl (w_X8_meant_L2 C μ fu x1 hF)
set_option maxHeartbeats 4000000 in
theorem c_X8_meant {G : Gl} (l : Launch) (hA : Ap G) {r : Int32}  (x1 : Int32) (μ : Mu) (hF : f_X8_meant x1 μ = some r) : Mth G l yX8_meant cX8_meant 3 (some .int) 0 0 [.ref (G.ad 82), .int x1] (some (.int r)) μ μ := Mth.of hA (by decide) rfl (Nat.le_of_ble_eq_true rfl) (fun p e s0 m args below meth c C => w_X8_meant C x1 μ hF)
set_option maxHeartbeats 4000000 in
theorem w_X8_findCalls_L68 {G : Gl} {p : Program} {l : Launch} {e : Env} {s0 : State} {m : MethodId} {args : Array Value} {below : List Frame} {meth : Method} {c : Code} (C : Cx G p s0 m args meth c cX8_findCalls 4 RX8 none) {μf : Mu}  {k53 : Int32 → Mu → Option (Mu)} (hk53 : ∀ (x1 : Int32) (μ : Mu), k53 x1 μ = some μf → X G p l e 1 22 s0 m args below meth c 4 none μf μ 53 [(0, .ref (G.ad 82)), (1, .int x1)] []) : ∀ (n : Nat) (x1 : Int32) (x2 : Int32) (μ : Mu), f_X8_findCalls_L68 k53 n x1 x2 μ = some μf → X G p l e 1 22 s0 m args below meth c 4 none μf μ 68 [(0, .ref (G.ad 82)), (1, .int x1), (2, .int x2)] [] := by
  intro n
  induction n with
  | zero =>
    intro x1 x2 μ hF
    rw [f_X8_findCalls_L68] at hF
    cases hF
  | succ n ih =>
    intro x1 x2 μ hF
    rw [f_X8_findCalls_L68] at hF
    refine x_iload_n C 2 dX8_findCalls_68 rfl rfl ?_
    refine x_aload_n C 0 dX8_findCalls_69 rfl rfl ?_
    refine x_iload_n C 1 dX8_findCalls_70 rfl rfl ?_
    obtain ⟨q1, hq1, hF⟩ := f_bind hF
    refine x_cVi (rest := [.int x2]) C (c_X8_sizeOf l C.2.2.2.2.2.2.2.2 x1 μ hq1) cw_X8_164 sh_82 rfl rfl ⟨by decide, by decide⟩ rfl rfl (Nat.le_of_ble_eq_true rfl) dX8_findCalls_71 ?_
    refine x_icmp_ge (tgt := 149) C dX8_findCalls_74 (by decide) (fun hc => ?_) (fun hc => ?_)
    · replace hF := f_t hc hF
      refine x_iinc C [(1, .int (x1 + 1)), (0, .ref (G.ad 82)), (2, .int x2)] 1 dX8_findCalls_149 rfl rfl (by decide) rfl ?_
      refine x_goto (tgt := 53) C dX8_findCalls_152 (by decide) ?_
      exact x_pick [(0, .ref (G.ad 82)), (1, .int (x1 + 1))] [1, 0] rfl (hk53 (x1 + 1) μ hF)
    · replace hF := f_f hc hF
      refine x_aload_n C 0 dX8_findCalls_77 rfl rfl ?_
      refine x_iload_n C 1 dX8_findCalls_78 rfl rfl ?_
      refine x_iload_n C 2 dX8_findCalls_79 rfl rfl ?_
      obtain ⟨q2, hq2, hF⟩ := f_bind hF
      refine x_cVi (rest := []) C (c_X8_callAt l C.2.2.2.2.2.2.2.2 x1 x2 μ hq2) cw_X8_167 sh_82 rfl rfl ⟨by decide, by decide⟩ rfl rfl (Nat.le_of_ble_eq_true rfl) dX8_findCalls_80 ?_
      refine x_istore_n C [(3, .int q2), (0, .ref (G.ad 82)), (1, .int x1), (2, .int x2)] dX8_findCalls_83 rfl (by decide) rfl ?_
      refine x_aload_n C 1 dX8_findCalls_84 rfl rfl ?_
      refine x_getR C fc_X8 fl_X8_63 sh_82 (by decide) rfl dX8_findCalls_85 ?_
      refine x_aload_n C 1 dX8_findCalls_88 rfl rfl ?_
      refine x_getI C fc_X8 fl_X8_158 sh_82 (by decide) rfl dX8_findCalls_89 ?_
      refine x_iload_n C 0 dX8_findCalls_92 rfl rfl ?_
      obtain ⟨hi3, hF⟩ := f_chk hF
      refine x_iast C sh_99 hi3 dX8_findCalls_93 ?_
      refine x_letM hF (fun μ4 hF => ?_)
      refine x_aload_n C 1 dX8_findCalls_94 rfl rfl ?_
      refine x_getR C fc_X8 fl_X8_66 sh_82 (by decide) rfl dX8_findCalls_95 ?_
      refine x_aload_n C 1 dX8_findCalls_98 rfl rfl ?_
      refine x_getI C fc_X8 fl_X8_158 sh_82 (by decide) rfl dX8_findCalls_99 ?_
      refine x_iload_n C 2 dX8_findCalls_102 rfl rfl ?_
      obtain ⟨hi5, hF⟩ := f_chk hF
      refine x_iast C sh_100 hi5 dX8_findCalls_103 ?_
      refine x_letM hF (fun μ6 hF => ?_)
      refine x_aload_n C 1 dX8_findCalls_104 rfl rfl ?_
      refine x_getR C fc_X8 fl_X8_69 sh_82 (by decide) rfl dX8_findCalls_105 ?_
      refine x_iload_n C 0 dX8_findCalls_108 rfl rfl ?_
      refine x_aload_n C 1 dX8_findCalls_109 rfl rfl ?_
      refine x_getI C fc_X8 fl_X8_158 sh_82 (by decide) rfl dX8_findCalls_110 ?_
      obtain ⟨hi7, hF⟩ := f_chk hF
      refine x_iast C sh_101 hi7 dX8_findCalls_113 ?_
      refine x_letM hF (fun μ8 hF => ?_)
      refine x_aload_n C 1 dX8_findCalls_114 rfl rfl ?_
      refine x_dup C dX8_findCalls_115 rfl ?_
      refine x_getI C fc_X8 fl_X8_158 sh_82 (by decide) rfl dX8_findCalls_116 ?_
      refine x_iconst (v := 1) C dX8_findCalls_119 (by decide) ?_
      refine x_iadd C dX8_findCalls_120 ?_
      refine x_putI C fc_X8 fl_X8_158 sh_82 (by decide) rfl rfl rfl ⟨rfl, rfl⟩ dX8_findCalls_121 ?_
      refine x_letM hF (fun μ9 hF => ?_)
      refine x_aload_n C 1 dX8_findCalls_124 rfl rfl ?_
      refine x_getR C fc_X8 fl_X8_72 sh_82 (by decide) rfl dX8_findCalls_125 ?_
      refine x_aload_n C 1 dX8_findCalls_128 rfl rfl ?_
      refine x_aload_n C 1 dX8_findCalls_129 rfl rfl ?_
      refine x_getR C fc_X8 fl_X8_57 sh_82 (by decide) rfl dX8_findCalls_130 ?_
      refine x_iload_n C 0 dX8_findCalls_133 rfl rfl ?_
      refine x_iald C sh_97 hi7 dX8_findCalls_134 ?_
      obtain ⟨q10, hq10, hF⟩ := f_bind hF
      refine x_cVi (rest := [.ref (G.ad 102)]) C (c_X8_meant l C.2.2.2.2.2.2.2.2 (μ9 97 (ix q2)) μ9 hq10) cw_X8_153 sh_82 rfl rfl ⟨by decide, by decide⟩ rfl rfl (Nat.le_of_ble_eq_true rfl) dX8_findCalls_135 ?_
      refine x_dup2 C dX8_findCalls_138 rfl rfl ?_
      obtain ⟨hi11, hF⟩ := f_chk hF
      refine x_iald C sh_102 hi11 dX8_findCalls_139 ?_
      refine x_iconst (v := 1) C dX8_findCalls_140 (by decide) ?_
      refine x_iadd C dX8_findCalls_141 ?_
      refine x_iast C sh_102 hi11 dX8_findCalls_142 ?_
      refine x_letM hF (fun μ12 hF => ?_)
      refine x_iinc C [(2, .int (x2 + 1)), (3, .int q2), (0, .ref (G.ad 82)), (1, .int x1)] 3 dX8_findCalls_143 rfl rfl (by decide) rfl ?_
      refine x_goto (tgt := 68) C dX8_findCalls_146 (by decide) ?_
      exact x_pick [(0, .ref (G.ad 82)), (1, .int x1), (2, .int (x2 + 1))] [2, 3, 0] rfl (ih x1 (x2 + 1) μ12 hF)
set_option maxHeartbeats 4000000 in
theorem w_X8_findCalls_L53 {G : Gl} {p : Program} {l : Launch} {e : Env} {s0 : State} {m : MethodId} {args : Array Value} {below : List Frame} {meth : Method} {c : Code} (C : Cx G p s0 m args meth c cX8_findCalls 4 RX8 none) {μf : Mu}  : ∀ (n : Nat) (x1 : Int32) (μ : Mu), f_X8_findCalls_L53 n x1 μ = some μf → X G p l e 1 22 s0 m args below meth c 4 none μf μ 53 [(0, .ref (G.ad 82)), (1, .int x1)] [] := by
  intro n
  induction n with
  | zero =>
    intro x1 μ hF
    rw [f_X8_findCalls_L53] at hF
    cases hF
  | succ n ih =>
    intro x1 μ hF
    rw [f_X8_findCalls_L53] at hF
    refine x_iload_n C 1 dX8_findCalls_53 rfl rfl ?_
    refine x_aload_n C 0 dX8_findCalls_54 rfl rfl ?_
    refine x_getR C fc_X8 fl_X8_37 sh_82 (by decide) rfl dX8_findCalls_55 ?_
    refine x_aload_n C 0 dX8_findCalls_58 rfl rfl ?_
    refine x_getI C fc_X8 fl_X8_53 sh_82 (by decide) rfl dX8_findCalls_59 ?_
    obtain ⟨hi1, hF⟩ := f_chk hF
    refine x_iald C sh_92 hi1 dX8_findCalls_62 ?_
    refine x_icmp_ge (tgt := 155) C dX8_findCalls_63 (by decide) (fun hc => ?_) (fun hc => ?_)
    · replace hF := f_t hc hF
      exact x_vret C dX8_findCalls_155 (Option.some.inj hF)
    · replace hF := f_f hc hF
      refine x_iconst (v := 0) C dX8_findCalls_66 (by decide) ?_
      refine x_istore_n C [(2, .int 0), (0, .ref (G.ad 82)), (1, .int x1)] dX8_findCalls_67 rfl (by decide) rfl ?_
      exact x_pick [(0, .ref (G.ad 82)), (1, .int x1), (2, .int 0)] [1, 2, 0] rfl (w_X8_findCalls_L68 C ih fu x1 0 μ hF)
set_option maxHeartbeats 4000000 in
theorem w_X8_findCalls_L30 {G : Gl} {p : Program} {l : Launch} {e : Env} {s0 : State} {m : MethodId} {args : Array Value} {below : List Frame} {meth : Method} {c : Code} (C : Cx G p s0 m args meth c cX8_findCalls 4 RX8 none) {μf : Mu}  : ∀ (n : Nat) (x1 : Int32) (μ : Mu), f_X8_findCalls_L30 n x1 μ = some μf → X G p l e 1 22 s0 m args below meth c 4 none μf μ 30 [(0, .ref (G.ad 82)), (1, .int x1)] [] := by
  intro n
  induction n with
  | zero =>
    intro x1 μ hF
    rw [f_X8_findCalls_L30] at hF
    cases hF
  | succ n ih =>
    intro x1 μ hF
    rw [f_X8_findCalls_L30] at hF
    refine x_iload_n C 1 dX8_findCalls_30 rfl rfl ?_
    refine x_aload_n C 0 dX8_findCalls_31 rfl rfl ?_
    refine x_getI C fc_X8 fl_X8_124 sh_82 (by decide) rfl dX8_findCalls_32 ?_
    refine x_icmp_ge (tgt := 51) C dX8_findCalls_35 (by decide) (fun hc => ?_) (fun hc => ?_)
    · replace hF := f_t hc hF
      refine x_iconst (v := 0) C dX8_findCalls_51 (by decide) ?_
      refine x_istore_n C [(1, .int 0), (0, .ref (G.ad 82))] dX8_findCalls_52 rfl (by decide) rfl ?_
      exact x_pick [(0, .ref (G.ad 82)), (1, .int 0)] [1, 0] rfl (w_X8_findCalls_L53 C fu 0 μ hF)
    · replace hF := f_f hc hF
      refine x_aload_n C 0 dX8_findCalls_38 rfl rfl ?_
      refine x_getR C fc_X8 fl_X8_72 sh_82 (by decide) rfl dX8_findCalls_39 ?_
      refine x_iload_n C 1 dX8_findCalls_42 rfl rfl ?_
      refine x_iconst (v := 0) C dX8_findCalls_43 (by decide) ?_
      obtain ⟨hi1, hF⟩ := f_chk hF
      refine x_iast C sh_102 hi1 dX8_findCalls_44 ?_
      refine x_letM hF (fun μ2 hF => ?_)
      refine x_iinc C [(1, .int (x1 + 1)), (0, .ref (G.ad 82))] 1 dX8_findCalls_45 rfl rfl (by decide) rfl ?_
      refine x_goto (tgt := 30) C dX8_findCalls_48 (by decide) ?_
      exact x_pick [(0, .ref (G.ad 82)), (1, .int (x1 + 1))] [1, 0] rfl (ih (x1 + 1) μ2 hF)
set_option maxHeartbeats 4000000 in
theorem w_X8_findCalls_L7 {G : Gl} {p : Program} {l : Launch} {e : Env} {s0 : State} {m : MethodId} {args : Array Value} {below : List Frame} {meth : Method} {c : Code} (C : Cx G p s0 m args meth c cX8_findCalls 4 RX8 none) {μf : Mu}  : ∀ (n : Nat) (x1 : Int32) (μ : Mu), f_X8_findCalls_L7 n x1 μ = some μf → X G p l e 1 22 s0 m args below meth c 4 none μf μ 7 [(0, .ref (G.ad 82)), (1, .int x1)] [] := by
  intro n
  induction n with
  | zero =>
    intro x1 μ hF
    rw [f_X8_findCalls_L7] at hF
    cases hF
  | succ n ih =>
    intro x1 μ hF
    rw [f_X8_findCalls_L7] at hF
    refine x_iload_n C 1 dX8_findCalls_7 rfl rfl ?_
    refine x_aload_n C 0 dX8_findCalls_8 rfl rfl ?_
    refine x_getI C fc_X8 fl_X8_161 sh_82 (by decide) rfl dX8_findCalls_9 ?_
    refine x_icmp_ge (tgt := 28) C dX8_findCalls_12 (by decide) (fun hc => ?_) (fun hc => ?_)
    · replace hF := f_t hc hF
      refine x_iconst (v := 0) C dX8_findCalls_28 (by decide) ?_
      refine x_istore_n C [(1, .int 0), (0, .ref (G.ad 82))] dX8_findCalls_29 rfl (by decide) rfl ?_
      exact x_pick [(0, .ref (G.ad 82)), (1, .int 0)] [1, 0] rfl (w_X8_findCalls_L30 C fu 0 μ hF)
    · replace hF := f_f hc hF
      refine x_aload_n C 0 dX8_findCalls_15 rfl rfl ?_
      refine x_getR C fc_X8 fl_X8_69 sh_82 (by decide) rfl dX8_findCalls_16 ?_
      refine x_iload_n C 1 dX8_findCalls_19 rfl rfl ?_
      refine x_iconst (v := (-1)) C dX8_findCalls_20 (by decide) ?_
      obtain ⟨hi1, hF⟩ := f_chk hF
      refine x_iast C sh_101 hi1 dX8_findCalls_21 ?_
      refine x_letM hF (fun μ2 hF => ?_)
      refine x_iinc C [(1, .int (x1 + 1)), (0, .ref (G.ad 82))] 1 dX8_findCalls_22 rfl rfl (by decide) rfl ?_
      refine x_goto (tgt := 7) C dX8_findCalls_25 (by decide) ?_
      exact x_pick [(0, .ref (G.ad 82)), (1, .int (x1 + 1))] [1, 0] rfl (ih (x1 + 1) μ2 hF)
set_option maxHeartbeats 4000000 in
theorem w_X8_findCalls {G : Gl} {p : Program} {l : Launch} {e : Env} {s0 : State} {m : MethodId} {args : Array Value} {below : List Frame} {meth : Method} {c : Code} (C : Cx G p s0 m args meth c cX8_findCalls 4 RX8 none) {μf : Mu}  (μ : Mu) (hF : f_X8_findCalls μ = some μf) : X G p l e 1 22 s0 m args below meth c 4 none μf μ 0 [(0, .ref (G.ad 82))] [] := by
  unfold f_X8_findCalls at hF
  refine x_aload_n C 0 dX8_findCalls_0 rfl rfl ?_
  refine x_iconst (v := 0) C dX8_findCalls_1 (by decide) ?_
  refine x_putI C fc_X8 fl_X8_158 sh_82 (by decide) rfl rfl rfl ⟨rfl, rfl⟩ dX8_findCalls_2 ?_
  refine x_letM hF (fun μ1 hF => ?_)
  refine x_iconst (v := 0) C dX8_findCalls_5 (by decide) ?_
  refine x_istore_n C [(1, .int 0), (0, .ref (G.ad 82))] dX8_findCalls_6 rfl (by decide) rfl ?_
  exact x_pick [(0, .ref (G.ad 82)), (1, .int 0)] [1, 0] rfl (w_X8_findCalls_L7 C fu 0 μ1 hF)
set_option maxHeartbeats 4000000 in
theorem c_X8_findCalls {G : Gl} (l : Launch) (hA : Ap G) {μf : Mu}  (μ : Mu) (hF : f_X8_findCalls μ = some μf) : Mth G l yX8_findCalls cX8_findCalls 4 none 1 22 [.ref (G.ad 82)] none μf μ := Mth.of hA (by decide) rfl (Nat.le_of_ble_eq_true rfl) (fun p e s0 m args below meth c C => w_X8_findCalls C μ hF)
set_option maxHeartbeats 4000000 in
theorem w_X8_styleOf {G : Gl} {p : Program} {l : Launch} {e : Env} {s0 : State} {m : MethodId} {args : Array Value} {below : List Frame} {meth : Method} {c : Code} (C : Cx G p s0 m args meth c cX8_styleOf 2 RX8 (some .int)) {r : Int32}  (x1 : Int32) (μ : Mu) (hF : f_X8_styleOf x1 μ = some r) : X G p l e 0 0 s0 m args below meth c 2 (some (.int r)) μ μ 0 [(0, .ref (G.ad 82)), (1, .int x1)] [] := by
  unfold f_X8_styleOf at hF
  refine x_aload_n C 0 dX8_styleOf_0 rfl rfl ?_
  refine x_getR C fc_X8 fl_X8_46 sh_82 (by decide) rfl dX8_styleOf_1 ?_
  refine x_bipush (v := 10) C dX8_styleOf_4 (by decide) ?_
  refine x_aload_n C 0 dX8_styleOf_6 rfl rfl ?_
  refine x_getI C fc_X8 fl_X8_53 sh_82 (by decide) rfl dX8_styleOf_7 ?_
  refine x_imul C dX8_styleOf_10 ?_
  refine x_iload_n C 1 dX8_styleOf_11 rfl rfl ?_
  refine x_iadd C dX8_styleOf_12 ?_
  obtain ⟨hi1, hF⟩ := f_chk hF
  refine x_iald C sh_95 hi1 dX8_styleOf_13 ?_
  exact x_iret C dX8_styleOf_14 (Option.some.inj hF) rfl
set_option maxHeartbeats 4000000 in
theorem c_X8_styleOf {G : Gl} (l : Launch) (hA : Ap G) {r : Int32}  (x1 : Int32) (μ : Mu) (hF : f_X8_styleOf x1 μ = some r) : Mth G l yX8_styleOf cX8_styleOf 2 (some .int) 0 0 [.ref (G.ad 82), .int x1] (some (.int r)) μ μ := Mth.of hA (by decide) rfl (Nat.le_of_ble_eq_true rfl) (fun p e s0 m args below meth c C => w_X8_styleOf C x1 μ hF)
set_option maxHeartbeats 4000000 in
theorem w_X8_isCited {G : Gl} {p : Program} {l : Launch} {e : Env} {s0 : State} {m : MethodId} {args : Array Value} {below : List Frame} {meth : Method} {c : Code} (C : Cx G p s0 m args meth c cX8_isCited 2 RX8 (some .boolean)) {r : Int32}  (x1 : Int32) (μ : Mu) (hF : f_X8_isCited x1 μ = some r) : X G p l e 0 0 s0 m args below meth c 2 (some (.int r)) μ μ 0 [(0, .ref (G.ad 82)), (1, .int x1)] [] := by
  unfold f_X8_isCited at hF
  refine x_aload_n C 0 dX8_isCited_0 rfl rfl ?_
  refine x_getR C fc_X8 fl_X8_72 sh_82 (by decide) rfl dX8_isCited_1 ?_
  refine x_iload_n C 1 dX8_isCited_4 rfl rfl ?_
  obtain ⟨hi1, hF⟩ := f_chk hF
  refine x_iald C sh_102 hi1 dX8_isCited_5 ?_
  refine x_if_le (tgt := 13) C dX8_isCited_6 (by decide) (fun hc => ?_) (fun hc => ?_)
  · replace hF := f_t hc hF
    refine x_iconst (v := 0) C dX8_isCited_13 (by decide) ?_
    exact x_zret C dX8_isCited_14 (by decide) (Option.some.inj hF) rfl
  · replace hF := f_f hc hF
    refine x_iconst (v := 1) C dX8_isCited_9 (by decide) ?_
    refine x_goto (tgt := 14) C dX8_isCited_10 (by decide) ?_
    exact x_zret C dX8_isCited_14 (by decide) (Option.some.inj hF) rfl
set_option maxHeartbeats 4000000 in
theorem c_X8_isCited {G : Gl} (l : Launch) (hA : Ap G) {r : Int32}  (x1 : Int32) (μ : Mu) (hF : f_X8_isCited x1 μ = some r) : Mth G l yX8_isCited cX8_isCited 2 (some .boolean) 0 0 [.ref (G.ad 82), .int x1] (some (.int r)) μ μ := Mth.of hA (by decide) rfl (Nat.le_of_ble_eq_true rfl) (fun p e s0 m args below meth c C => w_X8_isCited C x1 μ hF)
set_option maxHeartbeats 4000000 in
theorem w_X8_byName_b27 {G : Gl} {p : Program} {l : Launch} {e : Env} {s0 : State} {m : MethodId} {args : Array Value} {below : List Frame} {meth : Method} {c : Code} (C : Cx G p s0 m args meth c cX8_byName 6 RX8 (some .int)) {r : Int32}  (μ : Mu) {k2 : Int32 → Int32 → Int32 → Option (Int32)} (hk2 : ∀ (x1 : Int32) (x2 : Int32) (x3 : Int32), k2 x1 x2 x3 = some r → X G p l e 0 0 s0 m args below meth c 6 (some (.int r)) μ μ 2 [(0, .ref (G.ad 82)), (1, .int x1), (2, .int x2), (3, .int x3)] []) (x1 : Int32) (x2 : Int32) (x3 : Int32) (hF : f_X8_byName_b27 k2 μ x1 x2 x3 = some r) : X G p l e 0 0 s0 m args below meth c 6 (some (.int r)) μ μ 27 [(0, .ref (G.ad 82)), (1, .int x1), (2, .int x2), (3, .int x3)] [] := by
  unfold f_X8_byName_b27 at hF
  refine x_aload_n C 0 dX8_byName_27 rfl rfl ?_
  refine x_getR C fc_X8 fl_X8_7 sh_82 (by decide) rfl dX8_byName_28 ?_
  refine x_iload_n C 1 dX8_byName_31 rfl rfl ?_
  obtain ⟨hi1, hF⟩ := f_chk hF
  refine x_iald C sh_83 hi1 dX8_byName_32 ?_
  refine x_aload_n C 0 dX8_byName_33 rfl rfl ?_
  refine x_getR C fc_X8 fl_X8_7 sh_82 (by decide) rfl dX8_byName_34 ?_
  refine x_iload_n C 2 dX8_byName_37 rfl rfl ?_
  obtain ⟨hi2, hF⟩ := f_chk hF
  refine x_iald C sh_83 hi2 dX8_byName_38 ?_
  refine x_icmp_eq (tgt := 169) C dX8_byName_39 (by decide) (fun hc => ?_) (fun hc => ?_)
  · replace hF := f_t hc hF
    refine x_iinc C [(3, .int (x3 + 1)), (0, .ref (G.ad 82)), (1, .int x1), (2, .int x2)] 3 dX8_byName_169 rfl rfl (by decide) rfl ?_
    refine x_goto (tgt := 2) C dX8_byName_172 (by decide) ?_
    exact x_pick [(0, .ref (G.ad 82)), (1, .int x1), (2, .int x2), (3, .int (x3 + 1))] [1, 2, 3, 0] rfl (hk2 x1 x2 (x3 + 1) hF)
  · replace hF := f_f hc hF
    refine x_aload_n C 0 dX8_byName_42 rfl rfl ?_
    refine x_getR C fc_X8 fl_X8_7 sh_82 (by decide) rfl dX8_byName_43 ?_
    refine x_iload_n C 1 dX8_byName_46 rfl rfl ?_
    refine x_iald C sh_83 hi1 dX8_byName_47 ?_
    refine x_aload_n C 0 dX8_byName_48 rfl rfl ?_
    refine x_getR C fc_X8 fl_X8_7 sh_82 (by decide) rfl dX8_byName_49 ?_
    refine x_iload_n C 2 dX8_byName_52 rfl rfl ?_
    refine x_iald C sh_83 hi2 dX8_byName_53 ?_
    refine x_isub C dX8_byName_54 ?_
    exact x_iret C dX8_byName_55 (Option.some.inj hF) rfl
set_option maxHeartbeats 4000000 in
theorem w_X8_byName_L2 {G : Gl} {p : Program} {l : Launch} {e : Env} {s0 : State} {m : MethodId} {args : Array Value} {below : List Frame} {meth : Method} {c : Code} (C : Cx G p s0 m args meth c cX8_byName 6 RX8 (some .int)) {r : Int32}  (μ : Mu) : ∀ (n : Nat) (x1 : Int32) (x2 : Int32) (x3 : Int32), f_X8_byName_L2 μ n x1 x2 x3 = some r → X G p l e 0 0 s0 m args below meth c 6 (some (.int r)) μ μ 2 [(0, .ref (G.ad 82)), (1, .int x1), (2, .int x2), (3, .int x3)] [] := by
  intro n
  induction n with
  | zero =>
    intro x1 x2 x3 hF
    rw [f_X8_byName_L2] at hF
    cases hF
  | succ n ih =>
    intro x1 x2 x3 hF
    rw [f_X8_byName_L2] at hF
    refine x_iload_n C 3 dX8_byName_2 rfl rfl ?_
    refine x_iconst (v := 4) C dX8_byName_3 (by decide) ?_
    refine x_icmp_ge (tgt := 175) C dX8_byName_4 (by decide) (fun hc => ?_) (fun hc => ?_)
    · replace hF := f_t hc hF
      refine x_aload_n C 0 dX8_byName_175 rfl rfl ?_
      refine x_getR C fc_X8 fl_X8_22 sh_82 (by decide) rfl dX8_byName_176 ?_
      refine x_iload_n C 1 dX8_byName_179 rfl rfl ?_
      obtain ⟨hi1, hF⟩ := f_chk hF
      refine x_iald C sh_87 hi1 dX8_byName_180 ?_
      refine x_aload_n C 0 dX8_byName_181 rfl rfl ?_
      refine x_getR C fc_X8 fl_X8_22 sh_82 (by decide) rfl dX8_byName_182 ?_
      refine x_iload_n C 2 dX8_byName_185 rfl rfl ?_
      obtain ⟨hi2, hF⟩ := f_chk hF
      refine x_iald C sh_87 hi2 dX8_byName_186 ?_
      refine x_icmp_eq (tgt := 206) C dX8_byName_187 (by decide) (fun hc => ?_) (fun hc => ?_)
      · replace hF := f_t hc hF
        refine x_aload_n C 0 dX8_byName_206 rfl rfl ?_
        refine x_getR C fc_X8 fl_X8_25 sh_82 (by decide) rfl dX8_byName_207 ?_
        refine x_iload_n C 1 dX8_byName_210 rfl rfl ?_
        refine x_iald C sh_88 hi1 dX8_byName_211 ?_
        refine x_aload_n C 0 dX8_byName_212 rfl rfl ?_
        refine x_getR C fc_X8 fl_X8_25 sh_82 (by decide) rfl dX8_byName_213 ?_
        refine x_iload_n C 2 dX8_byName_216 rfl rfl ?_
        refine x_iald C sh_88 hi2 dX8_byName_217 ?_
        refine x_icmp_eq (tgt := 237) C dX8_byName_218 (by decide) (fun hc => ?_) (fun hc => ?_)
        · replace hF := f_t hc hF
          refine x_iload_n C 1 dX8_byName_237 rfl rfl ?_
          refine x_iload_n C 2 dX8_byName_238 rfl rfl ?_
          refine x_isub C dX8_byName_239 ?_
          exact x_iret C dX8_byName_240 (Option.some.inj hF) rfl
        · replace hF := f_f hc hF
          refine x_aload_n C 0 dX8_byName_221 rfl rfl ?_
          refine x_getR C fc_X8 fl_X8_25 sh_82 (by decide) rfl dX8_byName_222 ?_
          refine x_iload_n C 1 dX8_byName_225 rfl rfl ?_
          refine x_iald C sh_88 hi1 dX8_byName_226 ?_
          refine x_aload_n C 0 dX8_byName_227 rfl rfl ?_
          refine x_getR C fc_X8 fl_X8_25 sh_82 (by decide) rfl dX8_byName_228 ?_
          refine x_iload_n C 2 dX8_byName_231 rfl rfl ?_
          refine x_iald C sh_88 hi2 dX8_byName_232 ?_
          refine x_isub C dX8_byName_233 ?_
          refine x_goto (tgt := 240) C dX8_byName_234 (by decide) ?_
          exact x_iret C dX8_byName_240 (Option.some.inj hF) rfl
      · replace hF := f_f hc hF
        refine x_aload_n C 0 dX8_byName_190 rfl rfl ?_
        refine x_getR C fc_X8 fl_X8_22 sh_82 (by decide) rfl dX8_byName_191 ?_
        refine x_iload_n C 1 dX8_byName_194 rfl rfl ?_
        refine x_iald C sh_87 hi1 dX8_byName_195 ?_
        refine x_aload_n C 0 dX8_byName_196 rfl rfl ?_
        refine x_getR C fc_X8 fl_X8_22 sh_82 (by decide) rfl dX8_byName_197 ?_
        refine x_iload_n C 2 dX8_byName_200 rfl rfl ?_
        refine x_iald C sh_87 hi2 dX8_byName_201 ?_
        refine x_isub C dX8_byName_202 ?_
        refine x_goto (tgt := 240) C dX8_byName_203 (by decide) ?_
        exact x_iret C dX8_byName_240 (Option.some.inj hF) rfl
    · replace hF := f_f hc hF
      refine x_iload_n C 3 dX8_byName_7 rfl rfl ?_
      refine x_aload_n C 0 dX8_byName_8 rfl rfl ?_
      refine x_getR C fc_X8 fl_X8_7 sh_82 (by decide) rfl dX8_byName_9 ?_
      refine x_iload_n C 1 dX8_byName_12 rfl rfl ?_
      obtain ⟨hi3, hF⟩ := f_chk hF
      refine x_iald C sh_83 hi3 dX8_byName_13 ?_
      refine x_icmp_ge (tgt := 27) C dX8_byName_14 (by decide) (fun hc => ?_) (fun hc => ?_)
      · replace hF := f_t hc hF
        exact x_pick [(0, .ref (G.ad 82)), (1, .int x1), (2, .int x2), (3, .int x3)] [0, 1, 2, 3] rfl (w_X8_byName_b27 C μ ih x1 x2 x3 hF)
      · replace hF := f_f hc hF
        refine x_iload_n C 3 dX8_byName_17 rfl rfl ?_
        refine x_aload_n C 0 dX8_byName_18 rfl rfl ?_
        refine x_getR C fc_X8 fl_X8_7 sh_82 (by decide) rfl dX8_byName_19 ?_
        refine x_iload_n C 2 dX8_byName_22 rfl rfl ?_
        obtain ⟨hi4, hF⟩ := f_chk hF
        refine x_iald C sh_83 hi4 dX8_byName_23 ?_
        refine x_icmp_lt (tgt := 56) C dX8_byName_24 (by decide) (fun hc => ?_) (fun hc => ?_)
        · replace hF := f_t hc hF
          refine x_iconst (v := 4) C dX8_byName_56 (by decide) ?_
          refine x_iload_n C 1 dX8_byName_57 rfl rfl ?_
          refine x_imul C dX8_byName_58 ?_
          refine x_iload_n C 3 dX8_byName_59 rfl rfl ?_
          refine x_iadd C dX8_byName_60 ?_
          refine x_letI hF (fun y5 hF => ?_)
          refine x_istore C [(4, .int y5), (0, .ref (G.ad 82)), (1, .int x1), (2, .int x2), (3, .int x3)] dX8_byName_61 (by decide) rfl ?_
          refine x_iconst (v := 4) C dX8_byName_63 (by decide) ?_
          refine x_iload_n C 3 dX8_byName_64 rfl rfl ?_
          refine x_imul C dX8_byName_65 ?_
          refine x_iload_n C 4 dX8_byName_66 rfl rfl ?_
          refine x_iadd C dX8_byName_67 ?_
          refine x_letI hF (fun y6 hF => ?_)
          refine x_istore C [(5, .int y6), (4, .int y5), (0, .ref (G.ad 82)), (1, .int x1), (2, .int x2), (3, .int x3)] dX8_byName_68 (by decide) rfl ?_
          refine x_aload_n C 2 dX8_byName_70 rfl rfl ?_
          refine x_getR C fc_X8 fl_X8_13 sh_82 (by decide) rfl dX8_byName_71 ?_
          refine x_iload C 1 dX8_byName_74 rfl ?_
          obtain ⟨hi7, hF⟩ := f_chk hF
          refine x_iald C sh_84 hi7 dX8_byName_76 ?_
          refine x_aload_n C 2 dX8_byName_77 rfl rfl ?_
          refine x_getR C fc_X8 fl_X8_13 sh_82 (by decide) rfl dX8_byName_78 ?_
          refine x_iload C 0 dX8_byName_81 rfl ?_
          obtain ⟨hi8, hF⟩ := f_chk hF
          refine x_iald C sh_84 hi8 dX8_byName_83 ?_
          refine x_icmp_eq (tgt := 103) C dX8_byName_84 (by decide) (fun hc => ?_) (fun hc => ?_)
          · replace hF := f_t hc hF
            refine x_aload_n C 2 dX8_byName_103 rfl rfl ?_
            refine x_getR C fc_X8 fl_X8_16 sh_82 (by decide) rfl dX8_byName_104 ?_
            refine x_iload C 1 dX8_byName_107 rfl ?_
            refine x_iald C sh_85 hi7 dX8_byName_109 ?_
            refine x_aload_n C 2 dX8_byName_110 rfl rfl ?_
            refine x_getR C fc_X8 fl_X8_16 sh_82 (by decide) rfl dX8_byName_111 ?_
            refine x_iload C 0 dX8_byName_114 rfl ?_
            refine x_iald C sh_85 hi8 dX8_byName_116 ?_
            refine x_icmp_eq (tgt := 136) C dX8_byName_117 (by decide) (fun hc => ?_) (fun hc => ?_)
            · replace hF := f_t hc hF
              refine x_aload_n C 2 dX8_byName_136 rfl rfl ?_
              refine x_getR C fc_X8 fl_X8_19 sh_82 (by decide) rfl dX8_byName_137 ?_
              refine x_iload C 1 dX8_byName_140 rfl ?_
              refine x_iald C sh_86 hi7 dX8_byName_142 ?_
              refine x_aload_n C 2 dX8_byName_143 rfl rfl ?_
              refine x_getR C fc_X8 fl_X8_19 sh_82 (by decide) rfl dX8_byName_144 ?_
              refine x_iload C 0 dX8_byName_147 rfl ?_
              refine x_iald C sh_86 hi8 dX8_byName_149 ?_
              refine x_icmp_eq (tgt := 169) C dX8_byName_150 (by decide) (fun hc => ?_) (fun hc => ?_)
              · replace hF := f_t hc hF
                refine x_iinc C [(3, .int (x3 + 1)), (5, .int y6), (4, .int y5), (0, .ref (G.ad 82)), (1, .int x1), (2, .int x2)] 5 dX8_byName_169 rfl rfl (by decide) rfl ?_
                refine x_goto (tgt := 2) C dX8_byName_172 (by decide) ?_
                exact x_pick [(0, .ref (G.ad 82)), (1, .int x1), (2, .int x2), (3, .int (x3 + 1))] [3, 4, 5, 0] rfl (ih x1 x2 (x3 + 1) hF)
              · replace hF := f_f hc hF
                refine x_aload_n C 2 dX8_byName_153 rfl rfl ?_
                refine x_getR C fc_X8 fl_X8_19 sh_82 (by decide) rfl dX8_byName_154 ?_
                refine x_iload C 1 dX8_byName_157 rfl ?_
                refine x_iald C sh_86 hi7 dX8_byName_159 ?_
                refine x_aload_n C 2 dX8_byName_160 rfl rfl ?_
                refine x_getR C fc_X8 fl_X8_19 sh_82 (by decide) rfl dX8_byName_161 ?_
                refine x_iload C 0 dX8_byName_164 rfl ?_
                refine x_iald C sh_86 hi8 dX8_byName_166 ?_
                refine x_isub C dX8_byName_167 ?_
                exact x_iret C dX8_byName_168 (Option.some.inj hF) rfl
            · replace hF := f_f hc hF
              refine x_aload_n C 2 dX8_byName_120 rfl rfl ?_
              refine x_getR C fc_X8 fl_X8_16 sh_82 (by decide) rfl dX8_byName_121 ?_
              refine x_iload C 1 dX8_byName_124 rfl ?_
              refine x_iald C sh_85 hi7 dX8_byName_126 ?_
              refine x_aload_n C 2 dX8_byName_127 rfl rfl ?_
              refine x_getR C fc_X8 fl_X8_16 sh_82 (by decide) rfl dX8_byName_128 ?_
              refine x_iload C 0 dX8_byName_131 rfl ?_
              refine x_iald C sh_85 hi8 dX8_byName_133 ?_
              refine x_isub C dX8_byName_134 ?_
              exact x_iret C dX8_byName_135 (Option.some.inj hF) rfl
          · replace hF := f_f hc hF
            refine x_aload_n C 2 dX8_byName_87 rfl rfl ?_
            refine x_getR C fc_X8 fl_X8_13 sh_82 (by decide) rfl dX8_byName_88 ?_
            refine x_iload C 1 dX8_byName_91 rfl ?_
            refine x_iald C sh_84 hi7 dX8_byName_93 ?_
            refine x_aload_n C 2 dX8_byName_94 rfl rfl ?_
            refine x_getR C fc_X8 fl_X8_13 sh_82 (by decide) rfl dX8_byName_95 ?_
            refine x_iload C 0 dX8_byName_98 rfl ?_
            refine x_iald C sh_84 hi8 dX8_byName_100 ?_
            refine x_isub C dX8_byName_101 ?_
            exact x_iret C dX8_byName_102 (Option.some.inj hF) rfl
        · replace hF := f_f hc hF
          exact x_pick [(0, .ref (G.ad 82)), (1, .int x1), (2, .int x2), (3, .int x3)] [0, 1, 2, 3] rfl (w_X8_byName_b27 C μ ih x1 x2 x3 hF)
set_option maxHeartbeats 4000000 in
theorem w_X8_byName {G : Gl} {p : Program} {l : Launch} {e : Env} {s0 : State} {m : MethodId} {args : Array Value} {below : List Frame} {meth : Method} {c : Code} (C : Cx G p s0 m args meth c cX8_byName 6 RX8 (some .int)) {r : Int32}  (x1 : Int32) (x2 : Int32) (μ : Mu) (hF : f_X8_byName x1 x2 μ = some r) : X G p l e 0 0 s0 m args below meth c 6 (some (.int r)) μ μ 0 [(0, .ref (G.ad 82)), (1, .int x1), (2, .int x2)] [] := by
  unfold f_X8_byName at hF
  refine x_iconst (v := 0) C dX8_byName_0 (by decide) ?_
  refine x_istore_n C [(3, .int 0), (0, .ref (G.ad 82)), (1, .int x1), (2, .int x2)] dX8_byName_1 rfl (by decide) rfl ?_
  exact x_pick [(0, .ref (G.ad 82)), (1, .int x1), (2, .int x2), (3, .int 0)] [1, 2, 3, 0] rfl (w_X8_byName_L2 C μ fu x1 x2 0 hF)
set_option maxHeartbeats 4000000 in
theorem c_X8_byName {G : Gl} (l : Launch) (hA : Ap G) {r : Int32}  (x1 : Int32) (x2 : Int32) (μ : Mu) (hF : f_X8_byName x1 x2 μ = some r) : Mth G l yX8_byName cX8_byName 6 (some .int) 0 0 [.ref (G.ad 82), .int x1, .int x2] (some (.int r)) μ μ := Mth.of hA (by decide) rfl (Nat.le_of_ble_eq_true rfl) (fun p e s0 m args below meth c C => w_X8_byName C x1 x2 μ hF)
set_option maxHeartbeats 4000000 in
theorem w_X8_isAhead_b47 {G : Gl} {p : Program} {l : Launch} {e : Env} {s0 : State} {m : MethodId} {args : Array Value} {below : List Frame} {meth : Method} {c : Code} (C : Cx G p s0 m args meth c cX8_isAhead 3 RX8 (some .boolean)) {r : Int32}  (μ : Mu) (x1 : Int32) (x2 : Int32) (hF : f_X8_isAhead_b47 μ x1 x2 = some r) : X G p l e 1 25 s0 m args below meth c 3 (some (.int r)) μ μ 47 [(0, .ref (G.ad 82)), (1, .int x1), (2, .int x2)] [] := by
  unfold f_X8_isAhead_b47 at hF
  refine x_aload_n C 0 dX8_isAhead_47 rfl rfl ?_
  refine x_iload_n C 1 dX8_isAhead_48 rfl rfl ?_
  refine x_iload_n C 2 dX8_isAhead_49 rfl rfl ?_
  obtain ⟨q1, hq1, hF⟩ := f_bind hF
  refine x_cVi (rest := []) C (c_X8_byName l C.2.2.2.2.2.2.2.2 x1 x2 μ hq1) cw_X8_174 sh_82 rfl rfl ⟨by decide, by decide⟩ rfl rfl (Nat.le_of_ble_eq_true rfl) dX8_isAhead_50 ?_
  refine x_if_ge (tgt := 60) C dX8_isAhead_53 (by decide) (fun hc => ?_) (fun hc => ?_)
  · replace hF := f_t hc hF
    refine x_iconst (v := 0) C dX8_isAhead_60 (by decide) ?_
    exact x_zret C dX8_isAhead_61 (by decide) (Option.some.inj hF) rfl
  · replace hF := f_f hc hF
    refine x_iconst (v := 1) C dX8_isAhead_56 (by decide) ?_
    refine x_goto (tgt := 61) C dX8_isAhead_57 (by decide) ?_
    exact x_zret C dX8_isAhead_61 (by decide) (Option.some.inj hF) rfl
set_option maxHeartbeats 4000000 in
theorem w_X8_isAhead {G : Gl} {p : Program} {l : Launch} {e : Env} {s0 : State} {m : MethodId} {args : Array Value} {below : List Frame} {meth : Method} {c : Code} (C : Cx G p s0 m args meth c cX8_isAhead 3 RX8 (some .boolean)) {r : Int32}  (x1 : Int32) (x2 : Int32) (μ : Mu) (hF : f_X8_isAhead x1 x2 μ = some r) : X G p l e 1 25 s0 m args below meth c 3 (some (.int r)) μ μ 0 [(0, .ref (G.ad 82)), (1, .int x1), (2, .int x2)] [] := by
  unfold f_X8_isAhead at hF
  refine x_aload_n C 0 dX8_isAhead_0 rfl rfl ?_
  refine x_iconst (v := 1) C dX8_isAhead_1 (by decide) ?_
  obtain ⟨q1, hq1, hF⟩ := f_bind hF
  refine x_cVi (rest := []) C (c_X8_styleOf l C.2.2.2.2.2.2.2.2 1 μ hq1) cw_X8_171 sh_82 rfl rfl ⟨by decide, by decide⟩ rfl rfl (Nat.le_of_ble_eq_true rfl) dX8_isAhead_2 ?_
  refine x_iconst (v := 2) C dX8_isAhead_5 (by decide) ?_
  refine x_icmp_ne (tgt := 47) C dX8_isAhead_6 (by decide) (fun hc => ?_) (fun hc => ?_)
  · replace hF := f_f hc hF
    exact x_pick [(0, .ref (G.ad 82)), (1, .int x1), (2, .int x2)] [0, 1, 2] rfl (w_X8_isAhead_b47 C μ x1 x2 hF)
  · replace hF := f_t hc hF
    refine x_aload_n C 0 dX8_isAhead_9 rfl rfl ?_
    refine x_getR C fc_X8 fl_X8_22 sh_82 (by decide) rfl dX8_isAhead_10 ?_
    refine x_iload_n C 1 dX8_isAhead_13 rfl rfl ?_
    obtain ⟨hi2, hF⟩ := f_chk hF
    refine x_iald C sh_87 hi2 dX8_isAhead_14 ?_
    refine x_aload_n C 0 dX8_isAhead_15 rfl rfl ?_
    refine x_getR C fc_X8 fl_X8_22 sh_82 (by decide) rfl dX8_isAhead_16 ?_
    refine x_iload_n C 2 dX8_isAhead_19 rfl rfl ?_
    obtain ⟨hi3, hF⟩ := f_chk hF
    refine x_iald C sh_87 hi3 dX8_isAhead_20 ?_
    refine x_icmp_eq (tgt := 47) C dX8_isAhead_21 (by decide) (fun hc => ?_) (fun hc => ?_)
    · replace hF := f_t hc hF
      exact x_pick [(0, .ref (G.ad 82)), (1, .int x1), (2, .int x2)] [0, 1, 2] rfl (w_X8_isAhead_b47 C μ x1 x2 hF)
    · replace hF := f_f hc hF
      refine x_aload_n C 0 dX8_isAhead_24 rfl rfl ?_
      refine x_getR C fc_X8 fl_X8_22 sh_82 (by decide) rfl dX8_isAhead_25 ?_
      refine x_iload_n C 1 dX8_isAhead_28 rfl rfl ?_
      refine x_iald C sh_87 hi2 dX8_isAhead_29 ?_
      refine x_aload_n C 0 dX8_isAhead_30 rfl rfl ?_
      refine x_getR C fc_X8 fl_X8_22 sh_82 (by decide) rfl dX8_isAhead_31 ?_
      refine x_iload_n C 2 dX8_isAhead_34 rfl rfl ?_
      refine x_iald C sh_87 hi3 dX8_isAhead_35 ?_
      refine x_icmp_ge (tgt := 43) C dX8_isAhead_36 (by decide) (fun hc => ?_) (fun hc => ?_)
      · replace hF := f_t hc hF
        refine x_iconst (v := 0) C dX8_isAhead_43 (by decide) ?_
        refine x_goto (tgt := 61) C dX8_isAhead_44 (by decide) ?_
        exact x_zret C dX8_isAhead_61 (by decide) (Option.some.inj hF) rfl
      · replace hF := f_f hc hF
        refine x_iconst (v := 1) C dX8_isAhead_39 (by decide) ?_
        refine x_goto (tgt := 61) C dX8_isAhead_40 (by decide) ?_
        exact x_zret C dX8_isAhead_61 (by decide) (Option.some.inj hF) rfl
set_option maxHeartbeats 4000000 in
theorem c_X8_isAhead {G : Gl} (l : Launch) (hA : Ap G) {r : Int32}  (x1 : Int32) (x2 : Int32) (μ : Mu) (hF : f_X8_isAhead x1 x2 μ = some r) : Mth G l yX8_isAhead cX8_isAhead 3 (some .boolean) 1 25 [.ref (G.ad 82), .int x1, .int x2] (some (.int r)) μ μ := Mth.of hA (by decide) rfl (Nat.le_of_ble_eq_true rfl) (fun p e s0 m args below meth c C => w_X8_isAhead C x1 x2 μ hF)
set_option maxHeartbeats 4000000 in
theorem w_X8_findList_b171 {G : Gl} {p : Program} {l : Launch} {e : Env} {s0 : State} {m : MethodId} {args : Array Value} {below : List Frame} {meth : Method} {c : Code} (C : Cx G p s0 m args meth c cX8_findList 3 RX8 none) {μf : Mu}  {k110 : Int32 → Mu → Option (Mu)} (hk110 : ∀ (x1 : Int32) (μ : Mu), k110 x1 μ = some μf → X G p l e 2 47 s0 m args below meth c 3 none μf μ 110 [(0, .ref (G.ad 82)), (1, .int x1)] []) (x1 : Int32) (x2 : Int32) (μ : Mu) (hF : f_X8_findList_b171 k110 x1 x2 μ = some μf) : X G p l e 2 47 s0 m args below meth c 3 none μf μ 171 [(0, .ref (G.ad 82)), (1, .int x1), (2, .int x2)] [] := by
  unfold f_X8_findList_b171 at hF
  refine x_aload_n C 0 dX8_findList_171 rfl rfl ?_
  refine x_getR C fc_X8 fl_X8_75 sh_82 (by decide) rfl dX8_findList_172 ?_
  refine x_iload_n C 2 dX8_findList_175 rfl rfl ?_
  refine x_iload_n C 1 dX8_findList_176 rfl rfl ?_
  obtain ⟨hi1, hF⟩ := f_chk hF
  refine x_iast C sh_103 hi1 dX8_findList_177 ?_
  refine x_letM hF (fun μ2 hF => ?_)
  refine x_aload_n C 0 dX8_findList_178 rfl rfl ?_
  refine x_dup C dX8_findList_179 rfl ?_
  refine x_getI C fc_X8 fl_X8_177 sh_82 (by decide) rfl dX8_findList_180 ?_
  refine x_iconst (v := 1) C dX8_findList_183 (by decide) ?_
  refine x_iadd C dX8_findList_184 ?_
  refine x_putI C fc_X8 fl_X8_177 sh_82 (by decide) rfl rfl rfl ⟨rfl, rfl⟩ dX8_findList_185 ?_
  refine x_letM hF (fun μ3 hF => ?_)
  refine x_iinc C [(1, .int (x1 + 1)), (0, .ref (G.ad 82)), (2, .int x2)] 1 dX8_findList_188 rfl rfl (by decide) rfl ?_
  refine x_goto (tgt := 110) C dX8_findList_191 (by decide) ?_
  exact x_pick [(0, .ref (G.ad 82)), (1, .int (x1 + 1))] [1, 0] rfl (hk110 (x1 + 1) μ3 hF)
set_option maxHeartbeats 4000000 in
theorem w_X8_findList_L131 {G : Gl} {p : Program} {l : Launch} {e : Env} {s0 : State} {m : MethodId} {args : Array Value} {below : List Frame} {meth : Method} {c : Code} (C : Cx G p s0 m args meth c cX8_findList 3 RX8 none) {μf : Mu}  {k110 : Int32 → Mu → Option (Mu)} (hk110 : ∀ (x1 : Int32) (μ : Mu), k110 x1 μ = some μf → X G p l e 2 47 s0 m args below meth c 3 none μf μ 110 [(0, .ref (G.ad 82)), (1, .int x1)] []) : ∀ (n : Nat) (x1 : Int32) (x2 : Int32) (μ : Mu), f_X8_findList_L131 k110 n x1 x2 μ = some μf → X G p l e 2 47 s0 m args below meth c 3 none μf μ 131 [(0, .ref (G.ad 82)), (1, .int x1), (2, .int x2)] [] := by
  intro n
  induction n with
  | zero =>
    intro x1 x2 μ hF
    rw [f_X8_findList_L131] at hF
    cases hF
  | succ n ih =>
    intro x1 x2 μ hF
    rw [f_X8_findList_L131] at hF
    refine x_iload_n C 2 dX8_findList_131 rfl rfl ?_
    refine x_if_le (tgt := 171) C dX8_findList_132 (by decide) (fun hc => ?_) (fun hc => ?_)
    · replace hF := f_t hc hF
      exact x_pick [(0, .ref (G.ad 82)), (1, .int x1), (2, .int x2)] [0, 1, 2] rfl (w_X8_findList_b171 C hk110 x1 x2 μ hF)
    · replace hF := f_f hc hF
      refine x_aload_n C 0 dX8_findList_135 rfl rfl ?_
      refine x_iload_n C 1 dX8_findList_136 rfl rfl ?_
      refine x_aload_n C 0 dX8_findList_137 rfl rfl ?_
      refine x_getR C fc_X8 fl_X8_75 sh_82 (by decide) rfl dX8_findList_138 ?_
      refine x_iload_n C 2 dX8_findList_141 rfl rfl ?_
      refine x_iconst (v := 1) C dX8_findList_142 (by decide) ?_
      refine x_isub C dX8_findList_143 ?_
      obtain ⟨hi1, hF⟩ := f_chk hF
      refine x_iald C sh_103 hi1 dX8_findList_144 ?_
      obtain ⟨q2, hq2, hF⟩ := f_bind hF
      refine x_cVi (rest := []) C (c_X8_isAhead l C.2.2.2.2.2.2.2.2 x1 (μ 103 (ix (x2 - 1))) μ hq2) cw_X8_183 sh_82 rfl rfl ⟨by decide, by decide⟩ rfl rfl (Nat.le_of_ble_eq_true rfl) dX8_findList_145 ?_
      refine x_if_eq (tgt := 171) C dX8_findList_148 (by decide) (fun hc => ?_) (fun hc => ?_)
      · replace hF := f_t hc hF
        exact x_pick [(0, .ref (G.ad 82)), (1, .int x1), (2, .int x2)] [0, 1, 2] rfl (w_X8_findList_b171 C hk110 x1 x2 μ hF)
      · replace hF := f_f hc hF
        refine x_aload_n C 0 dX8_findList_151 rfl rfl ?_
        refine x_getR C fc_X8 fl_X8_75 sh_82 (by decide) rfl dX8_findList_152 ?_
        refine x_iload_n C 2 dX8_findList_155 rfl rfl ?_
        refine x_aload_n C 0 dX8_findList_156 rfl rfl ?_
        refine x_getR C fc_X8 fl_X8_75 sh_82 (by decide) rfl dX8_findList_157 ?_
        refine x_iload_n C 2 dX8_findList_160 rfl rfl ?_
        refine x_iconst (v := 1) C dX8_findList_161 (by decide) ?_
        refine x_isub C dX8_findList_162 ?_
        refine x_iald C sh_103 hi1 dX8_findList_163 ?_
        obtain ⟨hi3, hF⟩ := f_chk hF
        refine x_iast C sh_103 hi3 dX8_findList_164 ?_
        refine x_letM hF (fun μ4 hF => ?_)
        refine x_iinc C [(2, .int (x2 + (-1))), (0, .ref (G.ad 82)), (1, .int x1)] 2 dX8_findList_165 rfl rfl (by decide) rfl ?_
        refine x_goto (tgt := 131) C dX8_findList_168 (by decide) ?_
        exact x_pick [(0, .ref (G.ad 82)), (1, .int x1), (2, .int (x2 + (-1)))] [1, 2, 0] rfl (ih x1 (x2 + (-1)) μ4 hF)
set_option maxHeartbeats 4000000 in
theorem w_X8_findList_L196 {G : Gl} {p : Program} {l : Launch} {e : Env} {s0 : State} {m : MethodId} {args : Array Value} {below : List Frame} {meth : Method} {c : Code} (C : Cx G p s0 m args meth c cX8_findList 3 RX8 none) {μf : Mu}  : ∀ (n : Nat) (x1 : Int32) (μ : Mu), f_X8_findList_L196 n x1 μ = some μf → X G p l e 2 47 s0 m args below meth c 3 none μf μ 196 [(0, .ref (G.ad 82)), (1, .int x1)] [] := by
  intro n
  induction n with
  | zero =>
    intro x1 μ hF
    rw [f_X8_findList_L196] at hF
    cases hF
  | succ n ih =>
    intro x1 μ hF
    rw [f_X8_findList_L196] at hF
    refine x_iload_n C 1 dX8_findList_196 rfl rfl ?_
    refine x_aload_n C 0 dX8_findList_197 rfl rfl ?_
    refine x_getI C fc_X8 fl_X8_177 sh_82 (by decide) rfl dX8_findList_198 ?_
    refine x_icmp_ge (tgt := 224) C dX8_findList_201 (by decide) (fun hc => ?_) (fun hc => ?_)
    · replace hF := f_t hc hF
      exact x_vret C dX8_findList_224 (Option.some.inj hF)
    · replace hF := f_f hc hF
      refine x_aload_n C 0 dX8_findList_204 rfl rfl ?_
      refine x_getR C fc_X8 fl_X8_78 sh_82 (by decide) rfl dX8_findList_205 ?_
      refine x_aload_n C 0 dX8_findList_208 rfl rfl ?_
      refine x_getR C fc_X8 fl_X8_75 sh_82 (by decide) rfl dX8_findList_209 ?_
      refine x_iload_n C 1 dX8_findList_212 rfl rfl ?_
      obtain ⟨hi1, hF⟩ := f_chk hF
      refine x_iald C sh_103 hi1 dX8_findList_213 ?_
      refine x_iload_n C 1 dX8_findList_214 rfl rfl ?_
      refine x_iconst (v := 1) C dX8_findList_215 (by decide) ?_
      refine x_iadd C dX8_findList_216 ?_
      obtain ⟨hi2, hF⟩ := f_chk hF
      refine x_iast C sh_104 hi2 dX8_findList_217 ?_
      refine x_letM hF (fun μ3 hF => ?_)
      refine x_iinc C [(1, .int (x1 + 1)), (0, .ref (G.ad 82))] 1 dX8_findList_218 rfl rfl (by decide) rfl ?_
      refine x_goto (tgt := 196) C dX8_findList_221 (by decide) ?_
      exact x_pick [(0, .ref (G.ad 82)), (1, .int (x1 + 1))] [1, 0] rfl (ih (x1 + 1) μ3 hF)
set_option maxHeartbeats 4000000 in
theorem w_X8_findList_L110 {G : Gl} {p : Program} {l : Launch} {e : Env} {s0 : State} {m : MethodId} {args : Array Value} {below : List Frame} {meth : Method} {c : Code} (C : Cx G p s0 m args meth c cX8_findList 3 RX8 none) {μf : Mu}  : ∀ (n : Nat) (x1 : Int32) (μ : Mu), f_X8_findList_L110 n x1 μ = some μf → X G p l e 2 47 s0 m args below meth c 3 none μf μ 110 [(0, .ref (G.ad 82)), (1, .int x1)] [] := by
  intro n
  induction n with
  | zero =>
    intro x1 μ hF
    rw [f_X8_findList_L110] at hF
    cases hF
  | succ n ih =>
    intro x1 μ hF
    rw [f_X8_findList_L110] at hF
    refine x_iload_n C 1 dX8_findList_110 rfl rfl ?_
    refine x_aload_n C 0 dX8_findList_111 rfl rfl ?_
    refine x_getI C fc_X8 fl_X8_124 sh_82 (by decide) rfl dX8_findList_112 ?_
    refine x_icmp_ge (tgt := 194) C dX8_findList_115 (by decide) (fun hc => ?_) (fun hc => ?_)
    · replace hF := f_t hc hF
      refine x_iconst (v := 0) C dX8_findList_194 (by decide) ?_
      refine x_istore_n C [(1, .int 0), (0, .ref (G.ad 82))] dX8_findList_195 rfl (by decide) rfl ?_
      exact x_pick [(0, .ref (G.ad 82)), (1, .int 0)] [1, 0] rfl (w_X8_findList_L196 C fu 0 μ hF)
    · replace hF := f_f hc hF
      refine x_aload_n C 0 dX8_findList_118 rfl rfl ?_
      refine x_iload_n C 1 dX8_findList_119 rfl rfl ?_
      obtain ⟨q1, hq1, hF⟩ := f_bind hF
      refine x_cVi (rest := []) C (c_X8_isCited l C.2.2.2.2.2.2.2.2 x1 μ hq1) cw_X8_180 sh_82 rfl rfl ⟨by decide, by decide⟩ rfl rfl (Nat.le_of_ble_eq_true rfl) dX8_findList_120 ?_
      refine x_if_eq (tgt := 188) C dX8_findList_123 (by decide) (fun hc => ?_) (fun hc => ?_)
      · replace hF := f_t hc hF
        refine x_iinc C [(1, .int (x1 + 1)), (0, .ref (G.ad 82))] 1 dX8_findList_188 rfl rfl (by decide) rfl ?_
        refine x_goto (tgt := 110) C dX8_findList_191 (by decide) ?_
        exact x_pick [(0, .ref (G.ad 82)), (1, .int (x1 + 1))] [1, 0] rfl (ih (x1 + 1) μ hF)
      · replace hF := f_f hc hF
        refine x_aload_n C 0 dX8_findList_126 rfl rfl ?_
        refine x_getI C fc_X8 fl_X8_177 sh_82 (by decide) rfl dX8_findList_127 ?_
        refine x_letI hF (fun y2 hF => ?_)
        refine x_istore_n C [(2, .int y2), (0, .ref (G.ad 82)), (1, .int x1)] dX8_findList_130 rfl (by decide) rfl ?_
        exact x_pick [(0, .ref (G.ad 82)), (1, .int x1), (2, .int y2)] [1, 2, 0] rfl (w_X8_findList_L131 C ih fu x1 y2 μ hF)
set_option maxHeartbeats 4000000 in
theorem w_X8_findList_L38 {G : Gl} {p : Program} {l : Launch} {e : Env} {s0 : State} {m : MethodId} {args : Array Value} {below : List Frame} {meth : Method} {c : Code} (C : Cx G p s0 m args meth c cX8_findList 3 RX8 none) {μf : Mu}  : ∀ (n : Nat) (x1 : Int32) (μ : Mu), f_X8_findList_L38 n x1 μ = some μf → X G p l e 2 47 s0 m args below meth c 3 none μf μ 38 [(0, .ref (G.ad 82)), (1, .int x1)] [] := by
  intro n
  induction n with
  | zero =>
    intro x1 μ hF
    rw [f_X8_findList_L38] at hF
    cases hF
  | succ n ih =>
    intro x1 μ hF
    rw [f_X8_findList_L38] at hF
    refine x_iload_n C 1 dX8_findList_38 rfl rfl ?_
    refine x_aload_n C 0 dX8_findList_39 rfl rfl ?_
    refine x_getI C fc_X8 fl_X8_158 sh_82 (by decide) rfl dX8_findList_40 ?_
    refine x_icmp_ge (tgt := 107) C dX8_findList_43 (by decide) (fun hc => ?_) (fun hc => ?_)
    · replace hF := f_t hc hF
      exact x_vret C dX8_findList_107 (Option.some.inj hF)
    · replace hF := f_f hc hF
      refine x_aload_n C 0 dX8_findList_46 rfl rfl ?_
      refine x_aload_n C 0 dX8_findList_47 rfl rfl ?_
      refine x_getR C fc_X8 fl_X8_57 sh_82 (by decide) rfl dX8_findList_48 ?_
      refine x_aload_n C 0 dX8_findList_51 rfl rfl ?_
      refine x_getR C fc_X8 fl_X8_63 sh_82 (by decide) rfl dX8_findList_52 ?_
      refine x_iload_n C 1 dX8_findList_55 rfl rfl ?_
      obtain ⟨hi1, hF⟩ := f_chk hF
      refine x_iald C sh_99 hi1 dX8_findList_56 ?_
      obtain ⟨hi2, hF⟩ := f_chk hF
      refine x_iald C sh_97 hi2 dX8_findList_57 ?_
      obtain ⟨q3, hq3, hF⟩ := f_bind hF
      refine x_cVi (rest := []) C (c_X8_meant l C.2.2.2.2.2.2.2.2 (μ 97 (ix (μ 99 (ix x1)))) μ hq3) cw_X8_153 sh_82 rfl rfl ⟨by decide, by decide⟩ rfl rfl (Nat.le_of_ble_eq_true rfl) dX8_findList_58 ?_
      refine x_istore_n C [(2, .int q3), (0, .ref (G.ad 82)), (1, .int x1)] dX8_findList_61 rfl (by decide) rfl ?_
      refine x_aload_n C 1 dX8_findList_62 rfl rfl ?_
      refine x_getR C fc_X8 fl_X8_78 sh_82 (by decide) rfl dX8_findList_63 ?_
      refine x_iload_n C 0 dX8_findList_66 rfl rfl ?_
      obtain ⟨hi4, hF⟩ := f_chk hF
      refine x_iald C sh_104 hi4 dX8_findList_67 ?_
      refine x_if_ne (tgt := 101) C dX8_findList_68 (by decide) (fun hc => ?_) (fun hc => ?_)
      · replace hF := f_f hc hF
        refine x_iinc C [(1, .int (x1 + 1)), (2, .int q3), (0, .ref (G.ad 82))] 2 dX8_findList_101 rfl rfl (by decide) rfl ?_
        refine x_goto (tgt := 38) C dX8_findList_104 (by decide) ?_
        exact x_pick [(0, .ref (G.ad 82)), (1, .int (x1 + 1))] [2, 0] rfl (ih (x1 + 1) μ hF)
      · replace hF := f_t hc hF
        refine x_aload_n C 1 dX8_findList_71 rfl rfl ?_
        refine x_getR C fc_X8 fl_X8_75 sh_82 (by decide) rfl dX8_findList_72 ?_
        refine x_aload_n C 1 dX8_findList_75 rfl rfl ?_
        refine x_getI C fc_X8 fl_X8_177 sh_82 (by decide) rfl dX8_findList_76 ?_
        refine x_iload_n C 0 dX8_findList_79 rfl rfl ?_
        obtain ⟨hi5, hF⟩ := f_chk hF
        refine x_iast C sh_103 hi5 dX8_findList_80 ?_
        refine x_letM hF (fun μ6 hF => ?_)
        refine x_aload_n C 1 dX8_findList_81 rfl rfl ?_
        refine x_dup C dX8_findList_82 rfl ?_
        refine x_getI C fc_X8 fl_X8_177 sh_82 (by decide) rfl dX8_findList_83 ?_
        refine x_iconst (v := 1) C dX8_findList_86 (by decide) ?_
        refine x_iadd C dX8_findList_87 ?_
        refine x_putI C fc_X8 fl_X8_177 sh_82 (by decide) rfl rfl rfl ⟨rfl, rfl⟩ dX8_findList_88 ?_
        refine x_letM hF (fun μ7 hF => ?_)
        refine x_aload_n C 1 dX8_findList_91 rfl rfl ?_
        refine x_getR C fc_X8 fl_X8_78 sh_82 (by decide) rfl dX8_findList_92 ?_
        refine x_iload_n C 0 dX8_findList_95 rfl rfl ?_
        refine x_aload_n C 1 dX8_findList_96 rfl rfl ?_
        refine x_getI C fc_X8 fl_X8_177 sh_82 (by decide) rfl dX8_findList_97 ?_
        refine x_iast C sh_104 hi4 dX8_findList_100 ?_
        refine x_letM hF (fun μ8 hF => ?_)
        refine x_iinc C [(1, .int (x1 + 1)), (2, .int q3), (0, .ref (G.ad 82))] 2 dX8_findList_101 rfl rfl (by decide) rfl ?_
        refine x_goto (tgt := 38) C dX8_findList_104 (by decide) ?_
        exact x_pick [(0, .ref (G.ad 82)), (1, .int (x1 + 1))] [2, 0] rfl (ih (x1 + 1) μ8 hF)
set_option maxHeartbeats 4000000 in
theorem w_X8_findList_L7 {G : Gl} {p : Program} {l : Launch} {e : Env} {s0 : State} {m : MethodId} {args : Array Value} {below : List Frame} {meth : Method} {c : Code} (C : Cx G p s0 m args meth c cX8_findList 3 RX8 none) {μf : Mu}  : ∀ (n : Nat) (x1 : Int32) (μ : Mu), f_X8_findList_L7 n x1 μ = some μf → X G p l e 2 47 s0 m args below meth c 3 none μf μ 7 [(0, .ref (G.ad 82)), (1, .int x1)] [] := by
  intro n
  induction n with
  | zero =>
    intro x1 μ hF
    rw [f_X8_findList_L7] at hF
    cases hF
  | succ n ih =>
    intro x1 μ hF
    rw [f_X8_findList_L7] at hF
    refine x_iload_n C 1 dX8_findList_7 rfl rfl ?_
    refine x_aload_n C 0 dX8_findList_8 rfl rfl ?_
    refine x_getI C fc_X8 fl_X8_124 sh_82 (by decide) rfl dX8_findList_9 ?_
    refine x_icmp_ge (tgt := 28) C dX8_findList_12 (by decide) (fun hc => ?_) (fun hc => ?_)
    · replace hF := f_t hc hF
      refine x_aload_n C 0 dX8_findList_28 rfl rfl ?_
      refine x_iconst (v := 1) C dX8_findList_29 (by decide) ?_
      obtain ⟨q1, hq1, hF⟩ := f_bind hF
      refine x_cVi (rest := []) C (c_X8_styleOf l C.2.2.2.2.2.2.2.2 1 μ hq1) cw_X8_171 sh_82 rfl rfl ⟨by decide, by decide⟩ rfl rfl (Nat.le_of_ble_eq_true rfl) dX8_findList_30 ?_
      refine x_if_ne (tgt := 108) C dX8_findList_33 (by decide) (fun hc => ?_) (fun hc => ?_)
      · replace hF := f_f hc hF
        refine x_iconst (v := 0) C dX8_findList_108 (by decide) ?_
        refine x_istore_n C [(1, .int 0), (0, .ref (G.ad 82))] dX8_findList_109 rfl (by decide) rfl ?_
        exact x_pick [(0, .ref (G.ad 82)), (1, .int 0)] [1, 0] rfl (w_X8_findList_L110 C fu 0 μ hF)
      · replace hF := f_t hc hF
        refine x_iconst (v := 0) C dX8_findList_36 (by decide) ?_
        refine x_istore_n C [(1, .int 0), (0, .ref (G.ad 82))] dX8_findList_37 rfl (by decide) rfl ?_
        exact x_pick [(0, .ref (G.ad 82)), (1, .int 0)] [1, 0] rfl (w_X8_findList_L38 C fu 0 μ hF)
    · replace hF := f_f hc hF
      refine x_aload_n C 0 dX8_findList_15 rfl rfl ?_
      refine x_getR C fc_X8 fl_X8_78 sh_82 (by decide) rfl dX8_findList_16 ?_
      refine x_iload_n C 1 dX8_findList_19 rfl rfl ?_
      refine x_iconst (v := 0) C dX8_findList_20 (by decide) ?_
      obtain ⟨hi2, hF⟩ := f_chk hF
      refine x_iast C sh_104 hi2 dX8_findList_21 ?_
      refine x_letM hF (fun μ3 hF => ?_)
      refine x_iinc C [(1, .int (x1 + 1)), (0, .ref (G.ad 82))] 1 dX8_findList_22 rfl rfl (by decide) rfl ?_
      refine x_goto (tgt := 7) C dX8_findList_25 (by decide) ?_
      exact x_pick [(0, .ref (G.ad 82)), (1, .int (x1 + 1))] [1, 0] rfl (ih (x1 + 1) μ3 hF)
set_option maxHeartbeats 4000000 in
theorem w_X8_findList {G : Gl} {p : Program} {l : Launch} {e : Env} {s0 : State} {m : MethodId} {args : Array Value} {below : List Frame} {meth : Method} {c : Code} (C : Cx G p s0 m args meth c cX8_findList 3 RX8 none) {μf : Mu}  (μ : Mu) (hF : f_X8_findList μ = some μf) : X G p l e 2 47 s0 m args below meth c 3 none μf μ 0 [(0, .ref (G.ad 82))] [] := by
  unfold f_X8_findList at hF
  refine x_aload_n C 0 dX8_findList_0 rfl rfl ?_
  refine x_iconst (v := 0) C dX8_findList_1 (by decide) ?_
  refine x_putI C fc_X8 fl_X8_177 sh_82 (by decide) rfl rfl rfl ⟨rfl, rfl⟩ dX8_findList_2 ?_
  refine x_letM hF (fun μ1 hF => ?_)
  refine x_iconst (v := 0) C dX8_findList_5 (by decide) ?_
  refine x_istore_n C [(1, .int 0), (0, .ref (G.ad 82))] dX8_findList_6 rfl (by decide) rfl ?_
  exact x_pick [(0, .ref (G.ad 82)), (1, .int 0)] [1, 0] rfl (w_X8_findList_L7 C fu 0 μ1 hF)
set_option maxHeartbeats 4000000 in
theorem c_X8_findList {G : Gl} (l : Launch) (hA : Ap G) {μf : Mu}  (μ : Mu) (hF : f_X8_findList μ = some μf) : Mth G l yX8_findList cX8_findList 3 none 2 47 [.ref (G.ad 82)] none μf μ := Mth.of hA (by decide) rfl (Nat.le_of_ble_eq_true rfl) (fun p e s0 m args below meth c C => w_X8_findList C μ hF)
set_option maxHeartbeats 4000000 in
theorem w_X8_shownAtFirst {G : Gl} {p : Program} {l : Launch} {e : Env} {s0 : State} {m : MethodId} {args : Array Value} {below : List Frame} {meth : Method} {c : Code} (C : Cx G p s0 m args meth c cX8_shownAtFirst 2 RX8 (some .int)) {r : Int32}  (x1 : Int32) (μ : Mu) (hF : f_X8_shownAtFirst x1 μ = some r) : X G p l e 1 21 s0 m args below meth c 2 (some (.int r)) μ μ 0 [(0, .ref (G.ad 82)), (1, .int x1)] [] := by
  unfold f_X8_shownAtFirst at hF
  refine x_aload_n C 0 dX8_shownAtFirst_0 rfl rfl ?_
  refine x_getR C fc_X8 fl_X8_7 sh_82 (by decide) rfl dX8_shownAtFirst_1 ?_
  refine x_iload_n C 1 dX8_shownAtFirst_4 rfl rfl ?_
  obtain ⟨hi1, hF⟩ := f_chk hF
  refine x_iald C sh_83 hi1 dX8_shownAtFirst_5 ?_
  refine x_aload_n C 0 dX8_shownAtFirst_6 rfl rfl ?_
  refine x_iconst (v := 2) C dX8_shownAtFirst_7 (by decide) ?_
  obtain ⟨q2, hq2, hF⟩ := f_bind hF
  refine x_cVi (rest := [.int (μ 83 (ix x1))]) C (c_X8_styleOf l C.2.2.2.2.2.2.2.2 2 μ hq2) cw_X8_171 sh_82 rfl rfl ⟨by decide, by decide⟩ rfl rfl (Nat.le_of_ble_eq_true rfl) dX8_shownAtFirst_8 ?_
  refine x_icmp_gt (tgt := 23) C dX8_shownAtFirst_11 (by decide) (fun hc => ?_) (fun hc => ?_)
  · replace hF := f_t hc hF
    refine x_aload_n C 0 dX8_shownAtFirst_23 rfl rfl ?_
    refine x_iconst (v := 3) C dX8_shownAtFirst_24 (by decide) ?_
    obtain ⟨q3, hq3, hF⟩ := f_bind hF
    refine x_cVi (rest := []) C (c_X8_styleOf l C.2.2.2.2.2.2.2.2 3 μ hq3) cw_X8_171 sh_82 rfl rfl ⟨by decide, by decide⟩ rfl rfl (Nat.le_of_ble_eq_true rfl) dX8_shownAtFirst_25 ?_
    exact x_iret C dX8_shownAtFirst_28 (Option.some.inj hF) rfl
  · replace hF := f_f hc hF
    refine x_aload_n C 0 dX8_shownAtFirst_14 rfl rfl ?_
    refine x_getR C fc_X8 fl_X8_7 sh_82 (by decide) rfl dX8_shownAtFirst_15 ?_
    refine x_iload_n C 1 dX8_shownAtFirst_18 rfl rfl ?_
    refine x_iald C sh_83 hi1 dX8_shownAtFirst_19 ?_
    refine x_goto (tgt := 28) C dX8_shownAtFirst_20 (by decide) ?_
    exact x_iret C dX8_shownAtFirst_28 (Option.some.inj hF) rfl
set_option maxHeartbeats 4000000 in
theorem c_X8_shownAtFirst {G : Gl} (l : Launch) (hA : Ap G) {r : Int32}  (x1 : Int32) (μ : Mu) (hF : f_X8_shownAtFirst x1 μ = some r) : Mth G l yX8_shownAtFirst cX8_shownAtFirst 2 (some .int) 1 21 [.ref (G.ad 82), .int x1] (some (.int r)) μ μ := Mth.of hA (by decide) rfl (Nat.le_of_ble_eq_true rfl) (fun p e s0 m args below meth c C => w_X8_shownAtFirst C x1 μ hF)
set_option maxHeartbeats 4000000 in
theorem w_X8_lesser {G : Gl} {p : Program} {l : Launch} {e : Env} {s0 : State} {m : MethodId} {args : Array Value} {below : List Frame} {meth : Method} {c : Code} (C : Cx G p s0 m args meth c cX8_lesser 2 RX8 (some .int)) {r : Int32}  (x0 : Int32) (x1 : Int32) (μ : Mu) (hF : f_X8_lesser x0 x1 = r) : X G p l e 0 0 s0 m args below meth c 2 (some (.int r)) μ μ 0 [(0, .int x0), (1, .int x1)] [] := by
  unfold f_X8_lesser at hF
  refine x_iload_n C 0 dX8_lesser_0 rfl rfl ?_
  refine x_iload_n C 1 dX8_lesser_1 rfl rfl ?_
  refine x_icmp_ge (tgt := 9) C dX8_lesser_2 (by decide) (fun hc => ?_) (fun hc => ?_)
  · replace hF := f_t hc hF
    refine x_iload_n C 1 dX8_lesser_9 rfl rfl ?_
    exact x_iret C dX8_lesser_10 hF rfl
  · replace hF := f_f hc hF
    refine x_iload_n C 0 dX8_lesser_5 rfl rfl ?_
    refine x_goto (tgt := 10) C dX8_lesser_6 (by decide) ?_
    exact x_iret C dX8_lesser_10 hF rfl
set_option maxHeartbeats 4000000 in
theorem c_X8_lesser {G : Gl} (l : Launch) (hA : Ap G) (x0 : Int32) (x1 : Int32) (μ : Mu) : Mth G l yX8_lesser cX8_lesser 2 (some .int) 0 0 [.int x0, .int x1] (some (.int (f_X8_lesser x0 x1))) μ μ := Mth.of hA (by decide) rfl (Nat.le_of_ble_eq_true rfl) (fun p e s0 m args below meth c C => w_X8_lesser C x0 x1 μ rfl)
set_option maxHeartbeats 4000000 in
theorem w_X8_isLike_L85 {G : Gl} {p : Program} {l : Launch} {e : Env} {s0 : State} {m : MethodId} {args : Array Value} {below : List Frame} {meth : Method} {c : Code} (C : Cx G p s0 m args meth c cX8_isLike 7 RX8 (some .boolean)) {r : Int32}  (μ : Mu) : ∀ (n : Nat) (x1 : Int32) (x2 : Int32) (x4 : Int32) (x5 : Int32) (x6 : Int32), f_X8_isLike_L85 μ n x1 x2 x4 x5 x6 = some r → X G p l e 1 21 s0 m args below meth c 7 (some (.int r)) μ μ 85 [(0, .ref (G.ad 82)), (1, .int x1), (2, .int x2), (4, .int x4), (5, .int x5), (6, .int x6)] [] := by
  intro n
  induction n with
  | zero =>
    intro x1 x2 x4 x5 x6 hF
    rw [f_X8_isLike_L85] at hF
    cases hF
  | succ n ih =>
    intro x1 x2 x4 x5 x6 hF
    rw [f_X8_isLike_L85] at hF
    refine x_iload C 5 dX8_isLike_85 rfl ?_
    refine x_iload C 3 dX8_isLike_87 rfl ?_
    refine x_icmp_ge (tgt := 135) C dX8_isLike_89 (by decide) (fun hc => ?_) (fun hc => ?_)
    · replace hF := f_t hc hF
      refine x_iload C 4 dX8_isLike_135 rfl ?_
      obtain ⟨hb1, hF⟩ := f_chk hF
      exact x_zret C dX8_isLike_137 hb1 (Option.some.inj hF) rfl
    · replace hF := f_f hc hF
      refine x_iload C 4 dX8_isLike_92 rfl ?_
      refine x_if_eq (tgt := 135) C dX8_isLike_94 (by decide) (fun hc => ?_) (fun hc => ?_)
      · replace hF := f_t hc hF
        refine x_iload C 4 dX8_isLike_135 rfl ?_
        obtain ⟨hb2, hF⟩ := f_chk hF
        exact x_zret C dX8_isLike_137 hb2 (Option.some.inj hF) rfl
      · replace hF := f_f hc hF
        refine x_aload_n C 0 dX8_isLike_97 rfl rfl ?_
        refine x_getR C fc_X8 fl_X8_13 sh_82 (by decide) rfl dX8_isLike_98 ?_
        refine x_iconst (v := 4) C dX8_isLike_101 (by decide) ?_
        refine x_iload_n C 1 dX8_isLike_102 rfl rfl ?_
        refine x_imul C dX8_isLike_103 ?_
        refine x_iload C 5 dX8_isLike_104 rfl ?_
        refine x_iadd C dX8_isLike_106 ?_
        obtain ⟨hi3, hF⟩ := f_chk hF
        refine x_iald C sh_84 hi3 dX8_isLike_107 ?_
        refine x_aload_n C 0 dX8_isLike_108 rfl rfl ?_
        refine x_getR C fc_X8 fl_X8_13 sh_82 (by decide) rfl dX8_isLike_109 ?_
        refine x_iconst (v := 4) C dX8_isLike_112 (by decide) ?_
        refine x_iload_n C 2 dX8_isLike_113 rfl rfl ?_
        refine x_imul C dX8_isLike_114 ?_
        refine x_iload C 5 dX8_isLike_115 rfl ?_
        refine x_iadd C dX8_isLike_117 ?_
        obtain ⟨hi4, hF⟩ := f_chk hF
        refine x_iald C sh_84 hi4 dX8_isLike_118 ?_
        refine x_icmp_ne (tgt := 126) C dX8_isLike_119 (by decide) (fun hc => ?_) (fun hc => ?_)
        · replace hF := f_f hc hF
          refine x_iconst (v := 0) C dX8_isLike_126 (by decide) ?_
          refine x_istore C [(5, .int 0), (0, .ref (G.ad 82)), (1, .int x1), (2, .int x2), (4, .int x4), (6, .int x6)] dX8_isLike_127 (by decide) rfl ?_
          refine x_iinc C [(6, .int (x6 + 1)), (5, .int 0), (0, .ref (G.ad 82)), (1, .int x1), (2, .int x2), (4, .int x4)] 5 dX8_isLike_129 rfl rfl (by decide) rfl ?_
          refine x_goto (tgt := 85) C dX8_isLike_132 (by decide) ?_
          exact x_pick [(0, .ref (G.ad 82)), (1, .int x1), (2, .int x2), (4, .int x4), (5, .int 0), (6, .int (x6 + 1))] [2, 3, 4, 5, 1, 0] rfl (ih x1 x2 x4 0 (x6 + 1) hF)
        · replace hF := f_t hc hF
          refine x_iconst (v := 1) C dX8_isLike_122 (by decide) ?_
          refine x_goto (tgt := 127) C dX8_isLike_123 (by decide) ?_
          refine x_istore C [(5, .int 1), (0, .ref (G.ad 82)), (1, .int x1), (2, .int x2), (4, .int x4), (6, .int x6)] dX8_isLike_127 (by decide) rfl ?_
          refine x_iinc C [(6, .int (x6 + 1)), (5, .int 1), (0, .ref (G.ad 82)), (1, .int x1), (2, .int x2), (4, .int x4)] 5 dX8_isLike_129 rfl rfl (by decide) rfl ?_
          refine x_goto (tgt := 85) C dX8_isLike_132 (by decide) ?_
          exact x_pick [(0, .ref (G.ad 82)), (1, .int x1), (2, .int x2), (4, .int x4), (5, .int 1), (6, .int (x6 + 1))] [2, 3, 4, 5, 1, 0] rfl (ih x1 x2 x4 1 (x6 + 1) hF)
set_option maxHeartbeats 4000000 in
theorem w_X8_isLike_b57 {G : Gl} {p : Program} {l : Launch} {e : Env} {s0 : State} {m : MethodId} {args : Array Value} {below : List Frame} {meth : Method} {c : Code} (C : Cx G p s0 m args meth c cX8_isLike 7 RX8 (some .boolean)) {r : Int32}  (μ : Mu) (x1 : Int32) (x2 : Int32) (x3 : Int32) (x4 : Int32) (t0 : Int32) (hF : f_X8_isLike_b57 μ x1 x2 x3 x4 t0 = some r) : X G p l e 1 21 s0 m args below meth c 7 (some (.int r)) μ μ 57 [(0, .ref (G.ad 82)), (1, .int x1), (2, .int x2), (3, .int x3), (4, .int x4)] [.int t0] := by
  unfold f_X8_isLike_b57 at hF
  refine x_aload_n C 0 dX8_isLike_57 rfl rfl ?_
  refine x_getR C fc_X8 fl_X8_7 sh_82 (by decide) rfl dX8_isLike_58 ?_
  refine x_iload_n C 2 dX8_isLike_61 rfl rfl ?_
  obtain ⟨hi1, hF⟩ := f_chk hF
  refine x_iald C sh_83 hi1 dX8_isLike_62 ?_
  refine x_iload_n C 3 dX8_isLike_63 rfl rfl ?_
  refine x_icmp_le (tgt := 71) C dX8_isLike_64 (by decide) (fun hc => ?_) (fun hc => ?_)
  · replace hF := f_t hc hF
    refine x_iconst (v := 0) C dX8_isLike_71 (by decide) ?_
    refine x_icmp_ne (tgt := 79) C dX8_isLike_72 (by decide) (fun hc => ?_) (fun hc => ?_)
    · replace hF := f_f hc hF
      refine x_iconst (v := 0) C dX8_isLike_79 (by decide) ?_
      refine x_istore C [(5, .int 0), (0, .ref (G.ad 82)), (1, .int x1), (2, .int x2), (3, .int x3), (4, .int x4)] dX8_isLike_80 (by decide) rfl ?_
      refine x_iconst (v := 0) C dX8_isLike_82 (by decide) ?_
      refine x_istore C [(6, .int 0), (5, .int 0), (0, .ref (G.ad 82)), (1, .int x1), (2, .int x2), (3, .int x3), (4, .int x4)] dX8_isLike_83 (by decide) rfl ?_
      exact x_pick [(0, .ref (G.ad 82)), (1, .int x1), (2, .int x2), (4, .int x4), (5, .int 0), (6, .int 0)] [2, 3, 4, 6, 1, 0] rfl (w_X8_isLike_L85 C μ fu x1 x2 x4 0 0 hF)
    · replace hF := f_t hc hF
      refine x_iconst (v := 1) C dX8_isLike_75 (by decide) ?_
      refine x_goto (tgt := 80) C dX8_isLike_76 (by decide) ?_
      refine x_istore C [(5, .int 1), (0, .ref (G.ad 82)), (1, .int x1), (2, .int x2), (3, .int x3), (4, .int x4)] dX8_isLike_80 (by decide) rfl ?_
      refine x_iconst (v := 0) C dX8_isLike_82 (by decide) ?_
      refine x_istore C [(6, .int 0), (5, .int 1), (0, .ref (G.ad 82)), (1, .int x1), (2, .int x2), (3, .int x3), (4, .int x4)] dX8_isLike_83 (by decide) rfl ?_
      exact x_pick [(0, .ref (G.ad 82)), (1, .int x1), (2, .int x2), (4, .int x4), (5, .int 1), (6, .int 0)] [2, 3, 4, 6, 1, 0] rfl (w_X8_isLike_L85 C μ fu x1 x2 x4 1 0 hF)
  · replace hF := f_f hc hF
    refine x_iconst (v := 1) C dX8_isLike_67 (by decide) ?_
    refine x_goto (tgt := 72) C dX8_isLike_68 (by decide) ?_
    refine x_icmp_ne (tgt := 79) C dX8_isLike_72 (by decide) (fun hc => ?_) (fun hc => ?_)
    · replace hF := f_f hc hF
      refine x_iconst (v := 0) C dX8_isLike_79 (by decide) ?_
      refine x_istore C [(5, .int 0), (0, .ref (G.ad 82)), (1, .int x1), (2, .int x2), (3, .int x3), (4, .int x4)] dX8_isLike_80 (by decide) rfl ?_
      refine x_iconst (v := 0) C dX8_isLike_82 (by decide) ?_
      refine x_istore C [(6, .int 0), (5, .int 0), (0, .ref (G.ad 82)), (1, .int x1), (2, .int x2), (3, .int x3), (4, .int x4)] dX8_isLike_83 (by decide) rfl ?_
      exact x_pick [(0, .ref (G.ad 82)), (1, .int x1), (2, .int x2), (4, .int x4), (5, .int 0), (6, .int 0)] [2, 3, 4, 6, 1, 0] rfl (w_X8_isLike_L85 C μ fu x1 x2 x4 0 0 hF)
    · replace hF := f_t hc hF
      refine x_iconst (v := 1) C dX8_isLike_75 (by decide) ?_
      refine x_goto (tgt := 80) C dX8_isLike_76 (by decide) ?_
      refine x_istore C [(5, .int 1), (0, .ref (G.ad 82)), (1, .int x1), (2, .int x2), (3, .int x3), (4, .int x4)] dX8_isLike_80 (by decide) rfl ?_
      refine x_iconst (v := 0) C dX8_isLike_82 (by decide) ?_
      refine x_istore C [(6, .int 0), (5, .int 1), (0, .ref (G.ad 82)), (1, .int x1), (2, .int x2), (3, .int x3), (4, .int x4)] dX8_isLike_83 (by decide) rfl ?_
      exact x_pick [(0, .ref (G.ad 82)), (1, .int x1), (2, .int x2), (4, .int x4), (5, .int 1), (6, .int 0)] [2, 3, 4, 6, 1, 0] rfl (w_X8_isLike_L85 C μ fu x1 x2 x4 1 0 hF)
set_option maxHeartbeats 4000000 in
theorem w_X8_isLike {G : Gl} {p : Program} {l : Launch} {e : Env} {s0 : State} {m : MethodId} {args : Array Value} {below : List Frame} {meth : Method} {c : Code} (C : Cx G p s0 m args meth c cX8_isLike 7 RX8 (some .boolean)) {r : Int32}  (x1 : Int32) (x2 : Int32) (x3 : Int32) (μ : Mu) (hF : f_X8_isLike x1 x2 x3 μ = some r) : X G p l e 1 21 s0 m args below meth c 7 (some (.int r)) μ μ 0 [(0, .ref (G.ad 82)), (1, .int x1), (2, .int x2), (3, .int x3)] [] := by
  unfold f_X8_isLike at hF
  refine x_iload_n C 3 dX8_isLike_0 rfl rfl ?_
  refine x_aload_n C 0 dX8_isLike_1 rfl rfl ?_
  refine x_getR C fc_X8 fl_X8_7 sh_82 (by decide) rfl dX8_isLike_2 ?_
  refine x_iload_n C 1 dX8_isLike_5 rfl rfl ?_
  obtain ⟨hi1, hF⟩ := f_chk hF
  refine x_iald C sh_83 hi1 dX8_isLike_6 ?_
  refine x_cSi (rest := []) C (c_X8_lesser l C.2.2.2.2.2.2.2.2 x3 (μ 83 (ix x1)) μ) cw_X8_187 ⟨by decide, by decide⟩ rfl rfl (Nat.le_of_ble_eq_true rfl) dX8_isLike_7 ?_
  refine x_letI hF (fun y2 hF => ?_)
  refine x_istore C [(4, .int y2), (0, .ref (G.ad 82)), (1, .int x1), (2, .int x2), (3, .int x3)] dX8_isLike_10 (by decide) rfl ?_
  refine x_aload_n C 1 dX8_isLike_12 rfl rfl ?_
  refine x_getR C fc_X8 fl_X8_22 sh_82 (by decide) rfl dX8_isLike_13 ?_
  refine x_iload_n C 2 dX8_isLike_16 rfl rfl ?_
  refine x_iald C sh_87 hi1 dX8_isLike_17 ?_
  refine x_aload_n C 1 dX8_isLike_18 rfl rfl ?_
  refine x_getR C fc_X8 fl_X8_22 sh_82 (by decide) rfl dX8_isLike_19 ?_
  refine x_iload_n C 3 dX8_isLike_22 rfl rfl ?_
  obtain ⟨hi3, hF⟩ := f_chk hF
  refine x_iald C sh_87 hi3 dX8_isLike_23 ?_
  refine x_icmp_ne (tgt := 79) C dX8_isLike_24 (by decide) (fun hc => ?_) (fun hc => ?_)
  · replace hF := f_f hc hF
    refine x_iconst (v := 0) C dX8_isLike_79 (by decide) ?_
    refine x_istore C [(5, .int 0), (4, .int y2), (0, .ref (G.ad 82)), (1, .int x1), (2, .int x2), (3, .int x3)] dX8_isLike_80 (by decide) rfl ?_
    refine x_iconst (v := 0) C dX8_isLike_82 (by decide) ?_
    refine x_istore C [(6, .int 0), (5, .int 0), (4, .int y2), (0, .ref (G.ad 82)), (1, .int x1), (2, .int x2), (3, .int x3)] dX8_isLike_83 (by decide) rfl ?_
    exact x_pick [(0, .ref (G.ad 82)), (1, .int x1), (2, .int x2), (4, .int y2), (5, .int 0), (6, .int 0)] [3, 4, 5, 2, 1, 0] rfl (w_X8_isLike_L85 C μ fu x1 x2 y2 0 0 hF)
  · replace hF := f_t hc hF
    refine x_iload C 0 dX8_isLike_27 rfl ?_
    refine x_iload_n C 4 dX8_isLike_29 rfl rfl ?_
    refine x_aload_n C 1 dX8_isLike_30 rfl rfl ?_
    refine x_getR C fc_X8 fl_X8_7 sh_82 (by decide) rfl dX8_isLike_31 ?_
    refine x_iload_n C 3 dX8_isLike_34 rfl rfl ?_
    refine x_iald C sh_83 hi3 dX8_isLike_35 ?_
    refine x_cSi (rest := [.int y2]) C (c_X8_lesser l C.2.2.2.2.2.2.2.2 x3 (μ 83 (ix x2)) μ) cw_X8_187 ⟨by decide, by decide⟩ rfl rfl (Nat.le_of_ble_eq_true rfl) dX8_isLike_36 ?_
    refine x_icmp_ne (tgt := 79) C dX8_isLike_39 (by decide) (fun hc => ?_) (fun hc => ?_)
    · replace hF := f_f hc hF
      refine x_iconst (v := 0) C dX8_isLike_79 (by decide) ?_
      refine x_istore C [(5, .int 0), (4, .int y2), (0, .ref (G.ad 82)), (1, .int x1), (2, .int x2), (3, .int x3)] dX8_isLike_80 (by decide) rfl ?_
      refine x_iconst (v := 0) C dX8_isLike_82 (by decide) ?_
      refine x_istore C [(6, .int 0), (5, .int 0), (4, .int y2), (0, .ref (G.ad 82)), (1, .int x1), (2, .int x2), (3, .int x3)] dX8_isLike_83 (by decide) rfl ?_
      exact x_pick [(0, .ref (G.ad 82)), (1, .int x1), (2, .int x2), (4, .int y2), (5, .int 0), (6, .int 0)] [3, 4, 5, 2, 1, 0] rfl (w_X8_isLike_L85 C μ fu x1 x2 y2 0 0 hF)
    · replace hF := f_t hc hF
      refine x_aload_n C 1 dX8_isLike_42 rfl rfl ?_
      refine x_getR C fc_X8 fl_X8_7 sh_82 (by decide) rfl dX8_isLike_43 ?_
      refine x_iload_n C 2 dX8_isLike_46 rfl rfl ?_
      refine x_iald C sh_83 hi1 dX8_isLike_47 ?_
      refine x_iload_n C 4 dX8_isLike_48 rfl rfl ?_
      refine x_icmp_le (tgt := 56) C dX8_isLike_49 (by decide) (fun hc => ?_) (fun hc => ?_)
      · replace hF := f_t hc hF
        refine x_iconst (v := 0) C dX8_isLike_56 (by decide) ?_
        exact x_pick [(0, .ref (G.ad 82)), (1, .int x1), (2, .int x2), (3, .int x3), (4, .int y2)] [1, 2, 3, 4, 0] rfl (w_X8_isLike_b57 C μ x1 x2 x3 y2 0 hF)
      · replace hF := f_f hc hF
        refine x_iconst (v := 1) C dX8_isLike_52 (by decide) ?_
        refine x_goto (tgt := 57) C dX8_isLike_53 (by decide) ?_
        exact x_pick [(0, .ref (G.ad 82)), (1, .int x1), (2, .int x2), (3, .int x3), (4, .int y2)] [1, 2, 3, 4, 0] rfl (w_X8_isLike_b57 C μ x1 x2 x3 y2 1 hF)
set_option maxHeartbeats 4000000 in
theorem c_X8_isLike {G : Gl} (l : Launch) (hA : Ap G) {r : Int32}  (x1 : Int32) (x2 : Int32) (x3 : Int32) (μ : Mu) (hF : f_X8_isLike x1 x2 x3 μ = some r) : Mth G l yX8_isLike cX8_isLike 7 (some .boolean) 1 21 [.ref (G.ad 82), .int x1, .int x2, .int x3] (some (.int r)) μ μ := Mth.of hA (by decide) rfl (Nat.le_of_ble_eq_true rfl) (fun p e s0 m args below meth c C => w_X8_isLike C x1 x2 x3 μ hF)
set_option maxHeartbeats 4000000 in
theorem w_X8_shownOf_L33 {G : Gl} {p : Program} {l : Launch} {e : Env} {s0 : State} {m : MethodId} {args : Array Value} {below : List Frame} {meth : Method} {c : Code} (C : Cx G p s0 m args meth c cX8_shownOf 6 RX8 (some .int)) {r : Int32}  (μ : Mu) {k8 : Int32 → Int32 → Int32 → Option (Int32)} (hk8 : ∀ (x1 : Int32) (x2 : Int32) (x3 : Int32), k8 x1 x2 x3 = some r → X G p l e 2 47 s0 m args below meth c 6 (some (.int r)) μ μ 8 [(0, .ref (G.ad 82)), (1, .int x1), (2, .int x2), (3, .int x3)] []) : ∀ (n : Nat) (x1 : Int32) (x2 : Int32) (x3 : Int32) (x4 : Int32) (x5 : Int32), f_X8_shownOf_L33 k8 μ n x1 x2 x3 x4 x5 = some r → X G p l e 2 47 s0 m args below meth c 6 (some (.int r)) μ μ 33 [(0, .ref (G.ad 82)), (1, .int x1), (2, .int x2), (3, .int x3), (4, .int x4), (5, .int x5)] [] := by
  intro n
  induction n with
  | zero =>
    intro x1 x2 x3 x4 x5 hF
    rw [f_X8_shownOf_L33] at hF
    cases hF
  | succ n ih =>
    intro x1 x2 x3 x4 x5 hF
    rw [f_X8_shownOf_L33] at hF
    refine x_iload C 5 dX8_shownOf_33 rfl ?_
    refine x_aload_n C 0 dX8_shownOf_35 rfl rfl ?_
    refine x_getI C fc_X8 fl_X8_124 sh_82 (by decide) rfl dX8_shownOf_36 ?_
    refine x_icmp_ge (tgt := 86) C dX8_shownOf_39 (by decide) (fun hc => ?_) (fun hc => ?_)
    · replace hF := f_t hc hF
      refine x_iload C 4 dX8_shownOf_86 rfl ?_
      refine x_if_eq (tgt := 93) C dX8_shownOf_88 (by decide) (fun hc => ?_) (fun hc => ?_)
      · replace hF := f_t hc hF
        refine x_iinc C [(3, .int (x3 + 1)), (0, .ref (G.ad 82)), (1, .int x1), (2, .int x2), (4, .int x4), (5, .int x5)] 3 dX8_shownOf_93 rfl rfl (by decide) rfl ?_
        refine x_goto (tgt := 8) C dX8_shownOf_96 (by decide) ?_
        exact x_pick [(0, .ref (G.ad 82)), (1, .int x1), (2, .int x2), (3, .int (x3 + 1))] [1, 2, 3, 0] rfl (hk8 x1 x2 (x3 + 1) hF)
      · replace hF := f_f hc hF
        refine x_iload_n C 3 dX8_shownOf_91 rfl rfl ?_
        exact x_iret C dX8_shownOf_92 (Option.some.inj hF) rfl
    · replace hF := f_f hc hF
      refine x_iload C 4 dX8_shownOf_42 rfl ?_
      refine x_if_eq (tgt := 77) C dX8_shownOf_44 (by decide) (fun hc => ?_) (fun hc => ?_)
      · replace hF := f_t hc hF
        refine x_iconst (v := 0) C dX8_shownOf_77 (by decide) ?_
        refine x_istore C [(4, .int 0), (0, .ref (G.ad 82)), (1, .int x1), (2, .int x2), (3, .int x3), (5, .int x5)] dX8_shownOf_78 (by decide) rfl ?_
        refine x_iinc C [(5, .int (x5 + 1)), (4, .int 0), (0, .ref (G.ad 82)), (1, .int x1), (2, .int x2), (3, .int x3)] 5 dX8_shownOf_80 rfl rfl (by decide) rfl ?_
        refine x_goto (tgt := 33) C dX8_shownOf_83 (by decide) ?_
        exact x_pick [(0, .ref (G.ad 82)), (1, .int x1), (2, .int x2), (3, .int x3), (4, .int 0), (5, .int (x5 + 1))] [2, 3, 4, 5, 1, 0] rfl (ih x1 x2 x3 0 (x5 + 1) hF)
      · replace hF := f_f hc hF
        refine x_iload C 5 dX8_shownOf_47 rfl ?_
        refine x_iload_n C 1 dX8_shownOf_49 rfl rfl ?_
        refine x_icmp_eq (tgt := 73) C dX8_shownOf_50 (by decide) (fun hc => ?_) (fun hc => ?_)
        · replace hF := f_t hc hF
          refine x_iconst (v := 1) C dX8_shownOf_73 (by decide) ?_
          refine x_goto (tgt := 78) C dX8_shownOf_74 (by decide) ?_
          refine x_istore C [(4, .int 1), (0, .ref (G.ad 82)), (1, .int x1), (2, .int x2), (3, .int x3), (5, .int x5)] dX8_shownOf_78 (by decide) rfl ?_
          refine x_iinc C [(5, .int (x5 + 1)), (4, .int 1), (0, .ref (G.ad 82)), (1, .int x1), (2, .int x2), (3, .int x3)] 5 dX8_shownOf_80 rfl rfl (by decide) rfl ?_
          refine x_goto (tgt := 33) C dX8_shownOf_83 (by decide) ?_
          exact x_pick [(0, .ref (G.ad 82)), (1, .int x1), (2, .int x2), (3, .int x3), (4, .int 1), (5, .int (x5 + 1))] [2, 3, 4, 5, 1, 0] rfl (ih x1 x2 x3 1 (x5 + 1) hF)
        · replace hF := f_f hc hF
          refine x_aload_n C 0 dX8_shownOf_53 rfl rfl ?_
          refine x_iload C 5 dX8_shownOf_54 rfl ?_
          obtain ⟨q1, hq1, hF⟩ := f_bind hF
          refine x_cVi (rest := []) C (c_X8_isCited l C.2.2.2.2.2.2.2.2 x5 μ hq1) cw_X8_180 sh_82 rfl rfl ⟨by decide, by decide⟩ rfl rfl (Nat.le_of_ble_eq_true rfl) dX8_shownOf_56 ?_
          refine x_if_eq (tgt := 73) C dX8_shownOf_59 (by decide) (fun hc => ?_) (fun hc => ?_)
          · replace hF := f_t hc hF
            refine x_iconst (v := 1) C dX8_shownOf_73 (by decide) ?_
            refine x_goto (tgt := 78) C dX8_shownOf_74 (by decide) ?_
            refine x_istore C [(4, .int 1), (0, .ref (G.ad 82)), (1, .int x1), (2, .int x2), (3, .int x3), (5, .int x5)] dX8_shownOf_78 (by decide) rfl ?_
            refine x_iinc C [(5, .int (x5 + 1)), (4, .int 1), (0, .ref (G.ad 82)), (1, .int x1), (2, .int x2), (3, .int x3)] 5 dX8_shownOf_80 rfl rfl (by decide) rfl ?_
            refine x_goto (tgt := 33) C dX8_shownOf_83 (by decide) ?_
            exact x_pick [(0, .ref (G.ad 82)), (1, .int x1), (2, .int x2), (3, .int x3), (4, .int 1), (5, .int (x5 + 1))] [2, 3, 4, 5, 1, 0] rfl (ih x1 x2 x3 1 (x5 + 1) hF)
          · replace hF := f_f hc hF
            refine x_aload_n C 0 dX8_shownOf_62 rfl rfl ?_
            refine x_iload_n C 1 dX8_shownOf_63 rfl rfl ?_
            refine x_iload C 5 dX8_shownOf_64 rfl ?_
            refine x_iload_n C 3 dX8_shownOf_66 rfl rfl ?_
            obtain ⟨q2, hq2, hF⟩ := f_bind hF
            refine x_cVi (rest := []) C (c_X8_isLike l C.2.2.2.2.2.2.2.2 x1 x5 x3 μ hq2) cw_X8_193 sh_82 rfl rfl ⟨by decide, by decide⟩ rfl rfl (Nat.le_of_ble_eq_true rfl) dX8_shownOf_67 ?_
            refine x_if_ne (tgt := 77) C dX8_shownOf_70 (by decide) (fun hc => ?_) (fun hc => ?_)
            · replace hF := f_f hc hF
              refine x_iconst (v := 0) C dX8_shownOf_77 (by decide) ?_
              refine x_istore C [(4, .int 0), (0, .ref (G.ad 82)), (1, .int x1), (2, .int x2), (3, .int x3), (5, .int x5)] dX8_shownOf_78 (by decide) rfl ?_
              refine x_iinc C [(5, .int (x5 + 1)), (4, .int 0), (0, .ref (G.ad 82)), (1, .int x1), (2, .int x2), (3, .int x3)] 5 dX8_shownOf_80 rfl rfl (by decide) rfl ?_
              refine x_goto (tgt := 33) C dX8_shownOf_83 (by decide) ?_
              exact x_pick [(0, .ref (G.ad 82)), (1, .int x1), (2, .int x2), (3, .int x3), (4, .int 0), (5, .int (x5 + 1))] [2, 3, 4, 5, 1, 0] rfl (ih x1 x2 x3 0 (x5 + 1) hF)
            · replace hF := f_t hc hF
              refine x_iconst (v := 1) C dX8_shownOf_73 (by decide) ?_
              refine x_goto (tgt := 78) C dX8_shownOf_74 (by decide) ?_
              refine x_istore C [(4, .int 1), (0, .ref (G.ad 82)), (1, .int x1), (2, .int x2), (3, .int x3), (5, .int x5)] dX8_shownOf_78 (by decide) rfl ?_
              refine x_iinc C [(5, .int (x5 + 1)), (4, .int 1), (0, .ref (G.ad 82)), (1, .int x1), (2, .int x2), (3, .int x3)] 5 dX8_shownOf_80 rfl rfl (by decide) rfl ?_
              refine x_goto (tgt := 33) C dX8_shownOf_83 (by decide) ?_
              exact x_pick [(0, .ref (G.ad 82)), (1, .int x1), (2, .int x2), (3, .int x3), (4, .int 1), (5, .int (x5 + 1))] [2, 3, 4, 5, 1, 0] rfl (ih x1 x2 x3 1 (x5 + 1) hF)
set_option maxHeartbeats 4000000 in
theorem w_X8_shownOf_L8 {G : Gl} {p : Program} {l : Launch} {e : Env} {s0 : State} {m : MethodId} {args : Array Value} {below : List Frame} {meth : Method} {c : Code} (C : Cx G p s0 m args meth c cX8_shownOf 6 RX8 (some .int)) {r : Int32}  (μ : Mu) : ∀ (n : Nat) (x1 : Int32) (x2 : Int32) (x3 : Int32), f_X8_shownOf_L8 μ n x1 x2 x3 = some r → X G p l e 2 47 s0 m args below meth c 6 (some (.int r)) μ μ 8 [(0, .ref (G.ad 82)), (1, .int x1), (2, .int x2), (3, .int x3)] [] := by
  intro n
  induction n with
  | zero =>
    intro x1 x2 x3 hF
    rw [f_X8_shownOf_L8] at hF
    cases hF
  | succ n ih =>
    intro x1 x2 x3 hF
    rw [f_X8_shownOf_L8] at hF
    refine x_iload_n C 3 dX8_shownOf_8 rfl rfl ?_
    refine x_aload_n C 0 dX8_shownOf_9 rfl rfl ?_
    refine x_getR C fc_X8 fl_X8_7 sh_82 (by decide) rfl dX8_shownOf_10 ?_
    refine x_iload_n C 1 dX8_shownOf_13 rfl rfl ?_
    obtain ⟨hi1, hF⟩ := f_chk hF
    refine x_iald C sh_83 hi1 dX8_shownOf_14 ?_
    refine x_icmp_gt (tgt := 99) C dX8_shownOf_15 (by decide) (fun hc => ?_) (fun hc => ?_)
    · replace hF := f_t hc hF
      refine x_iload_n C 2 dX8_shownOf_99 rfl rfl ?_
      exact x_iret C dX8_shownOf_100 (Option.some.inj hF) rfl
    · replace hF := f_f hc hF
      refine x_aload_n C 0 dX8_shownOf_18 rfl rfl ?_
      refine x_iconst (v := 5) C dX8_shownOf_19 (by decide) ?_
      obtain ⟨q2, hq2, hF⟩ := f_bind hF
      refine x_cVi (rest := []) C (c_X8_styleOf l C.2.2.2.2.2.2.2.2 5 μ hq2) cw_X8_171 sh_82 rfl rfl ⟨by decide, by decide⟩ rfl rfl (Nat.le_of_ble_eq_true rfl) dX8_shownOf_20 ?_
      refine x_iconst (v := 1) C dX8_shownOf_23 (by decide) ?_
      refine x_icmp_ne (tgt := 99) C dX8_shownOf_24 (by decide) (fun hc => ?_) (fun hc => ?_)
      · replace hF := f_f hc hF
        refine x_iload_n C 2 dX8_shownOf_99 rfl rfl ?_
        exact x_iret C dX8_shownOf_100 (Option.some.inj hF) rfl
      · replace hF := f_t hc hF
        refine x_iconst (v := 1) C dX8_shownOf_27 (by decide) ?_
        refine x_istore C [(4, .int 1), (0, .ref (G.ad 82)), (1, .int x1), (2, .int x2), (3, .int x3)] dX8_shownOf_28 (by decide) rfl ?_
        refine x_iconst (v := 0) C dX8_shownOf_30 (by decide) ?_
        refine x_istore C [(5, .int 0), (4, .int 1), (0, .ref (G.ad 82)), (1, .int x1), (2, .int x2), (3, .int x3)] dX8_shownOf_31 (by decide) rfl ?_
        exact x_pick [(0, .ref (G.ad 82)), (1, .int x1), (2, .int x2), (3, .int x3), (4, .int 1), (5, .int 0)] [2, 3, 4, 5, 1, 0] rfl (w_X8_shownOf_L33 C μ ih fu x1 x2 x3 1 0 hF)
set_option maxHeartbeats 4000000 in
theorem w_X8_shownOf {G : Gl} {p : Program} {l : Launch} {e : Env} {s0 : State} {m : MethodId} {args : Array Value} {below : List Frame} {meth : Method} {c : Code} (C : Cx G p s0 m args meth c cX8_shownOf 6 RX8 (some .int)) {r : Int32}  (x1 : Int32) (μ : Mu) (hF : f_X8_shownOf x1 μ = some r) : X G p l e 2 47 s0 m args below meth c 6 (some (.int r)) μ μ 0 [(0, .ref (G.ad 82)), (1, .int x1)] [] := by
  unfold f_X8_shownOf at hF
  refine x_aload_n C 0 dX8_shownOf_0 rfl rfl ?_
  refine x_iload_n C 1 dX8_shownOf_1 rfl rfl ?_
  obtain ⟨q1, hq1, hF⟩ := f_bind hF
  refine x_cVi (rest := []) C (c_X8_shownAtFirst l C.2.2.2.2.2.2.2.2 x1 μ hq1) cw_X8_190 sh_82 rfl rfl ⟨by decide, by decide⟩ rfl rfl (Nat.le_of_ble_eq_true rfl) dX8_shownOf_2 ?_
  refine x_istore_n C [(2, .int q1), (0, .ref (G.ad 82)), (1, .int x1)] dX8_shownOf_5 rfl (by decide) rfl ?_
  refine x_iload_n C 0 dX8_shownOf_6 rfl rfl ?_
  refine x_istore_n C [(3, .int q1), (2, .int q1), (0, .ref (G.ad 82)), (1, .int x1)] dX8_shownOf_7 rfl (by decide) rfl ?_
  exact x_pick [(0, .ref (G.ad 82)), (1, .int x1), (2, .int q1), (3, .int q1)] [2, 3, 1, 0] rfl (w_X8_shownOf_L8 C μ fu x1 q1 q1 hF)
set_option maxHeartbeats 4000000 in
theorem c_X8_shownOf {G : Gl} (l : Launch) (hA : Ap G) {r : Int32}  (x1 : Int32) (μ : Mu) (hF : f_X8_shownOf x1 μ = some r) : Mth G l yX8_shownOf cX8_shownOf 6 (some .int) 2 47 [.ref (G.ad 82), .int x1] (some (.int r)) μ μ := Mth.of hA (by decide) rfl (Nat.le_of_ble_eq_true rfl) (fun p e s0 m args below meth c C => w_X8_shownOf C x1 μ hF)
set_option maxHeartbeats 4000000 in
theorem w_X8_showsInitials_b102 {G : Gl} {p : Program} {l : Launch} {e : Env} {s0 : State} {m : MethodId} {args : Array Value} {below : List Frame} {meth : Method} {c : Code} (C : Cx G p s0 m args meth c cX8_showsInitials 5 RX8 (some .boolean)) {r : Int32}  (μ : Mu) {k4 : Int32 → Int32 → Int32 → Option (Int32)} (hk4 : ∀ (x1 : Int32) (x2 : Int32) (x3 : Int32), k4 x1 x2 x3 = some r → X G p l e 1 21 s0 m args below meth c 5 (some (.int r)) μ μ 4 [(0, .ref (G.ad 82)), (1, .int x1), (2, .int x2), (3, .int x3)] []) (x1 : Int32) (x3 : Int32) (hF : f_X8_showsInitials_b102 k4 μ x1 x3 = some r) : X G p l e 1 21 s0 m args below meth c 5 (some (.int r)) μ μ 102 [(0, .ref (G.ad 82)), (1, .int x1), (3, .int x3)] [] := by
  unfold f_X8_showsInitials_b102 at hF
  refine x_iconst (v := 0) C dX8_showsInitials_102 (by decide) ?_
  refine x_istore_n C [(2, .int 0), (0, .ref (G.ad 82)), (1, .int x1), (3, .int x3)] dX8_showsInitials_103 rfl (by decide) rfl ?_
  refine x_iinc C [(3, .int (x3 + 1)), (2, .int 0), (0, .ref (G.ad 82)), (1, .int x1)] 3 dX8_showsInitials_104 rfl rfl (by decide) rfl ?_
  refine x_goto (tgt := 4) C dX8_showsInitials_107 (by decide) ?_
  exact x_pick [(0, .ref (G.ad 82)), (1, .int x1), (2, .int 0), (3, .int (x3 + 1))] [2, 3, 1, 0] rfl (hk4 x1 0 (x3 + 1) hF)
set_option maxHeartbeats 4000000 in
theorem w_X8_showsInitials_b55 {G : Gl} {p : Program} {l : Launch} {e : Env} {s0 : State} {m : MethodId} {args : Array Value} {below : List Frame} {meth : Method} {c : Code} (C : Cx G p s0 m args meth c cX8_showsInitials 5 RX8 (some .boolean)) {r : Int32}  (μ : Mu) {k4 : Int32 → Int32 → Int32 → Option (Int32)} (hk4 : ∀ (x1 : Int32) (x2 : Int32) (x3 : Int32), k4 x1 x2 x3 = some r → X G p l e 1 21 s0 m args below meth c 5 (some (.int r)) μ μ 4 [(0, .ref (G.ad 82)), (1, .int x1), (2, .int x2), (3, .int x3)] []) (x1 : Int32) (x2 : Int32) (x3 : Int32) (t0 : Int32) (hF : f_X8_showsInitials_b55 k4 μ x1 x2 x3 t0 = some r) : X G p l e 1 21 s0 m args below meth c 5 (some (.int r)) μ μ 55 [(0, .ref (G.ad 82)), (1, .int x1), (2, .int x2), (3, .int x3)] [.int t0] := by
  unfold f_X8_showsInitials_b55 at hF
  refine x_istore C [(4, .int t0), (0, .ref (G.ad 82)), (1, .int x1), (2, .int x2), (3, .int x3)] dX8_showsInitials_55 (by decide) rfl ?_
  refine x_iload_n C 3 dX8_showsInitials_57 rfl rfl ?_
  refine x_if_ne (tgt := 98) C dX8_showsInitials_58 (by decide) (fun hc => ?_) (fun hc => ?_)
  · replace hF := f_f hc hF
    refine x_iconst (v := 1) C dX8_showsInitials_98 (by decide) ?_
    refine x_goto (tgt := 103) C dX8_showsInitials_99 (by decide) ?_
    refine x_istore_n C [(2, .int 1), (4, .int t0), (0, .ref (G.ad 82)), (1, .int x1), (3, .int x3)] dX8_showsInitials_103 rfl (by decide) rfl ?_
    refine x_iinc C [(3, .int (x3 + 1)), (2, .int 1), (4, .int t0), (0, .ref (G.ad 82)), (1, .int x1)] 4 dX8_showsInitials_104 rfl rfl (by decide) rfl ?_
    refine x_goto (tgt := 4) C dX8_showsInitials_107 (by decide) ?_
    exact x_pick [(0, .ref (G.ad 82)), (1, .int x1), (2, .int 1), (3, .int (x3 + 1))] [3, 4, 1, 0] rfl (hk4 x1 1 (x3 + 1) hF)
  · replace hF := f_t hc hF
    refine x_iload_n C 4 dX8_showsInitials_61 rfl rfl ?_
    refine x_iload_n C 2 dX8_showsInitials_62 rfl rfl ?_
    refine x_icmp_eq (tgt := 102) C dX8_showsInitials_63 (by decide) (fun hc => ?_) (fun hc => ?_)
    · replace hF := f_t hc hF
      exact x_pick [(0, .ref (G.ad 82)), (1, .int x1), (3, .int x3)] [1, 2, 4] rfl (w_X8_showsInitials_b102 C μ hk4 x1 x3 hF)
    · replace hF := f_f hc hF
      refine x_aload_n C 1 dX8_showsInitials_66 rfl rfl ?_
      refine x_iload_n C 4 dX8_showsInitials_67 rfl rfl ?_
      obtain ⟨q1, hq1, hF⟩ := f_bind hF
      refine x_cVi (rest := []) C (c_X8_isCited l C.2.2.2.2.2.2.2.2 x3 μ hq1) cw_X8_180 sh_82 rfl rfl ⟨by decide, by decide⟩ rfl rfl (Nat.le_of_ble_eq_true rfl) dX8_showsInitials_68 ?_
      refine x_if_eq (tgt := 102) C dX8_showsInitials_71 (by decide) (fun hc => ?_) (fun hc => ?_)
      · replace hF := f_t hc hF
        exact x_pick [(0, .ref (G.ad 82)), (1, .int x1), (3, .int x3)] [1, 2, 4] rfl (w_X8_showsInitials_b102 C μ hk4 x1 x3 hF)
      · replace hF := f_f hc hF
        refine x_aload_n C 1 dX8_showsInitials_74 rfl rfl ?_
        refine x_getR C fc_X8 fl_X8_13 sh_82 (by decide) rfl dX8_showsInitials_75 ?_
        refine x_iconst (v := 4) C dX8_showsInitials_78 (by decide) ?_
        refine x_iload_n C 2 dX8_showsInitials_79 rfl rfl ?_
        refine x_imul C dX8_showsInitials_80 ?_
        obtain ⟨hi2, hF⟩ := f_chk hF
        refine x_iald C sh_84 hi2 dX8_showsInitials_81 ?_
        refine x_aload_n C 1 dX8_showsInitials_82 rfl rfl ?_
        refine x_getR C fc_X8 fl_X8_13 sh_82 (by decide) rfl dX8_showsInitials_83 ?_
        refine x_iconst (v := 4) C dX8_showsInitials_86 (by decide) ?_
        refine x_iload_n C 4 dX8_showsInitials_87 rfl rfl ?_
        refine x_imul C dX8_showsInitials_88 ?_
        obtain ⟨hi3, hF⟩ := f_chk hF
        refine x_iald C sh_84 hi3 dX8_showsInitials_89 ?_
        refine x_icmp_ne (tgt := 102) C dX8_showsInitials_90 (by decide) (fun hc => ?_) (fun hc => ?_)
        · replace hF := f_f hc hF
          exact x_pick [(0, .ref (G.ad 82)), (1, .int x1), (3, .int x3)] [1, 2, 4] rfl (w_X8_showsInitials_b102 C μ hk4 x1 x3 hF)
        · replace hF := f_t hc hF
          refine x_iload C 0 dX8_showsInitials_93 rfl ?_
          refine x_if_eq (tgt := 102) C dX8_showsInitials_95 (by decide) (fun hc => ?_) (fun hc => ?_)
          · replace hF := f_t hc hF
            exact x_pick [(0, .ref (G.ad 82)), (1, .int x1), (3, .int x3)] [1, 2, 4] rfl (w_X8_showsInitials_b102 C μ hk4 x1 x3 hF)
          · replace hF := f_f hc hF
            refine x_iconst (v := 1) C dX8_showsInitials_98 (by decide) ?_
            refine x_goto (tgt := 103) C dX8_showsInitials_99 (by decide) ?_
            refine x_istore_n C [(2, .int 1), (4, .int t0), (0, .ref (G.ad 82)), (1, .int x1), (3, .int x3)] dX8_showsInitials_103 rfl (by decide) rfl ?_
            refine x_iinc C [(3, .int (x3 + 1)), (2, .int 1), (4, .int t0), (0, .ref (G.ad 82)), (1, .int x1)] 4 dX8_showsInitials_104 rfl rfl (by decide) rfl ?_
            refine x_goto (tgt := 4) C dX8_showsInitials_107 (by decide) ?_
            exact x_pick [(0, .ref (G.ad 82)), (1, .int x1), (2, .int 1), (3, .int (x3 + 1))] [3, 4, 1, 0] rfl (hk4 x1 1 (x3 + 1) hF)
set_option maxHeartbeats 4000000 in
theorem w_X8_showsInitials_L4 {G : Gl} {p : Program} {l : Launch} {e : Env} {s0 : State} {m : MethodId} {args : Array Value} {below : List Frame} {meth : Method} {c : Code} (C : Cx G p s0 m args meth c cX8_showsInitials 5 RX8 (some .boolean)) {r : Int32}  (μ : Mu) : ∀ (n : Nat) (x1 : Int32) (x2 : Int32) (x3 : Int32), f_X8_showsInitials_L4 μ n x1 x2 x3 = some r → X G p l e 1 21 s0 m args below meth c 5 (some (.int r)) μ μ 4 [(0, .ref (G.ad 82)), (1, .int x1), (2, .int x2), (3, .int x3)] [] := by
  intro n
  induction n with
  | zero =>
    intro x1 x2 x3 hF
    rw [f_X8_showsInitials_L4] at hF
    cases hF
  | succ n ih =>
    intro x1 x2 x3 hF
    rw [f_X8_showsInitials_L4] at hF
    refine x_iload_n C 3 dX8_showsInitials_4 rfl rfl ?_
    refine x_aload_n C 0 dX8_showsInitials_5 rfl rfl ?_
    refine x_getI C fc_X8 fl_X8_124 sh_82 (by decide) rfl dX8_showsInitials_6 ?_
    refine x_icmp_ge (tgt := 110) C dX8_showsInitials_9 (by decide) (fun hc => ?_) (fun hc => ?_)
    · replace hF := f_t hc hF
      refine x_iload_n C 2 dX8_showsInitials_110 rfl rfl ?_
      refine x_if_eq (tgt := 128) C dX8_showsInitials_111 (by decide) (fun hc => ?_) (fun hc => ?_)
      · replace hF := f_t hc hF
        refine x_iconst (v := 0) C dX8_showsInitials_128 (by decide) ?_
        exact x_zret C dX8_showsInitials_129 (by decide) (Option.some.inj hF) rfl
      · replace hF := f_f hc hF
        refine x_aload_n C 0 dX8_showsInitials_114 rfl rfl ?_
        refine x_bipush (v := 6) C dX8_showsInitials_115 (by decide) ?_
        obtain ⟨q1, hq1, hF⟩ := f_bind hF
        refine x_cVi (rest := []) C (c_X8_styleOf l C.2.2.2.2.2.2.2.2 6 μ hq1) cw_X8_171 sh_82 rfl rfl ⟨by decide, by decide⟩ rfl rfl (Nat.le_of_ble_eq_true rfl) dX8_showsInitials_117 ?_
        refine x_iconst (v := 1) C dX8_showsInitials_120 (by decide) ?_
        refine x_icmp_ne (tgt := 128) C dX8_showsInitials_121 (by decide) (fun hc => ?_) (fun hc => ?_)
        · replace hF := f_f hc hF
          refine x_iconst (v := 0) C dX8_showsInitials_128 (by decide) ?_
          exact x_zret C dX8_showsInitials_129 (by decide) (Option.some.inj hF) rfl
        · replace hF := f_t hc hF
          refine x_iconst (v := 1) C dX8_showsInitials_124 (by decide) ?_
          refine x_goto (tgt := 129) C dX8_showsInitials_125 (by decide) ?_
          exact x_zret C dX8_showsInitials_129 (by decide) (Option.some.inj hF) rfl
    · replace hF := f_f hc hF
      refine x_aload_n C 0 dX8_showsInitials_12 rfl rfl ?_
      refine x_getR C fc_X8 fl_X8_16 sh_82 (by decide) rfl dX8_showsInitials_13 ?_
      refine x_iconst (v := 4) C dX8_showsInitials_16 (by decide) ?_
      refine x_iload_n C 1 dX8_showsInitials_17 rfl rfl ?_
      refine x_imul C dX8_showsInitials_18 ?_
      obtain ⟨hi2, hF⟩ := f_chk hF
      refine x_iald C sh_85 hi2 dX8_showsInitials_19 ?_
      refine x_aload_n C 0 dX8_showsInitials_20 rfl rfl ?_
      refine x_getR C fc_X8 fl_X8_16 sh_82 (by decide) rfl dX8_showsInitials_21 ?_
      refine x_iconst (v := 4) C dX8_showsInitials_24 (by decide) ?_
      refine x_iload_n C 3 dX8_showsInitials_25 rfl rfl ?_
      refine x_imul C dX8_showsInitials_26 ?_
      obtain ⟨hi3, hF⟩ := f_chk hF
      refine x_iald C sh_85 hi3 dX8_showsInitials_27 ?_
      refine x_icmp_ne (tgt := 50) C dX8_showsInitials_28 (by decide) (fun hc => ?_) (fun hc => ?_)
      · replace hF := f_f hc hF
        refine x_iconst (v := 1) C dX8_showsInitials_50 (by decide) ?_
        refine x_goto (tgt := 55) C dX8_showsInitials_51 (by decide) ?_
        exact x_pick [(0, .ref (G.ad 82)), (1, .int x1), (2, .int x2), (3, .int x3)] [0, 1, 2, 3] rfl (w_X8_showsInitials_b55 C μ ih x1 x2 x3 1 hF)
      · replace hF := f_t hc hF
        refine x_aload_n C 0 dX8_showsInitials_31 rfl rfl ?_
        refine x_getR C fc_X8 fl_X8_19 sh_82 (by decide) rfl dX8_showsInitials_32 ?_
        refine x_iconst (v := 4) C dX8_showsInitials_35 (by decide) ?_
        refine x_iload_n C 1 dX8_showsInitials_36 rfl rfl ?_
        refine x_imul C dX8_showsInitials_37 ?_
        refine x_iald C sh_86 hi2 dX8_showsInitials_38 ?_
        refine x_aload_n C 0 dX8_showsInitials_39 rfl rfl ?_
        refine x_getR C fc_X8 fl_X8_19 sh_82 (by decide) rfl dX8_showsInitials_40 ?_
        refine x_iconst (v := 4) C dX8_showsInitials_43 (by decide) ?_
        refine x_iload_n C 3 dX8_showsInitials_44 rfl rfl ?_
        refine x_imul C dX8_showsInitials_45 ?_
        refine x_iald C sh_86 hi3 dX8_showsInitials_46 ?_
        refine x_icmp_eq (tgt := 54) C dX8_showsInitials_47 (by decide) (fun hc => ?_) (fun hc => ?_)
        · replace hF := f_t hc hF
          refine x_iconst (v := 0) C dX8_showsInitials_54 (by decide) ?_
          exact x_pick [(0, .ref (G.ad 82)), (1, .int x1), (2, .int x2), (3, .int x3)] [0, 1, 2, 3] rfl (w_X8_showsInitials_b55 C μ ih x1 x2 x3 0 hF)
        · replace hF := f_f hc hF
          refine x_iconst (v := 1) C dX8_showsInitials_50 (by decide) ?_
          refine x_goto (tgt := 55) C dX8_showsInitials_51 (by decide) ?_
          exact x_pick [(0, .ref (G.ad 82)), (1, .int x1), (2, .int x2), (3, .int x3)] [0, 1, 2, 3] rfl (w_X8_showsInitials_b55 C μ ih x1 x2 x3 1 hF)
set_option maxHeartbeats 4000000 in
theorem w_X8_showsInitials {G : Gl} {p : Program} {l : Launch} {e : Env} {s0 : State} {m : MethodId} {args : Array Value} {below : List Frame} {meth : Method} {c : Code} (C : Cx G p s0 m args meth c cX8_showsInitials 5 RX8 (some .boolean)) {r : Int32}  (x1 : Int32) (μ : Mu) (hF : f_X8_showsInitials x1 μ = some r) : X G p l e 1 21 s0 m args below meth c 5 (some (.int r)) μ μ 0 [(0, .ref (G.ad 82)), (1, .int x1)] [] := by
  unfold f_X8_showsInitials at hF
  refine x_iconst (v := 0) C dX8_showsInitials_0 (by decide) ?_
  refine x_istore_n C [(2, .int 0), (0, .ref (G.ad 82)), (1, .int x1)] dX8_showsInitials_1 rfl (by decide) rfl ?_
  refine x_iconst (v := 0) C dX8_showsInitials_2 (by decide) ?_
  refine x_istore_n C [(3, .int 0), (2, .int 0), (0, .ref (G.ad 82)), (1, .int x1)] dX8_showsInitials_3 rfl (by decide) rfl ?_
  exact x_pick [(0, .ref (G.ad 82)), (1, .int x1), (2, .int 0), (3, .int 0)] [2, 3, 1, 0] rfl (w_X8_showsInitials_L4 C μ fu x1 0 0 hF)
set_option maxHeartbeats 4000000 in
theorem c_X8_showsInitials {G : Gl} (l : Launch) (hA : Ap G) {r : Int32}  (x1 : Int32) (μ : Mu) (hF : f_X8_showsInitials x1 μ = some r) : Mth G l yX8_showsInitials cX8_showsInitials 5 (some .boolean) 1 21 [.ref (G.ad 82), .int x1] (some (.int r)) μ μ := Mth.of hA (by decide) rfl (Nat.le_of_ble_eq_true rfl) (fun p e s0 m args below meth c C => w_X8_showsInitials C x1 μ hF)
set_option maxHeartbeats 4000000 in
theorem w_X8_isFaceLike_L154 {G : Gl} {p : Program} {l : Launch} {e : Env} {s0 : State} {m : MethodId} {args : Array Value} {below : List Frame} {meth : Method} {c : Code} (C : Cx G p s0 m args meth c cX8_isFaceLike 5 RX8 (some .boolean)) {r : Int32}  (μ : Mu) : ∀ (n : Nat) (x1 : Int32) (x2 : Int32) (x3 : Int32) (x4 : Int32), f_X8_isFaceLike_L154 μ n x1 x2 x3 x4 = some r → X G p l e 0 0 s0 m args below meth c 5 (some (.int r)) μ μ 154 [(0, .ref (G.ad 82)), (1, .int x1), (2, .int x2), (3, .int x3), (4, .int x4)] [] := by
  intro n
  induction n with
  | zero =>
    intro x1 x2 x3 x4 hF
    rw [f_X8_isFaceLike_L154] at hF
    cases hF
  | succ n ih =>
    intro x1 x2 x3 x4 hF
    rw [f_X8_isFaceLike_L154] at hF
    refine x_iload C 4 dX8_isFaceLike_154 rfl ?_
    refine x_aload_n C 0 dX8_isFaceLike_156 rfl rfl ?_
    refine x_getR C fc_X8 fl_X8_81 sh_82 (by decide) rfl dX8_isFaceLike_157 ?_
    refine x_iload_n C 1 dX8_isFaceLike_160 rfl rfl ?_
    obtain ⟨hi1, hF⟩ := f_chk hF
    refine x_iald C sh_105 hi1 dX8_isFaceLike_161 ?_
    refine x_icmp_ge (tgt := 206) C dX8_isFaceLike_162 (by decide) (fun hc => ?_) (fun hc => ?_)
    · replace hF := f_t hc hF
      refine x_iload_n C 3 dX8_isFaceLike_206 rfl rfl ?_
      obtain ⟨hb2, hF⟩ := f_chk hF
      exact x_zret C dX8_isFaceLike_207 hb2 (Option.some.inj hF) rfl
    · replace hF := f_f hc hF
      refine x_iload_n C 3 dX8_isFaceLike_165 rfl rfl ?_
      refine x_if_eq (tgt := 206) C dX8_isFaceLike_166 (by decide) (fun hc => ?_) (fun hc => ?_)
      · replace hF := f_t hc hF
        refine x_iload_n C 3 dX8_isFaceLike_206 rfl rfl ?_
        obtain ⟨hb3, hF⟩ := f_chk hF
        exact x_zret C dX8_isFaceLike_207 hb3 (Option.some.inj hF) rfl
      · replace hF := f_f hc hF
        refine x_aload_n C 0 dX8_isFaceLike_169 rfl rfl ?_
        refine x_getR C fc_X8 fl_X8_13 sh_82 (by decide) rfl dX8_isFaceLike_170 ?_
        refine x_iconst (v := 4) C dX8_isFaceLike_173 (by decide) ?_
        refine x_iload_n C 1 dX8_isFaceLike_174 rfl rfl ?_
        refine x_imul C dX8_isFaceLike_175 ?_
        refine x_iload C 4 dX8_isFaceLike_176 rfl ?_
        refine x_iadd C dX8_isFaceLike_178 ?_
        obtain ⟨hi4, hF⟩ := f_chk hF
        refine x_iald C sh_84 hi4 dX8_isFaceLike_179 ?_
        refine x_aload_n C 0 dX8_isFaceLike_180 rfl rfl ?_
        refine x_getR C fc_X8 fl_X8_13 sh_82 (by decide) rfl dX8_isFaceLike_181 ?_
        refine x_iconst (v := 4) C dX8_isFaceLike_184 (by decide) ?_
        refine x_iload_n C 2 dX8_isFaceLike_185 rfl rfl ?_
        refine x_imul C dX8_isFaceLike_186 ?_
        refine x_iload C 4 dX8_isFaceLike_187 rfl ?_
        refine x_iadd C dX8_isFaceLike_189 ?_
        obtain ⟨hi5, hF⟩ := f_chk hF
        refine x_iald C sh_84 hi5 dX8_isFaceLike_190 ?_
        refine x_icmp_ne (tgt := 198) C dX8_isFaceLike_191 (by decide) (fun hc => ?_) (fun hc => ?_)
        · replace hF := f_f hc hF
          refine x_iconst (v := 0) C dX8_isFaceLike_198 (by decide) ?_
          refine x_istore_n C [(3, .int 0), (0, .ref (G.ad 82)), (1, .int x1), (2, .int x2), (4, .int x4)] dX8_isFaceLike_199 rfl (by decide) rfl ?_
          refine x_iinc C [(4, .int (x4 + 1)), (3, .int 0), (0, .ref (G.ad 82)), (1, .int x1), (2, .int x2)] 4 dX8_isFaceLike_200 rfl rfl (by decide) rfl ?_
          refine x_goto (tgt := 154) C dX8_isFaceLike_203 (by decide) ?_
          exact x_pick [(0, .ref (G.ad 82)), (1, .int x1), (2, .int x2), (3, .int 0), (4, .int (x4 + 1))] [2, 3, 4, 1, 0] rfl (ih x1 x2 0 (x4 + 1) hF)
        · replace hF := f_t hc hF
          refine x_iconst (v := 1) C dX8_isFaceLike_194 (by decide) ?_
          refine x_goto (tgt := 199) C dX8_isFaceLike_195 (by decide) ?_
          refine x_istore_n C [(3, .int 1), (0, .ref (G.ad 82)), (1, .int x1), (2, .int x2), (4, .int x4)] dX8_isFaceLike_199 rfl (by decide) rfl ?_
          refine x_iinc C [(4, .int (x4 + 1)), (3, .int 1), (0, .ref (G.ad 82)), (1, .int x1), (2, .int x2)] 4 dX8_isFaceLike_200 rfl rfl (by decide) rfl ?_
          refine x_goto (tgt := 154) C dX8_isFaceLike_203 (by decide) ?_
          exact x_pick [(0, .ref (G.ad 82)), (1, .int x1), (2, .int x2), (3, .int 1), (4, .int (x4 + 1))] [2, 3, 4, 1, 0] rfl (ih x1 x2 1 (x4 + 1) hF)
set_option maxHeartbeats 4000000 in
theorem w_X8_isFaceLike_b93 {G : Gl} {p : Program} {l : Launch} {e : Env} {s0 : State} {m : MethodId} {args : Array Value} {below : List Frame} {meth : Method} {c : Code} (C : Cx G p s0 m args meth c cX8_isFaceLike 5 RX8 (some .boolean)) {r : Int32}  (μ : Mu) (x1 : Int32) (x2 : Int32) (t0 : Int32) (hF : f_X8_isFaceLike_b93 μ x1 x2 t0 = some r) : X G p l e 0 0 s0 m args below meth c 5 (some (.int r)) μ μ 93 [(0, .ref (G.ad 82)), (1, .int x1), (2, .int x2)] [.int t0] := by
  unfold f_X8_isFaceLike_b93 at hF
  refine x_istore_n C [(3, .int t0), (0, .ref (G.ad 82)), (1, .int x1), (2, .int x2)] dX8_isFaceLike_93 rfl (by decide) rfl ?_
  refine x_iload_n C 0 dX8_isFaceLike_94 rfl rfl ?_
  refine x_if_eq (tgt := 149) C dX8_isFaceLike_95 (by decide) (fun hc => ?_) (fun hc => ?_)
  · replace hF := f_t hc hF
    refine x_iconst (v := 0) C dX8_isFaceLike_149 (by decide) ?_
    refine x_istore_n C [(3, .int 0), (0, .ref (G.ad 82)), (1, .int x1), (2, .int x2)] dX8_isFaceLike_150 rfl (by decide) rfl ?_
    refine x_iconst (v := 0) C dX8_isFaceLike_151 (by decide) ?_
    refine x_istore C [(4, .int 0), (3, .int 0), (0, .ref (G.ad 82)), (1, .int x1), (2, .int x2)] dX8_isFaceLike_152 (by decide) rfl ?_
    exact x_pick [(0, .ref (G.ad 82)), (1, .int x1), (2, .int x2), (3, .int 0), (4, .int 0)] [2, 3, 4, 1, 0] rfl (w_X8_isFaceLike_L154 C μ fu x1 x2 0 0 hF)
  · replace hF := f_f hc hF
    refine x_aload_n C 1 dX8_isFaceLike_98 rfl rfl ?_
    refine x_getR C fc_X8 fl_X8_84 sh_82 (by decide) rfl dX8_isFaceLike_99 ?_
    refine x_iload_n C 2 dX8_isFaceLike_102 rfl rfl ?_
    obtain ⟨hi1, hF⟩ := f_chk hF
    refine x_zald C sh_106 hi1 dX8_isFaceLike_103 ?_
    refine x_if_eq (tgt := 145) C dX8_isFaceLike_104 (by decide) (fun hc => ?_) (fun hc => ?_)
    · replace hF := f_t hc hF
      refine x_iconst (v := 1) C dX8_isFaceLike_145 (by decide) ?_
      refine x_goto (tgt := 150) C dX8_isFaceLike_146 (by decide) ?_
      refine x_istore_n C [(3, .int 1), (0, .ref (G.ad 82)), (1, .int x1), (2, .int x2)] dX8_isFaceLike_150 rfl (by decide) rfl ?_
      refine x_iconst (v := 0) C dX8_isFaceLike_151 (by decide) ?_
      refine x_istore C [(4, .int 0), (3, .int 1), (0, .ref (G.ad 82)), (1, .int x1), (2, .int x2)] dX8_isFaceLike_152 (by decide) rfl ?_
      exact x_pick [(0, .ref (G.ad 82)), (1, .int x1), (2, .int x2), (3, .int 1), (4, .int 0)] [2, 3, 4, 1, 0] rfl (w_X8_isFaceLike_L154 C μ fu x1 x2 1 0 hF)
    · replace hF := f_f hc hF
      refine x_aload_n C 1 dX8_isFaceLike_107 rfl rfl ?_
      refine x_getR C fc_X8 fl_X8_16 sh_82 (by decide) rfl dX8_isFaceLike_108 ?_
      refine x_iconst (v := 4) C dX8_isFaceLike_111 (by decide) ?_
      refine x_iload_n C 2 dX8_isFaceLike_112 rfl rfl ?_
      refine x_imul C dX8_isFaceLike_113 ?_
      obtain ⟨hi2, hF⟩ := f_chk hF
      refine x_iald C sh_85 hi2 dX8_isFaceLike_114 ?_
      refine x_aload_n C 1 dX8_isFaceLike_115 rfl rfl ?_
      refine x_getR C fc_X8 fl_X8_16 sh_82 (by decide) rfl dX8_isFaceLike_116 ?_
      refine x_iconst (v := 4) C dX8_isFaceLike_119 (by decide) ?_
      refine x_iload_n C 3 dX8_isFaceLike_120 rfl rfl ?_
      refine x_imul C dX8_isFaceLike_121 ?_
      obtain ⟨hi3, hF⟩ := f_chk hF
      refine x_iald C sh_85 hi3 dX8_isFaceLike_122 ?_
      refine x_icmp_ne (tgt := 149) C dX8_isFaceLike_123 (by decide) (fun hc => ?_) (fun hc => ?_)
      · replace hF := f_f hc hF
        refine x_iconst (v := 0) C dX8_isFaceLike_149 (by decide) ?_
        refine x_istore_n C [(3, .int 0), (0, .ref (G.ad 82)), (1, .int x1), (2, .int x2)] dX8_isFaceLike_150 rfl (by decide) rfl ?_
        refine x_iconst (v := 0) C dX8_isFaceLike_151 (by decide) ?_
        refine x_istore C [(4, .int 0), (3, .int 0), (0, .ref (G.ad 82)), (1, .int x1), (2, .int x2)] dX8_isFaceLike_152 (by decide) rfl ?_
        exact x_pick [(0, .ref (G.ad 82)), (1, .int x1), (2, .int x2), (3, .int 0), (4, .int 0)] [2, 3, 4, 1, 0] rfl (w_X8_isFaceLike_L154 C μ fu x1 x2 0 0 hF)
      · replace hF := f_t hc hF
        refine x_aload_n C 1 dX8_isFaceLike_126 rfl rfl ?_
        refine x_getR C fc_X8 fl_X8_19 sh_82 (by decide) rfl dX8_isFaceLike_127 ?_
        refine x_iconst (v := 4) C dX8_isFaceLike_130 (by decide) ?_
        refine x_iload_n C 2 dX8_isFaceLike_131 rfl rfl ?_
        refine x_imul C dX8_isFaceLike_132 ?_
        refine x_iald C sh_86 hi2 dX8_isFaceLike_133 ?_
        refine x_aload_n C 1 dX8_isFaceLike_134 rfl rfl ?_
        refine x_getR C fc_X8 fl_X8_19 sh_82 (by decide) rfl dX8_isFaceLike_135 ?_
        refine x_iconst (v := 4) C dX8_isFaceLike_138 (by decide) ?_
        refine x_iload_n C 3 dX8_isFaceLike_139 rfl rfl ?_
        refine x_imul C dX8_isFaceLike_140 ?_
        refine x_iald C sh_86 hi3 dX8_isFaceLike_141 ?_
        refine x_icmp_ne (tgt := 149) C dX8_isFaceLike_142 (by decide) (fun hc => ?_) (fun hc => ?_)
        · replace hF := f_f hc hF
          refine x_iconst (v := 0) C dX8_isFaceLike_149 (by decide) ?_
          refine x_istore_n C [(3, .int 0), (0, .ref (G.ad 82)), (1, .int x1), (2, .int x2)] dX8_isFaceLike_150 rfl (by decide) rfl ?_
          refine x_iconst (v := 0) C dX8_isFaceLike_151 (by decide) ?_
          refine x_istore C [(4, .int 0), (3, .int 0), (0, .ref (G.ad 82)), (1, .int x1), (2, .int x2)] dX8_isFaceLike_152 (by decide) rfl ?_
          exact x_pick [(0, .ref (G.ad 82)), (1, .int x1), (2, .int x2), (3, .int 0), (4, .int 0)] [2, 3, 4, 1, 0] rfl (w_X8_isFaceLike_L154 C μ fu x1 x2 0 0 hF)
        · replace hF := f_t hc hF
          refine x_iconst (v := 1) C dX8_isFaceLike_145 (by decide) ?_
          refine x_goto (tgt := 150) C dX8_isFaceLike_146 (by decide) ?_
          refine x_istore_n C [(3, .int 1), (0, .ref (G.ad 82)), (1, .int x1), (2, .int x2)] dX8_isFaceLike_150 rfl (by decide) rfl ?_
          refine x_iconst (v := 0) C dX8_isFaceLike_151 (by decide) ?_
          refine x_istore C [(4, .int 0), (3, .int 1), (0, .ref (G.ad 82)), (1, .int x1), (2, .int x2)] dX8_isFaceLike_152 (by decide) rfl ?_
          exact x_pick [(0, .ref (G.ad 82)), (1, .int x1), (2, .int x2), (3, .int 1), (4, .int 0)] [2, 3, 4, 1, 0] rfl (w_X8_isFaceLike_L154 C μ fu x1 x2 1 0 hF)
set_option maxHeartbeats 4000000 in
theorem w_X8_isFaceLike_b65 {G : Gl} {p : Program} {l : Launch} {e : Env} {s0 : State} {m : MethodId} {args : Array Value} {below : List Frame} {meth : Method} {c : Code} (C : Cx G p s0 m args meth c cX8_isFaceLike 5 RX8 (some .boolean)) {r : Int32}  (μ : Mu) (x1 : Int32) (x2 : Int32) (t0 : Int32) (hF : f_X8_isFaceLike_b65 μ x1 x2 t0 = some r) : X G p l e 0 0 s0 m args below meth c 5 (some (.int r)) μ μ 65 [(0, .ref (G.ad 82)), (1, .int x1), (2, .int x2)] [.int t0] := by
  unfold f_X8_isFaceLike_b65 at hF
  refine x_aload_n C 0 dX8_isFaceLike_65 rfl rfl ?_
  refine x_getR C fc_X8 fl_X8_7 sh_82 (by decide) rfl dX8_isFaceLike_66 ?_
  refine x_iload_n C 2 dX8_isFaceLike_69 rfl rfl ?_
  obtain ⟨hi1, hF⟩ := f_chk hF
  refine x_iald C sh_83 hi1 dX8_isFaceLike_70 ?_
  refine x_aload_n C 0 dX8_isFaceLike_71 rfl rfl ?_
  refine x_getR C fc_X8 fl_X8_81 sh_82 (by decide) rfl dX8_isFaceLike_72 ?_
  refine x_iload_n C 2 dX8_isFaceLike_75 rfl rfl ?_
  refine x_iald C sh_105 hi1 dX8_isFaceLike_76 ?_
  refine x_icmp_le (tgt := 84) C dX8_isFaceLike_77 (by decide) (fun hc => ?_) (fun hc => ?_)
  · replace hF := f_t hc hF
    refine x_iconst (v := 0) C dX8_isFaceLike_84 (by decide) ?_
    refine x_icmp_ne (tgt := 92) C dX8_isFaceLike_85 (by decide) (fun hc => ?_) (fun hc => ?_)
    · replace hF := f_f hc hF
      refine x_iconst (v := 0) C dX8_isFaceLike_92 (by decide) ?_
      exact x_pick [(0, .ref (G.ad 82)), (1, .int x1), (2, .int x2)] [0, 1, 2] rfl (w_X8_isFaceLike_b93 C μ x1 x2 0 hF)
    · replace hF := f_t hc hF
      refine x_iconst (v := 1) C dX8_isFaceLike_88 (by decide) ?_
      refine x_goto (tgt := 93) C dX8_isFaceLike_89 (by decide) ?_
      exact x_pick [(0, .ref (G.ad 82)), (1, .int x1), (2, .int x2)] [0, 1, 2] rfl (w_X8_isFaceLike_b93 C μ x1 x2 1 hF)
  · replace hF := f_f hc hF
    refine x_iconst (v := 1) C dX8_isFaceLike_80 (by decide) ?_
    refine x_goto (tgt := 85) C dX8_isFaceLike_81 (by decide) ?_
    refine x_icmp_ne (tgt := 92) C dX8_isFaceLike_85 (by decide) (fun hc => ?_) (fun hc => ?_)
    · replace hF := f_f hc hF
      refine x_iconst (v := 0) C dX8_isFaceLike_92 (by decide) ?_
      exact x_pick [(0, .ref (G.ad 82)), (1, .int x1), (2, .int x2)] [0, 1, 2] rfl (w_X8_isFaceLike_b93 C μ x1 x2 0 hF)
    · replace hF := f_t hc hF
      refine x_iconst (v := 1) C dX8_isFaceLike_88 (by decide) ?_
      refine x_goto (tgt := 93) C dX8_isFaceLike_89 (by decide) ?_
      exact x_pick [(0, .ref (G.ad 82)), (1, .int x1), (2, .int x2)] [0, 1, 2] rfl (w_X8_isFaceLike_b93 C μ x1 x2 1 hF)
set_option maxHeartbeats 4000000 in
theorem w_X8_isFaceLike {G : Gl} {p : Program} {l : Launch} {e : Env} {s0 : State} {m : MethodId} {args : Array Value} {below : List Frame} {meth : Method} {c : Code} (C : Cx G p s0 m args meth c cX8_isFaceLike 5 RX8 (some .boolean)) {r : Int32}  (x1 : Int32) (x2 : Int32) (μ : Mu) (hF : f_X8_isFaceLike x1 x2 μ = some r) : X G p l e 0 0 s0 m args below meth c 5 (some (.int r)) μ μ 0 [(0, .ref (G.ad 82)), (1, .int x1), (2, .int x2)] [] := by
  unfold f_X8_isFaceLike at hF
  refine x_aload_n C 0 dX8_isFaceLike_0 rfl rfl ?_
  refine x_getR C fc_X8 fl_X8_22 sh_82 (by decide) rfl dX8_isFaceLike_1 ?_
  refine x_iload_n C 1 dX8_isFaceLike_4 rfl rfl ?_
  obtain ⟨hi1, hF⟩ := f_chk hF
  refine x_iald C sh_87 hi1 dX8_isFaceLike_5 ?_
  refine x_aload_n C 0 dX8_isFaceLike_6 rfl rfl ?_
  refine x_getR C fc_X8 fl_X8_22 sh_82 (by decide) rfl dX8_isFaceLike_7 ?_
  refine x_iload_n C 2 dX8_isFaceLike_10 rfl rfl ?_
  obtain ⟨hi2, hF⟩ := f_chk hF
  refine x_iald C sh_87 hi2 dX8_isFaceLike_11 ?_
  refine x_icmp_ne (tgt := 92) C dX8_isFaceLike_12 (by decide) (fun hc => ?_) (fun hc => ?_)
  · replace hF := f_f hc hF
    refine x_iconst (v := 0) C dX8_isFaceLike_92 (by decide) ?_
    exact x_pick [(0, .ref (G.ad 82)), (1, .int x1), (2, .int x2)] [0, 1, 2] rfl (w_X8_isFaceLike_b93 C μ x1 x2 0 hF)
  · replace hF := f_t hc hF
    refine x_aload_n C 0 dX8_isFaceLike_15 rfl rfl ?_
    refine x_getR C fc_X8 fl_X8_81 sh_82 (by decide) rfl dX8_isFaceLike_16 ?_
    refine x_iload_n C 1 dX8_isFaceLike_19 rfl rfl ?_
    refine x_iald C sh_105 hi1 dX8_isFaceLike_20 ?_
    refine x_aload_n C 0 dX8_isFaceLike_21 rfl rfl ?_
    refine x_getR C fc_X8 fl_X8_81 sh_82 (by decide) rfl dX8_isFaceLike_22 ?_
    refine x_iload_n C 2 dX8_isFaceLike_25 rfl rfl ?_
    refine x_iald C sh_105 hi2 dX8_isFaceLike_26 ?_
    refine x_icmp_ne (tgt := 92) C dX8_isFaceLike_27 (by decide) (fun hc => ?_) (fun hc => ?_)
    · replace hF := f_f hc hF
      refine x_iconst (v := 0) C dX8_isFaceLike_92 (by decide) ?_
      exact x_pick [(0, .ref (G.ad 82)), (1, .int x1), (2, .int x2)] [0, 1, 2] rfl (w_X8_isFaceLike_b93 C μ x1 x2 0 hF)
    · replace hF := f_t hc hF
      refine x_aload_n C 0 dX8_isFaceLike_30 rfl rfl ?_
      refine x_getR C fc_X8 fl_X8_84 sh_82 (by decide) rfl dX8_isFaceLike_31 ?_
      refine x_iload_n C 1 dX8_isFaceLike_34 rfl rfl ?_
      refine x_zald C sh_106 hi1 dX8_isFaceLike_35 ?_
      refine x_aload_n C 0 dX8_isFaceLike_36 rfl rfl ?_
      refine x_getR C fc_X8 fl_X8_84 sh_82 (by decide) rfl dX8_isFaceLike_37 ?_
      refine x_iload_n C 2 dX8_isFaceLike_40 rfl rfl ?_
      refine x_zald C sh_106 hi2 dX8_isFaceLike_41 ?_
      refine x_icmp_ne (tgt := 92) C dX8_isFaceLike_42 (by decide) (fun hc => ?_) (fun hc => ?_)
      · replace hF := f_f hc hF
        refine x_iconst (v := 0) C dX8_isFaceLike_92 (by decide) ?_
        exact x_pick [(0, .ref (G.ad 82)), (1, .int x1), (2, .int x2)] [0, 1, 2] rfl (w_X8_isFaceLike_b93 C μ x1 x2 0 hF)
      · replace hF := f_t hc hF
        refine x_aload_n C 0 dX8_isFaceLike_45 rfl rfl ?_
        refine x_getR C fc_X8 fl_X8_7 sh_82 (by decide) rfl dX8_isFaceLike_46 ?_
        refine x_iload_n C 1 dX8_isFaceLike_49 rfl rfl ?_
        refine x_iald C sh_83 hi1 dX8_isFaceLike_50 ?_
        refine x_aload_n C 0 dX8_isFaceLike_51 rfl rfl ?_
        refine x_getR C fc_X8 fl_X8_81 sh_82 (by decide) rfl dX8_isFaceLike_52 ?_
        refine x_iload_n C 1 dX8_isFaceLike_55 rfl rfl ?_
        refine x_iald C sh_105 hi1 dX8_isFaceLike_56 ?_
        refine x_icmp_le (tgt := 64) C dX8_isFaceLike_57 (by decide) (fun hc => ?_) (fun hc => ?_)
        · replace hF := f_t hc hF
          refine x_iconst (v := 0) C dX8_isFaceLike_64 (by decide) ?_
          exact x_pick [(0, .ref (G.ad 82)), (1, .int x1), (2, .int x2)] [0, 1, 2] rfl (w_X8_isFaceLike_b65 C μ x1 x2 0 hF)
        · replace hF := f_f hc hF
          refine x_iconst (v := 1) C dX8_isFaceLike_60 (by decide) ?_
          refine x_goto (tgt := 65) C dX8_isFaceLike_61 (by decide) ?_
          exact x_pick [(0, .ref (G.ad 82)), (1, .int x1), (2, .int x2)] [0, 1, 2] rfl (w_X8_isFaceLike_b65 C μ x1 x2 1 hF)
set_option maxHeartbeats 4000000 in
theorem c_X8_isFaceLike {G : Gl} (l : Launch) (hA : Ap G) {r : Int32}  (x1 : Int32) (x2 : Int32) (μ : Mu) (hF : f_X8_isFaceLike x1 x2 μ = some r) : Mth G l yX8_isFaceLike cX8_isFaceLike 5 (some .boolean) 0 0 [.ref (G.ad 82), .int x1, .int x2] (some (.int r)) μ μ := Mth.of hA (by decide) rfl (Nat.le_of_ble_eq_true rfl) (fun p e s0 m args below meth c C => w_X8_isFaceLike C x1 x2 μ hF)
set_option maxHeartbeats 4000000 in
theorem w_X8_one {G : Gl} {p : Program} {l : Launch} {e : Env} {s0 : State} {m : MethodId} {args : Array Value} {below : List Frame} {meth : Method} {c : Code} (C : Cx G p s0 m args meth c cX8_one 1 RX8 (some .int)) {r : Int32}  (x0 : Int32) (μ : Mu) (hF : f_X8_one x0 = r) : X G p l e 0 0 s0 m args below meth c 1 (some (.int r)) μ μ 0 [(0, .int x0)] [] := by
  unfold f_X8_one at hF
  refine x_iload_n C 0 dX8_one_0 rfl rfl ?_
  refine x_if_eq (tgt := 8) C dX8_one_1 (by decide) (fun hc => ?_) (fun hc => ?_)
  · replace hF := f_t hc hF
    refine x_iconst (v := 0) C dX8_one_8 (by decide) ?_
    exact x_iret C dX8_one_9 hF rfl
  · replace hF := f_f hc hF
    refine x_iconst (v := 1) C dX8_one_4 (by decide) ?_
    refine x_goto (tgt := 9) C dX8_one_5 (by decide) ?_
    exact x_iret C dX8_one_9 hF rfl
set_option maxHeartbeats 4000000 in
theorem c_X8_one {G : Gl} (l : Launch) (hA : Ap G) (x0 : Int32) (μ : Mu) : Mth G l yX8_one cX8_one 1 (some .int) 0 0 [.int x0] (some (.int (f_X8_one x0))) μ μ := Mth.of hA (by decide) rfl (Nat.le_of_ble_eq_true rfl) (fun p e s0 m args below meth c C => w_X8_one C x0 μ rfl)
set_option maxHeartbeats 4000000 in
theorem w_X8_findShown_b59 {G : Gl} {p : Program} {l : Launch} {e : Env} {s0 : State} {m : MethodId} {args : Array Value} {below : List Frame} {meth : Method} {c : Code} (C : Cx G p s0 m args meth c cX8_findShown 5 RX8 none) {μf : Mu}  {k2 : Int32 → Mu → Option (Mu)} (hk2 : ∀ (x1 : Int32) (μ : Mu), k2 x1 μ = some μf → X G p l e 3 72 s0 m args below meth c 5 none μf μ 2 [(0, .ref (G.ad 82)), (1, .int x1)] []) (x1 : Int32) (t1 : Int32) (t2 : Int32) (μ : Mu) (hF : f_X8_findShown_b59 k2 x1 t1 t2 μ = some μf) : X G p l e 3 72 s0 m args below meth c 5 none μf μ 59 [(0, .ref (G.ad 82)), (1, .int x1)] [.int t2, .int t1, .ref (G.ad 106)] := by
  unfold f_X8_findShown_b59 at hF
  obtain ⟨hi1, hF⟩ := f_chk hF
  obtain ⟨hb2, hF⟩ := f_chk hF
  refine x_zast C sh_106 hi1 hb2 dX8_findShown_59 ?_
  refine x_letM hF (fun μ3 hF => ?_)
  refine x_aload_n C 0 dX8_findShown_60 rfl rfl ?_
  refine x_getR C fc_X8 fl_X8_87 sh_82 (by decide) rfl dX8_findShown_61 ?_
  refine x_iload_n C 1 dX8_findShown_64 rfl rfl ?_
  refine x_iconst (v := 0) C dX8_findShown_65 (by decide) ?_
  obtain ⟨hi4, hF⟩ := f_chk hF
  refine x_iast C sh_107 hi4 dX8_findShown_66 ?_
  refine x_letM hF (fun μ5 hF => ?_)
  refine x_aload_n C 0 dX8_findShown_67 rfl rfl ?_
  refine x_getR C fc_X8 fl_X8_90 sh_82 (by decide) rfl dX8_findShown_68 ?_
  refine x_iload_n C 1 dX8_findShown_71 rfl rfl ?_
  refine x_iconst (v := 0) C dX8_findShown_72 (by decide) ?_
  refine x_zast C sh_108 hi4 (by decide) dX8_findShown_73 ?_
  refine x_letM hF (fun μ6 hF => ?_)
  refine x_iinc C [(1, .int (x1 + 1)), (0, .ref (G.ad 82))] 1 dX8_findShown_74 rfl rfl (by decide) rfl ?_
  refine x_goto (tgt := 2) C dX8_findShown_77 (by decide) ?_
  exact x_pick [(0, .ref (G.ad 82)), (1, .int (x1 + 1))] [1, 0] rfl (hk2 (x1 + 1) μ6 hF)
set_option maxHeartbeats 4000000 in
theorem w_X8_findShown_b32 {G : Gl} {p : Program} {l : Launch} {e : Env} {s0 : State} {m : MethodId} {args : Array Value} {below : List Frame} {meth : Method} {c : Code} (C : Cx G p s0 m args meth c cX8_findShown 5 RX8 none) {μf : Mu}  {k2 : Int32 → Mu → Option (Mu)} (hk2 : ∀ (x1 : Int32) (μ : Mu), k2 x1 μ = some μf → X G p l e 3 72 s0 m args below meth c 5 none μf μ 2 [(0, .ref (G.ad 82)), (1, .int x1)] []) (x1 : Int32) (t1 : Int32) (t2 : Int32) (μ : Mu) (hF : f_X8_findShown_b32 k2 x1 t1 t2 μ = some μf) : X G p l e 3 72 s0 m args below meth c 5 none μf μ 32 [(0, .ref (G.ad 82)), (1, .int x1)] [.int t2, .int t1, .ref (G.ad 105)] := by
  unfold f_X8_findShown_b32 at hF
  obtain ⟨hi1, hF⟩ := f_chk hF
  refine x_iast C sh_105 hi1 dX8_findShown_32 ?_
  refine x_letM hF (fun μ2 hF => ?_)
  refine x_aload_n C 0 dX8_findShown_33 rfl rfl ?_
  refine x_getR C fc_X8 fl_X8_84 sh_82 (by decide) rfl dX8_findShown_34 ?_
  refine x_iload_n C 1 dX8_findShown_37 rfl rfl ?_
  refine x_aload_n C 0 dX8_findShown_38 rfl rfl ?_
  refine x_iload_n C 1 dX8_findShown_39 rfl rfl ?_
  obtain ⟨q3, hq3, hF⟩ := f_bind hF
  refine x_cVi (rest := [.int x1, .ref (G.ad 106)]) C (c_X8_isCited l C.2.2.2.2.2.2.2.2 x1 μ2 hq3) cw_X8_180 sh_82 rfl rfl ⟨by decide, by decide⟩ rfl rfl (Nat.le_of_ble_eq_true rfl) dX8_findShown_40 ?_
  refine x_if_eq (tgt := 58) C dX8_findShown_43 (by decide) (fun hc => ?_) (fun hc => ?_)
  · replace hF := f_t hc hF
    refine x_iconst (v := 0) C dX8_findShown_58 (by decide) ?_
    exact x_pick [(0, .ref (G.ad 82)), (1, .int x1)] [0, 1] rfl (w_X8_findShown_b59 C hk2 x1 x1 0 μ2 hF)
  · replace hF := f_f hc hF
    refine x_aload_n C 0 dX8_findShown_46 rfl rfl ?_
    refine x_iload_n C 1 dX8_findShown_47 rfl rfl ?_
    obtain ⟨q4, hq4, hF⟩ := f_bind hF
    refine x_cVi (rest := [.int x1, .ref (G.ad 106)]) C (c_X8_showsInitials l C.2.2.2.2.2.2.2.2 x1 μ2 hq4) cw_X8_199 sh_82 rfl rfl ⟨by decide, by decide⟩ rfl rfl (Nat.le_of_ble_eq_true rfl) dX8_findShown_48 ?_
    refine x_if_eq (tgt := 58) C dX8_findShown_51 (by decide) (fun hc => ?_) (fun hc => ?_)
    · replace hF := f_t hc hF
      refine x_iconst (v := 0) C dX8_findShown_58 (by decide) ?_
      exact x_pick [(0, .ref (G.ad 82)), (1, .int x1)] [0, 1] rfl (w_X8_findShown_b59 C hk2 x1 x1 0 μ2 hF)
    · replace hF := f_f hc hF
      refine x_iconst (v := 1) C dX8_findShown_54 (by decide) ?_
      refine x_goto (tgt := 59) C dX8_findShown_55 (by decide) ?_
      exact x_pick [(0, .ref (G.ad 82)), (1, .int x1)] [0, 1] rfl (w_X8_findShown_b59 C hk2 x1 x1 1 μ2 hF)
set_option maxHeartbeats 4000000 in
theorem w_X8_findShown_b167 {G : Gl} {p : Program} {l : Launch} {e : Env} {s0 : State} {m : MethodId} {args : Array Value} {below : List Frame} {meth : Method} {c : Code} (C : Cx G p s0 m args meth c cX8_findShown 5 RX8 none) {μf : Mu}  {k82 : Int32 → Mu → Option (Mu)} (hk82 : ∀ (x1 : Int32) (μ : Mu), k82 x1 μ = some μf → X G p l e 3 72 s0 m args below meth c 5 none μf μ 82 [(0, .ref (G.ad 82)), (1, .int x1)] []) {k94 : Int32 → Int32 → Int32 → Mu → Option (Mu)} (hk94 : ∀ (x1 : Int32) (x2 : Int32) (x3 : Int32) (μ : Mu), k94 x1 x2 x3 μ = some μf → X G p l e 3 72 s0 m args below meth c 5 none μf μ 94 [(0, .ref (G.ad 82)), (1, .int x1), (2, .int x2), (3, .int x3)] []) (x1 : Int32) (x2 : Int32) (x3 : Int32) (x4 : Int32) (t1 : Int32) (t2 : Int32) (μ : Mu) (hF : f_X8_findShown_b167 k82 k94 x1 x2 x3 x4 t1 t2 μ = some μf) : X G p l e 3 72 s0 m args below meth c 5 none μf μ 167 [(0, .ref (G.ad 82)), (1, .int x1), (2, .int x2), (3, .int x3), (4, .int x4)] [.int t2, .int t1, .ref (G.ad 108)] := by
  unfold f_X8_findShown_b167 at hF
  obtain ⟨hi1, hF⟩ := f_chk hF
  obtain ⟨hb2, hF⟩ := f_chk hF
  refine x_zast C sh_108 hi1 hb2 dX8_findShown_167 ?_
  refine x_letM hF (fun μ3 hF => ?_)
  refine x_iload_n C 2 dX8_findShown_168 rfl rfl ?_
  refine x_iload C 4 dX8_findShown_169 rfl ?_
  refine x_if_eq (tgt := 183) C dX8_findShown_171 (by decide) (fun hc => ?_) (fun hc => ?_)
  · replace hF := f_t hc hF
    refine x_iconst (v := 0) C dX8_findShown_183 (by decide) ?_
    refine x_cSi (rest := [.int x2]) C (c_X8_one l C.2.2.2.2.2.2.2.2 0 μ3) cw_X8_205 ⟨by decide, by decide⟩ rfl rfl (Nat.le_of_ble_eq_true rfl) dX8_findShown_184 ?_
    refine x_iadd C dX8_findShown_187 ?_
    refine x_letI hF (fun y4 hF => ?_)
    refine x_istore_n C [(2, .int y4), (0, .ref (G.ad 82)), (1, .int x1), (3, .int x3), (4, .int x4)] dX8_findShown_188 rfl (by decide) rfl ?_
    refine x_iinc C [(3, .int (x3 + 1)), (2, .int y4), (0, .ref (G.ad 82)), (1, .int x1), (4, .int x4)] 3 dX8_findShown_189 rfl rfl (by decide) rfl ?_
    refine x_goto (tgt := 94) C dX8_findShown_192 (by decide) ?_
    exact x_pick [(0, .ref (G.ad 82)), (1, .int x1), (2, .int y4), (3, .int (x3 + 1))] [2, 3, 1, 0] rfl (hk94 x1 y4 (x3 + 1) μ3 hF)
  · replace hF := f_f hc hF
    refine x_iload_n C 3 dX8_findShown_174 rfl rfl ?_
    refine x_iload_n C 1 dX8_findShown_175 rfl rfl ?_
    refine x_icmp_ge (tgt := 183) C dX8_findShown_176 (by decide) (fun hc => ?_) (fun hc => ?_)
    · replace hF := f_t hc hF
      refine x_iconst (v := 0) C dX8_findShown_183 (by decide) ?_
      refine x_cSi (rest := [.int x2]) C (c_X8_one l C.2.2.2.2.2.2.2.2 0 μ3) cw_X8_205 ⟨by decide, by decide⟩ rfl rfl (Nat.le_of_ble_eq_true rfl) dX8_findShown_184 ?_
      refine x_iadd C dX8_findShown_187 ?_
      refine x_letI hF (fun y5 hF => ?_)
      refine x_istore_n C [(2, .int y5), (0, .ref (G.ad 82)), (1, .int x1), (3, .int x3), (4, .int x4)] dX8_findShown_188 rfl (by decide) rfl ?_
      refine x_iinc C [(3, .int (x3 + 1)), (2, .int y5), (0, .ref (G.ad 82)), (1, .int x1), (4, .int x4)] 3 dX8_findShown_189 rfl rfl (by decide) rfl ?_
      refine x_goto (tgt := 94) C dX8_findShown_192 (by decide) ?_
      exact x_pick [(0, .ref (G.ad 82)), (1, .int x1), (2, .int y5), (3, .int (x3 + 1))] [2, 3, 1, 0] rfl (hk94 x1 y5 (x3 + 1) μ3 hF)
    · replace hF := f_f hc hF
      refine x_iconst (v := 1) C dX8_findShown_179 (by decide) ?_
      refine x_goto (tgt := 184) C dX8_findShown_180 (by decide) ?_
      refine x_cSi (rest := [.int x2]) C (c_X8_one l C.2.2.2.2.2.2.2.2 1 μ3) cw_X8_205 ⟨by decide, by decide⟩ rfl rfl (Nat.le_of_ble_eq_true rfl) dX8_findShown_184 ?_
      refine x_iadd C dX8_findShown_187 ?_
      refine x_letI hF (fun y6 hF => ?_)
      refine x_istore_n C [(2, .int y6), (0, .ref (G.ad 82)), (1, .int x1), (3, .int x3), (4, .int x4)] dX8_findShown_188 rfl (by decide) rfl ?_
      refine x_iinc C [(3, .int (x3 + 1)), (2, .int y6), (0, .ref (G.ad 82)), (1, .int x1), (4, .int x4)] 3 dX8_findShown_189 rfl rfl (by decide) rfl ?_
      refine x_goto (tgt := 94) C dX8_findShown_192 (by decide) ?_
      exact x_pick [(0, .ref (G.ad 82)), (1, .int x1), (2, .int y6), (3, .int (x3 + 1))] [2, 3, 1, 0] rfl (hk94 x1 y6 (x3 + 1) μ3 hF)
set_option maxHeartbeats 4000000 in
theorem w_X8_findShown_b131 {G : Gl} {p : Program} {l : Launch} {e : Env} {s0 : State} {m : MethodId} {args : Array Value} {below : List Frame} {meth : Method} {c : Code} (C : Cx G p s0 m args meth c cX8_findShown 5 RX8 none) {μf : Mu}  {k82 : Int32 → Mu → Option (Mu)} (hk82 : ∀ (x1 : Int32) (μ : Mu), k82 x1 μ = some μf → X G p l e 3 72 s0 m args below meth c 5 none μf μ 82 [(0, .ref (G.ad 82)), (1, .int x1)] []) {k94 : Int32 → Int32 → Int32 → Mu → Option (Mu)} (hk94 : ∀ (x1 : Int32) (x2 : Int32) (x3 : Int32) (μ : Mu), k94 x1 x2 x3 μ = some μf → X G p l e 3 72 s0 m args below meth c 5 none μf μ 94 [(0, .ref (G.ad 82)), (1, .int x1), (2, .int x2), (3, .int x3)] []) (x1 : Int32) (x2 : Int32) (x3 : Int32) (t0 : Int32) (μ : Mu) (hF : f_X8_findShown_b131 k82 k94 x1 x2 x3 t0 μ = some μf) : X G p l e 3 72 s0 m args below meth c 5 none μf μ 131 [(0, .ref (G.ad 82)), (1, .int x1), (2, .int x2), (3, .int x3)] [.int t0] := by
  unfold f_X8_findShown_b131 at hF
  refine x_istore C [(4, .int t0), (0, .ref (G.ad 82)), (1, .int x1), (2, .int x2), (3, .int x3)] dX8_findShown_131 (by decide) rfl ?_
  refine x_aload_n C 1 dX8_findShown_133 rfl rfl ?_
  refine x_getR C fc_X8 fl_X8_90 sh_82 (by decide) rfl dX8_findShown_134 ?_
  refine x_aload_n C 1 dX8_findShown_137 rfl rfl ?_
  refine x_getR C fc_X8 fl_X8_75 sh_82 (by decide) rfl dX8_findShown_138 ?_
  refine x_iload_n C 2 dX8_findShown_141 rfl rfl ?_
  obtain ⟨hi1, hF⟩ := f_chk hF
  refine x_iald C sh_103 hi1 dX8_findShown_142 ?_
  refine x_aload_n C 1 dX8_findShown_143 rfl rfl ?_
  refine x_getR C fc_X8 fl_X8_90 sh_82 (by decide) rfl dX8_findShown_144 ?_
  refine x_aload_n C 1 dX8_findShown_147 rfl rfl ?_
  refine x_getR C fc_X8 fl_X8_75 sh_82 (by decide) rfl dX8_findShown_148 ?_
  refine x_iload_n C 2 dX8_findShown_151 rfl rfl ?_
  refine x_iald C sh_103 hi1 dX8_findShown_152 ?_
  obtain ⟨hi2, hF⟩ := f_chk hF
  refine x_zald C sh_108 hi2 dX8_findShown_153 ?_
  refine x_if_ne (tgt := 162) C dX8_findShown_154 (by decide) (fun hc => ?_) (fun hc => ?_)
  · replace hF := f_f hc hF
    refine x_iconst (v := 1) C dX8_findShown_162 (by decide) ?_
    refine x_goto (tgt := 167) C dX8_findShown_163 (by decide) ?_
    exact x_pick [(0, .ref (G.ad 82)), (1, .int x1), (2, .int x2), (3, .int x3), (4, .int t0)] [1, 2, 3, 4, 0] rfl (w_X8_findShown_b167 C hk82 hk94 x1 x2 x3 t0 (μ 103 (ix x1)) 1 μ hF)
  · replace hF := f_t hc hF
    refine x_iload C 0 dX8_findShown_157 rfl ?_
    refine x_if_eq (tgt := 166) C dX8_findShown_159 (by decide) (fun hc => ?_) (fun hc => ?_)
    · replace hF := f_t hc hF
      refine x_iconst (v := 0) C dX8_findShown_166 (by decide) ?_
      exact x_pick [(0, .ref (G.ad 82)), (1, .int x1), (2, .int x2), (3, .int x3), (4, .int t0)] [1, 2, 3, 4, 0] rfl (w_X8_findShown_b167 C hk82 hk94 x1 x2 x3 t0 (μ 103 (ix x1)) 0 μ hF)
    · replace hF := f_f hc hF
      refine x_iconst (v := 1) C dX8_findShown_162 (by decide) ?_
      refine x_goto (tgt := 167) C dX8_findShown_163 (by decide) ?_
      exact x_pick [(0, .ref (G.ad 82)), (1, .int x1), (2, .int x2), (3, .int x3), (4, .int t0)] [1, 2, 3, 4, 0] rfl (w_X8_findShown_b167 C hk82 hk94 x1 x2 x3 t0 (μ 103 (ix x1)) 1 μ hF)
set_option maxHeartbeats 4000000 in
theorem w_X8_findShown_L94 {G : Gl} {p : Program} {l : Launch} {e : Env} {s0 : State} {m : MethodId} {args : Array Value} {below : List Frame} {meth : Method} {c : Code} (C : Cx G p s0 m args meth c cX8_findShown 5 RX8 none) {μf : Mu}  {k82 : Int32 → Mu → Option (Mu)} (hk82 : ∀ (x1 : Int32) (μ : Mu), k82 x1 μ = some μf → X G p l e 3 72 s0 m args below meth c 5 none μf μ 82 [(0, .ref (G.ad 82)), (1, .int x1)] []) : ∀ (n : Nat) (x1 : Int32) (x2 : Int32) (x3 : Int32) (μ : Mu), f_X8_findShown_L94 k82 n x1 x2 x3 μ = some μf → X G p l e 3 72 s0 m args below meth c 5 none μf μ 94 [(0, .ref (G.ad 82)), (1, .int x1), (2, .int x2), (3, .int x3)] [] := by
  intro n
  induction n with
  | zero =>
    intro x1 x2 x3 μ hF
    rw [f_X8_findShown_L94] at hF
    cases hF
  | succ n ih =>
    intro x1 x2 x3 μ hF
    rw [f_X8_findShown_L94] at hF
    refine x_iload_n C 3 dX8_findShown_94 rfl rfl ?_
    refine x_aload_n C 0 dX8_findShown_95 rfl rfl ?_
    refine x_getI C fc_X8 fl_X8_177 sh_82 (by decide) rfl dX8_findShown_96 ?_
    refine x_icmp_ge (tgt := 195) C dX8_findShown_99 (by decide) (fun hc => ?_) (fun hc => ?_)
    · replace hF := f_t hc hF
      refine x_aload_n C 0 dX8_findShown_195 rfl rfl ?_
      refine x_getR C fc_X8 fl_X8_87 sh_82 (by decide) rfl dX8_findShown_196 ?_
      refine x_aload_n C 0 dX8_findShown_199 rfl rfl ?_
      refine x_getR C fc_X8 fl_X8_75 sh_82 (by decide) rfl dX8_findShown_200 ?_
      refine x_iload_n C 1 dX8_findShown_203 rfl rfl ?_
      obtain ⟨hi1, hF⟩ := f_chk hF
      refine x_iald C sh_103 hi1 dX8_findShown_204 ?_
      refine x_aload_n C 0 dX8_findShown_205 rfl rfl ?_
      refine x_getR C fc_X8 fl_X8_90 sh_82 (by decide) rfl dX8_findShown_206 ?_
      refine x_aload_n C 0 dX8_findShown_209 rfl rfl ?_
      refine x_getR C fc_X8 fl_X8_75 sh_82 (by decide) rfl dX8_findShown_210 ?_
      refine x_iload_n C 1 dX8_findShown_213 rfl rfl ?_
      refine x_iald C sh_103 hi1 dX8_findShown_214 ?_
      obtain ⟨hi2, hF⟩ := f_chk hF
      refine x_zald C sh_108 hi2 dX8_findShown_215 ?_
      refine x_if_eq (tgt := 235) C dX8_findShown_216 (by decide) (fun hc => ?_) (fun hc => ?_)
      · replace hF := f_t hc hF
        refine x_iconst (v := 0) C dX8_findShown_235 (by decide) ?_
        refine x_iast C sh_107 hi2 dX8_findShown_236 ?_
        refine x_letM hF (fun μ3 hF => ?_)
        refine x_iinc C [(1, .int (x1 + 1)), (0, .ref (G.ad 82)), (2, .int x2), (3, .int x3)] 1 dX8_findShown_237 rfl rfl (by decide) rfl ?_
        refine x_goto (tgt := 82) C dX8_findShown_240 (by decide) ?_
        exact x_pick [(0, .ref (G.ad 82)), (1, .int (x1 + 1))] [1, 0] rfl (hk82 (x1 + 1) μ3 hF)
      · replace hF := f_f hc hF
        refine x_aload_n C 0 dX8_findShown_219 rfl rfl ?_
        refine x_bipush (v := 7) C dX8_findShown_220 (by decide) ?_
        obtain ⟨q4, hq4, hF⟩ := f_bind hF
        refine x_cVi (rest := [.int (μ 103 (ix x1)), .ref (G.ad 107)]) C (c_X8_styleOf l C.2.2.2.2.2.2.2.2 7 μ hq4) cw_X8_171 sh_82 rfl rfl ⟨by decide, by decide⟩ rfl rfl (Nat.le_of_ble_eq_true rfl) dX8_findShown_222 ?_
        refine x_iconst (v := 1) C dX8_findShown_225 (by decide) ?_
        refine x_icmp_ne (tgt := 235) C dX8_findShown_226 (by decide) (fun hc => ?_) (fun hc => ?_)
        · replace hF := f_f hc hF
          refine x_iconst (v := 0) C dX8_findShown_235 (by decide) ?_
          refine x_iast C sh_107 hi2 dX8_findShown_236 ?_
          refine x_letM hF (fun μ5 hF => ?_)
          refine x_iinc C [(1, .int (x1 + 1)), (0, .ref (G.ad 82)), (2, .int x2), (3, .int x3)] 1 dX8_findShown_237 rfl rfl (by decide) rfl ?_
          refine x_goto (tgt := 82) C dX8_findShown_240 (by decide) ?_
          exact x_pick [(0, .ref (G.ad 82)), (1, .int (x1 + 1))] [1, 0] rfl (hk82 (x1 + 1) μ5 hF)
        · replace hF := f_t hc hF
          refine x_iload_n C 2 dX8_findShown_229 rfl rfl ?_
          refine x_iconst (v := 1) C dX8_findShown_230 (by decide) ?_
          refine x_iadd C dX8_findShown_231 ?_
          refine x_goto (tgt := 236) C dX8_findShown_232 (by decide) ?_
          refine x_iast C sh_107 hi2 dX8_findShown_236 ?_
          refine x_letM hF (fun μ6 hF => ?_)
          refine x_iinc C [(1, .int (x1 + 1)), (0, .ref (G.ad 82)), (2, .int x2), (3, .int x3)] 1 dX8_findShown_237 rfl rfl (by decide) rfl ?_
          refine x_goto (tgt := 82) C dX8_findShown_240 (by decide) ?_
          exact x_pick [(0, .ref (G.ad 82)), (1, .int (x1 + 1))] [1, 0] rfl (hk82 (x1 + 1) μ6 hF)
    · replace hF := f_f hc hF
      refine x_iload_n C 1 dX8_findShown_102 rfl rfl ?_
      refine x_iload_n C 3 dX8_findShown_103 rfl rfl ?_
      refine x_icmp_eq (tgt := 130) C dX8_findShown_104 (by decide) (fun hc => ?_) (fun hc => ?_)
      · replace hF := f_t hc hF
        refine x_iconst (v := 0) C dX8_findShown_130 (by decide) ?_
        exact x_pick [(0, .ref (G.ad 82)), (1, .int x1), (2, .int x2), (3, .int x3)] [0, 1, 2, 3] rfl (w_X8_findShown_b131 C hk82 ih x1 x2 x3 0 μ hF)
      · replace hF := f_f hc hF
        refine x_aload_n C 0 dX8_findShown_107 rfl rfl ?_
        refine x_aload_n C 0 dX8_findShown_108 rfl rfl ?_
        refine x_getR C fc_X8 fl_X8_75 sh_82 (by decide) rfl dX8_findShown_109 ?_
        refine x_iload_n C 1 dX8_findShown_112 rfl rfl ?_
        obtain ⟨hi7, hF⟩ := f_chk hF
        refine x_iald C sh_103 hi7 dX8_findShown_113 ?_
        refine x_aload_n C 0 dX8_findShown_114 rfl rfl ?_
        refine x_getR C fc_X8 fl_X8_75 sh_82 (by decide) rfl dX8_findShown_115 ?_
        refine x_iload_n C 3 dX8_findShown_118 rfl rfl ?_
        obtain ⟨hi8, hF⟩ := f_chk hF
        refine x_iald C sh_103 hi8 dX8_findShown_119 ?_
        obtain ⟨q9, hq9, hF⟩ := f_bind hF
        refine x_cVi (rest := []) C (c_X8_isFaceLike l C.2.2.2.2.2.2.2.2 (μ 103 (ix x1)) (μ 103 (ix x3)) μ hq9) cw_X8_202 sh_82 rfl rfl ⟨by decide, by decide⟩ rfl rfl (Nat.le_of_ble_eq_true rfl) dX8_findShown_120 ?_
        refine x_if_eq (tgt := 130) C dX8_findShown_123 (by decide) (fun hc => ?_) (fun hc => ?_)
        · replace hF := f_t hc hF
          refine x_iconst (v := 0) C dX8_findShown_130 (by decide) ?_
          exact x_pick [(0, .ref (G.ad 82)), (1, .int x1), (2, .int x2), (3, .int x3)] [0, 1, 2, 3] rfl (w_X8_findShown_b131 C hk82 ih x1 x2 x3 0 μ hF)
        · replace hF := f_f hc hF
          refine x_iconst (v := 1) C dX8_findShown_126 (by decide) ?_
          refine x_goto (tgt := 131) C dX8_findShown_127 (by decide) ?_
          exact x_pick [(0, .ref (G.ad 82)), (1, .int x1), (2, .int x2), (3, .int x3)] [0, 1, 2, 3] rfl (w_X8_findShown_b131 C hk82 ih x1 x2 x3 1 μ hF)
set_option maxHeartbeats 4000000 in
theorem w_X8_findShown_L82 {G : Gl} {p : Program} {l : Launch} {e : Env} {s0 : State} {m : MethodId} {args : Array Value} {below : List Frame} {meth : Method} {c : Code} (C : Cx G p s0 m args meth c cX8_findShown 5 RX8 none) {μf : Mu}  : ∀ (n : Nat) (x1 : Int32) (μ : Mu), f_X8_findShown_L82 n x1 μ = some μf → X G p l e 3 72 s0 m args below meth c 5 none μf μ 82 [(0, .ref (G.ad 82)), (1, .int x1)] [] := by
  intro n
  induction n with
  | zero =>
    intro x1 μ hF
    rw [f_X8_findShown_L82] at hF
    cases hF
  | succ n ih =>
    intro x1 μ hF
    rw [f_X8_findShown_L82] at hF
    refine x_iload_n C 1 dX8_findShown_82 rfl rfl ?_
    refine x_aload_n C 0 dX8_findShown_83 rfl rfl ?_
    refine x_getI C fc_X8 fl_X8_177 sh_82 (by decide) rfl dX8_findShown_84 ?_
    refine x_icmp_ge (tgt := 243) C dX8_findShown_87 (by decide) (fun hc => ?_) (fun hc => ?_)
    · replace hF := f_t hc hF
      exact x_vret C dX8_findShown_243 (Option.some.inj hF)
    · replace hF := f_f hc hF
      refine x_iconst (v := 0) C dX8_findShown_90 (by decide) ?_
      refine x_istore_n C [(2, .int 0), (0, .ref (G.ad 82)), (1, .int x1)] dX8_findShown_91 rfl (by decide) rfl ?_
      refine x_iconst (v := 0) C dX8_findShown_92 (by decide) ?_
      refine x_istore_n C [(3, .int 0), (2, .int 0), (0, .ref (G.ad 82)), (1, .int x1)] dX8_findShown_93 rfl (by decide) rfl ?_
      exact x_pick [(0, .ref (G.ad 82)), (1, .int x1), (2, .int 0), (3, .int 0)] [2, 3, 1, 0] rfl (w_X8_findShown_L94 C ih fu x1 0 0 μ hF)
set_option maxHeartbeats 4000000 in
theorem w_X8_findShown_L2 {G : Gl} {p : Program} {l : Launch} {e : Env} {s0 : State} {m : MethodId} {args : Array Value} {below : List Frame} {meth : Method} {c : Code} (C : Cx G p s0 m args meth c cX8_findShown 5 RX8 none) {μf : Mu}  : ∀ (n : Nat) (x1 : Int32) (μ : Mu), f_X8_findShown_L2 n x1 μ = some μf → X G p l e 3 72 s0 m args below meth c 5 none μf μ 2 [(0, .ref (G.ad 82)), (1, .int x1)] [] := by
  intro n
  induction n with
  | zero =>
    intro x1 μ hF
    rw [f_X8_findShown_L2] at hF
    cases hF
  | succ n ih =>
    intro x1 μ hF
    rw [f_X8_findShown_L2] at hF
    refine x_iload_n C 1 dX8_findShown_2 rfl rfl ?_
    refine x_aload_n C 0 dX8_findShown_3 rfl rfl ?_
    refine x_getI C fc_X8 fl_X8_124 sh_82 (by decide) rfl dX8_findShown_4 ?_
    refine x_icmp_ge (tgt := 80) C dX8_findShown_7 (by decide) (fun hc => ?_) (fun hc => ?_)
    · replace hF := f_t hc hF
      refine x_iconst (v := 0) C dX8_findShown_80 (by decide) ?_
      refine x_istore_n C [(1, .int 0), (0, .ref (G.ad 82))] dX8_findShown_81 rfl (by decide) rfl ?_
      exact x_pick [(0, .ref (G.ad 82)), (1, .int 0)] [1, 0] rfl (w_X8_findShown_L82 C fu 0 μ hF)
    · replace hF := f_f hc hF
      refine x_aload_n C 0 dX8_findShown_10 rfl rfl ?_
      refine x_getR C fc_X8 fl_X8_81 sh_82 (by decide) rfl dX8_findShown_11 ?_
      refine x_iload_n C 1 dX8_findShown_14 rfl rfl ?_
      refine x_aload_n C 0 dX8_findShown_15 rfl rfl ?_
      refine x_iload_n C 1 dX8_findShown_16 rfl rfl ?_
      obtain ⟨q1, hq1, hF⟩ := f_bind hF
      refine x_cVi (rest := [.int x1, .ref (G.ad 105)]) C (c_X8_isCited l C.2.2.2.2.2.2.2.2 x1 μ hq1) cw_X8_180 sh_82 rfl rfl ⟨by decide, by decide⟩ rfl rfl (Nat.le_of_ble_eq_true rfl) dX8_findShown_17 ?_
      refine x_if_eq (tgt := 31) C dX8_findShown_20 (by decide) (fun hc => ?_) (fun hc => ?_)
      · replace hF := f_t hc hF
        refine x_iconst (v := 0) C dX8_findShown_31 (by decide) ?_
        exact x_pick [(0, .ref (G.ad 82)), (1, .int x1)] [0, 1] rfl (w_X8_findShown_b32 C ih x1 x1 0 μ hF)
      · replace hF := f_f hc hF
        refine x_aload_n C 0 dX8_findShown_23 rfl rfl ?_
        refine x_iload_n C 1 dX8_findShown_24 rfl rfl ?_
        obtain ⟨q2, hq2, hF⟩ := f_bind hF
        refine x_cVi (rest := [.int x1, .ref (G.ad 105)]) C (c_X8_shownOf l C.2.2.2.2.2.2.2.2 x1 μ hq2) cw_X8_196 sh_82 rfl rfl ⟨by decide, by decide⟩ rfl rfl (Nat.le_of_ble_eq_true rfl) dX8_findShown_25 ?_
        refine x_goto (tgt := 32) C dX8_findShown_28 (by decide) ?_
        exact x_pick [(0, .ref (G.ad 82)), (1, .int x1)] [0, 1] rfl (w_X8_findShown_b32 C ih x1 x1 q2 μ hF)
set_option maxHeartbeats 4000000 in
theorem w_X8_findShown {G : Gl} {p : Program} {l : Launch} {e : Env} {s0 : State} {m : MethodId} {args : Array Value} {below : List Frame} {meth : Method} {c : Code} (C : Cx G p s0 m args meth c cX8_findShown 5 RX8 none) {μf : Mu}  (μ : Mu) (hF : f_X8_findShown μ = some μf) : X G p l e 3 72 s0 m args below meth c 5 none μf μ 0 [(0, .ref (G.ad 82))] [] := by
  unfold f_X8_findShown at hF
  refine x_iconst (v := 0) C dX8_findShown_0 (by decide) ?_
  refine x_istore_n C [(1, .int 0), (0, .ref (G.ad 82))] dX8_findShown_1 rfl (by decide) rfl ?_
  exact x_pick [(0, .ref (G.ad 82)), (1, .int 0)] [1, 0] rfl (w_X8_findShown_L2 C fu 0 μ hF)
set_option maxHeartbeats 4000000 in
theorem c_X8_findShown {G : Gl} (l : Launch) (hA : Ap G) {μf : Mu}  (μ : Mu) (hF : f_X8_findShown μ = some μf) : Mth G l yX8_findShown cX8_findShown 5 none 3 72 [.ref (G.ad 82)] none μf μ := Mth.of hA (by decide) rfl (Nat.le_of_ble_eq_true rfl) (fun p e s0 m args below meth c C => w_X8_findShown C μ hF)
set_option maxHeartbeats 4000000 in
theorem w_X8_findAll {G : Gl} {p : Program} {l : Launch} {e : Env} {s0 : State} {m : MethodId} {args : Array Value} {below : List Frame} {meth : Method} {c : Code} (C : Cx G p s0 m args meth c cX8_findAll 2 RX8 none) {μf : Mu}  (x1 : Int32) (μ : Mu) (hF : f_X8_findAll x1 μ = some μf) : X G p l e 4 96 s0 m args below meth c 2 none μf μ 0 [(0, .ref (G.ad 82)), (1, .int x1)] [] := by
  unfold f_X8_findAll at hF
  refine x_aload_n C 0 dX8_findAll_0 rfl rfl ?_
  refine x_iload_n C 1 dX8_findAll_1 rfl rfl ?_
  refine x_putI C fc_X8 fl_X8_53 sh_82 (by decide) rfl rfl rfl ⟨rfl, rfl⟩ dX8_findAll_2 ?_
  refine x_letM hF (fun μ1 hF => ?_)
  refine x_aload_n C 0 dX8_findAll_5 rfl rfl ?_
  obtain ⟨q2, hq2, hF⟩ := f_bind hF
  refine x_cVv (rest := []) C (c_X8_findCalls l C.2.2.2.2.2.2.2.2 μ1 hq2) cw_X8_209 sh_82 rfl rfl ⟨by decide, by decide⟩ rfl rfl (Nat.le_of_ble_eq_true rfl) dX8_findAll_6 ?_
  refine x_aload_n C 0 dX8_findAll_9 rfl rfl ?_
  obtain ⟨q3, hq3, hF⟩ := f_bind hF
  refine x_cVv (rest := []) C (c_X8_findList l C.2.2.2.2.2.2.2.2 q2 hq3) cw_X8_212 sh_82 rfl rfl ⟨by decide, by decide⟩ rfl rfl (Nat.le_of_ble_eq_true rfl) dX8_findAll_10 ?_
  refine x_aload_n C 0 dX8_findAll_13 rfl rfl ?_
  obtain ⟨q4, hq4, hF⟩ := f_bind hF
  refine x_cVv (rest := []) C (c_X8_findShown l C.2.2.2.2.2.2.2.2 q3 hq4) cw_X8_215 sh_82 rfl rfl ⟨by decide, by decide⟩ rfl rfl (Nat.le_of_ble_eq_true rfl) dX8_findAll_14 ?_
  exact x_vret C dX8_findAll_17 (Option.some.inj hF)
set_option maxHeartbeats 4000000 in
theorem c_X8_findAll {G : Gl} (l : Launch) (hA : Ap G) {μf : Mu}  (x1 : Int32) (μ : Mu) (hF : f_X8_findAll x1 μ = some μf) : Mth G l yX8_findAll cX8_findAll 2 none 4 96 [.ref (G.ad 82), .int x1] none μf μ := Mth.of hA (by decide) rfl (Nat.le_of_ble_eq_true rfl) (fun p e s0 m args below meth c C => w_X8_findAll C x1 μ hF)
set_option maxHeartbeats 4000000 in
theorem w_X8_roomOf_b87 {G : Gl} {p : Program} {l : Launch} {e : Env} {s0 : State} {m : MethodId} {args : Array Value} {below : List Frame} {meth : Method} {c : Code} (C : Cx G p s0 m args meth c cX8_roomOf 3 RX8 (some .int)) {r : Int32}  (μ : Mu) (x1 : Int32) (t0 : Int32) (t1 : Int32) (t2 : Int32) (hF : f_X8_roomOf_b87 μ x1 t0 t1 t2 = some r) : X G p l e 1 20 s0 m args below meth c 3 (some (.int r)) μ μ 87 [(0, .ref (G.ad 82)), (1, .int x1)] [.int t2, .int t1, .int t0] := by
  unfold f_X8_roomOf_b87 at hF
  refine x_cSi (rest := [.int t1, .int t0]) C (c_X8_one l C.2.2.2.2.2.2.2.2 t2 μ) cw_X8_205 ⟨by decide, by decide⟩ rfl rfl (Nat.le_of_ble_eq_true rfl) dX8_roomOf_87 ?_
  refine x_imul C dX8_roomOf_90 ?_
  refine x_iadd C dX8_roomOf_91 ?_
  refine x_iconst (v := 4) C dX8_roomOf_92 (by decide) ?_
  refine x_iadd C dX8_roomOf_93 ?_
  refine x_aload_n C 0 dX8_roomOf_94 rfl rfl ?_
  refine x_getR C fc_X8 fl_X8_87 sh_82 (by decide) rfl dX8_roomOf_95 ?_
  refine x_iload_n C 1 dX8_roomOf_98 rfl rfl ?_
  obtain ⟨hi1, hF⟩ := f_chk hF
  refine x_iald C sh_107 hi1 dX8_roomOf_99 ?_
  refine x_if_le (tgt := 107) C dX8_roomOf_100 (by decide) (fun hc => ?_) (fun hc => ?_)
  · replace hF := f_t hc hF
    refine x_iconst (v := 0) C dX8_roomOf_107 (by decide) ?_
    refine x_cSi (rest := [.int ((t0 + (t1 * (f_X8_one t2))) + 4)]) C (c_X8_one l C.2.2.2.2.2.2.2.2 0 μ) cw_X8_205 ⟨by decide, by decide⟩ rfl rfl (Nat.le_of_ble_eq_true rfl) dX8_roomOf_108 ?_
    refine x_iadd C dX8_roomOf_111 ?_
    exact x_iret C dX8_roomOf_112 (Option.some.inj hF) rfl
  · replace hF := f_f hc hF
    refine x_iconst (v := 1) C dX8_roomOf_103 (by decide) ?_
    refine x_goto (tgt := 108) C dX8_roomOf_104 (by decide) ?_
    refine x_cSi (rest := [.int ((t0 + (t1 * (f_X8_one t2))) + 4)]) C (c_X8_one l C.2.2.2.2.2.2.2.2 1 μ) cw_X8_205 ⟨by decide, by decide⟩ rfl rfl (Nat.le_of_ble_eq_true rfl) dX8_roomOf_108 ?_
    refine x_iadd C dX8_roomOf_111 ?_
    exact x_iret C dX8_roomOf_112 (Option.some.inj hF) rfl
set_option maxHeartbeats 4000000 in
theorem w_X8_roomOf_b65 {G : Gl} {p : Program} {l : Launch} {e : Env} {s0 : State} {m : MethodId} {args : Array Value} {below : List Frame} {meth : Method} {c : Code} (C : Cx G p s0 m args meth c cX8_roomOf 3 RX8 (some .int)) {r : Int32}  (μ : Mu) (x1 : Int32) (t0 : Int32) (t1 : Int32) (hF : f_X8_roomOf_b65 μ x1 t0 t1 = some r) : X G p l e 1 20 s0 m args below meth c 3 (some (.int r)) μ μ 65 [(0, .ref (G.ad 82)), (1, .int x1)] [.int t1, .int t0] := by
  unfold f_X8_roomOf_b65 at hF
  refine x_iadd C dX8_roomOf_65 ?_
  refine x_iconst (v := 5) C dX8_roomOf_66 (by decide) ?_
  refine x_aload_n C 0 dX8_roomOf_67 rfl rfl ?_
  refine x_getR C fc_X8 fl_X8_7 sh_82 (by decide) rfl dX8_roomOf_68 ?_
  refine x_iload_n C 1 dX8_roomOf_71 rfl rfl ?_
  obtain ⟨hi1, hF⟩ := f_chk hF
  refine x_iald C sh_83 hi1 dX8_roomOf_72 ?_
  refine x_aload_n C 0 dX8_roomOf_73 rfl rfl ?_
  refine x_getR C fc_X8 fl_X8_81 sh_82 (by decide) rfl dX8_roomOf_74 ?_
  refine x_iload_n C 1 dX8_roomOf_77 rfl rfl ?_
  refine x_iald C sh_105 hi1 dX8_roomOf_78 ?_
  refine x_icmp_le (tgt := 86) C dX8_roomOf_79 (by decide) (fun hc => ?_) (fun hc => ?_)
  · replace hF := f_t hc hF
    refine x_iconst (v := 0) C dX8_roomOf_86 (by decide) ?_
    exact x_pick [(0, .ref (G.ad 82)), (1, .int x1)] [0, 1] rfl (w_X8_roomOf_b87 C μ x1 (t0 + t1) 5 0 hF)
  · replace hF := f_f hc hF
    refine x_iconst (v := 1) C dX8_roomOf_82 (by decide) ?_
    refine x_goto (tgt := 87) C dX8_roomOf_83 (by decide) ?_
    exact x_pick [(0, .ref (G.ad 82)), (1, .int x1)] [0, 1] rfl (w_X8_roomOf_b87 C μ x1 (t0 + t1) 5 1 hF)
set_option maxHeartbeats 4000000 in
theorem w_X8_roomOf_b35 {G : Gl} {p : Program} {l : Launch} {e : Env} {s0 : State} {m : MethodId} {args : Array Value} {below : List Frame} {meth : Method} {c : Code} (C : Cx G p s0 m args meth c cX8_roomOf 3 RX8 (some .int)) {r : Int32}  (μ : Mu) (x1 : Int32) (t0 : Int32) (t1 : Int32) (hF : f_X8_roomOf_b35 μ x1 t0 t1 = some r) : X G p l e 1 20 s0 m args below meth c 3 (some (.int r)) μ μ 35 [(0, .ref (G.ad 82)), (1, .int x1)] [.int t1, .int t0] := by
  unfold f_X8_roomOf_b35 at hF
  refine x_cSi (rest := [.int t0]) C (c_X8_one l C.2.2.2.2.2.2.2.2 t1 μ) cw_X8_205 ⟨by decide, by decide⟩ rfl rfl (Nat.le_of_ble_eq_true rfl) dX8_roomOf_35 ?_
  refine x_iadd C dX8_roomOf_38 ?_
  refine x_letI hF (fun y1 hF => ?_)
  refine x_istore_n C [(2, .int y1), (0, .ref (G.ad 82)), (1, .int x1)] dX8_roomOf_39 rfl (by decide) rfl ?_
  refine x_bipush (v := 8) C dX8_roomOf_40 (by decide) ?_
  refine x_aload_n C 1 dX8_roomOf_42 rfl rfl ?_
  refine x_getR C fc_X8 fl_X8_81 sh_82 (by decide) rfl dX8_roomOf_43 ?_
  refine x_iload_n C 2 dX8_roomOf_46 rfl rfl ?_
  obtain ⟨hi2, hF⟩ := f_chk hF
  refine x_iald C sh_105 hi2 dX8_roomOf_47 ?_
  refine x_imul C dX8_roomOf_48 ?_
  refine x_aload_n C 1 dX8_roomOf_49 rfl rfl ?_
  refine x_getR C fc_X8 fl_X8_84 sh_82 (by decide) rfl dX8_roomOf_50 ?_
  refine x_iload_n C 2 dX8_roomOf_53 rfl rfl ?_
  refine x_zald C sh_106 hi2 dX8_roomOf_54 ?_
  refine x_if_eq (tgt := 64) C dX8_roomOf_55 (by decide) (fun hc => ?_) (fun hc => ?_)
  · replace hF := f_t hc hF
    refine x_iconst (v := 0) C dX8_roomOf_64 (by decide) ?_
    exact x_pick [(0, .ref (G.ad 82)), (1, .int x1)] [1, 2] rfl (w_X8_roomOf_b65 C μ x1 (8 * (μ 105 (ix x1))) 0 hF)
  · replace hF := f_f hc hF
    refine x_iconst (v := 2) C dX8_roomOf_58 (by decide) ?_
    refine x_iload_n C 0 dX8_roomOf_59 rfl rfl ?_
    refine x_imul C dX8_roomOf_60 ?_
    refine x_goto (tgt := 65) C dX8_roomOf_61 (by decide) ?_
    exact x_pick [(0, .ref (G.ad 82)), (1, .int x1)] [1, 2] rfl (w_X8_roomOf_b65 C μ x1 (8 * (μ 105 (ix x1))) (2 * y1) hF)
set_option maxHeartbeats 4000000 in
theorem w_X8_roomOf_b16 {G : Gl} {p : Program} {l : Launch} {e : Env} {s0 : State} {m : MethodId} {args : Array Value} {below : List Frame} {meth : Method} {c : Code} (C : Cx G p s0 m args meth c cX8_roomOf 3 RX8 (some .int)) {r : Int32}  (μ : Mu) (x1 : Int32) (t0 : Int32) (hF : f_X8_roomOf_b16 μ x1 t0 = some r) : X G p l e 1 20 s0 m args below meth c 3 (some (.int r)) μ μ 16 [(0, .ref (G.ad 82)), (1, .int x1)] [.int t0] := by
  unfold f_X8_roomOf_b16 at hF
  refine x_cSi (rest := []) C (c_X8_one l C.2.2.2.2.2.2.2.2 t0 μ) cw_X8_205 ⟨by decide, by decide⟩ rfl rfl (Nat.le_of_ble_eq_true rfl) dX8_roomOf_16 ?_
  refine x_aload_n C 0 dX8_roomOf_19 rfl rfl ?_
  refine x_getR C fc_X8 fl_X8_19 sh_82 (by decide) rfl dX8_roomOf_20 ?_
  refine x_iconst (v := 4) C dX8_roomOf_23 (by decide) ?_
  refine x_iload_n C 1 dX8_roomOf_24 rfl rfl ?_
  refine x_imul C dX8_roomOf_25 ?_
  obtain ⟨hi1, hF⟩ := f_chk hF
  refine x_iald C sh_86 hi1 dX8_roomOf_26 ?_
  refine x_if_le (tgt := 34) C dX8_roomOf_27 (by decide) (fun hc => ?_) (fun hc => ?_)
  · replace hF := f_t hc hF
    refine x_iconst (v := 0) C dX8_roomOf_34 (by decide) ?_
    exact x_pick [(0, .ref (G.ad 82)), (1, .int x1)] [0, 1] rfl (w_X8_roomOf_b35 C μ x1 (f_X8_one t0) 0 hF)
  · replace hF := f_f hc hF
    refine x_iconst (v := 1) C dX8_roomOf_30 (by decide) ?_
    refine x_goto (tgt := 35) C dX8_roomOf_31 (by decide) ?_
    exact x_pick [(0, .ref (G.ad 82)), (1, .int x1)] [0, 1] rfl (w_X8_roomOf_b35 C μ x1 (f_X8_one t0) 1 hF)
set_option maxHeartbeats 4000000 in
theorem w_X8_roomOf {G : Gl} {p : Program} {l : Launch} {e : Env} {s0 : State} {m : MethodId} {args : Array Value} {below : List Frame} {meth : Method} {c : Code} (C : Cx G p s0 m args meth c cX8_roomOf 3 RX8 (some .int)) {r : Int32}  (x1 : Int32) (μ : Mu) (hF : f_X8_roomOf x1 μ = some r) : X G p l e 1 20 s0 m args below meth c 3 (some (.int r)) μ μ 0 [(0, .ref (G.ad 82)), (1, .int x1)] [] := by
  unfold f_X8_roomOf at hF
  refine x_aload_n C 0 dX8_roomOf_0 rfl rfl ?_
  refine x_getR C fc_X8 fl_X8_16 sh_82 (by decide) rfl dX8_roomOf_1 ?_
  refine x_iconst (v := 4) C dX8_roomOf_4 (by decide) ?_
  refine x_iload_n C 1 dX8_roomOf_5 rfl rfl ?_
  refine x_imul C dX8_roomOf_6 ?_
  obtain ⟨hi1, hF⟩ := f_chk hF
  refine x_iald C sh_85 hi1 dX8_roomOf_7 ?_
  refine x_if_le (tgt := 15) C dX8_roomOf_8 (by decide) (fun hc => ?_) (fun hc => ?_)
  · replace hF := f_t hc hF
    refine x_iconst (v := 0) C dX8_roomOf_15 (by decide) ?_
    exact x_pick [(0, .ref (G.ad 82)), (1, .int x1)] [0, 1] rfl (w_X8_roomOf_b16 C μ x1 0 hF)
  · replace hF := f_f hc hF
    refine x_iconst (v := 1) C dX8_roomOf_11 (by decide) ?_
    refine x_goto (tgt := 16) C dX8_roomOf_12 (by decide) ?_
    exact x_pick [(0, .ref (G.ad 82)), (1, .int x1)] [0, 1] rfl (w_X8_roomOf_b16 C μ x1 1 hF)
set_option maxHeartbeats 4000000 in
theorem c_X8_roomOf {G : Gl} (l : Launch) (hA : Ap G) {r : Int32}  (x1 : Int32) (μ : Mu) (hF : f_X8_roomOf x1 μ = some r) : Mth G l yX8_roomOf cX8_roomOf 3 (some .int) 1 20 [.ref (G.ad 82), .int x1] (some (.int r)) μ μ := Mth.of hA (by decide) rfl (Nat.le_of_ble_eq_true rfl) (fun p e s0 m args below meth c C => w_X8_roomOf C x1 μ hF)
set_option maxHeartbeats 4000000 in
theorem w_X8_about_b41 {G : Gl} {p : Program} {l : Launch} {e : Env} {s0 : State} {m : MethodId} {args : Array Value} {below : List Frame} {meth : Method} {c : Code} (C : Cx G p s0 m args meth c cX8_about 3 RX8 (some .int)) {r : Int32} {μf : Mu}  (x1 : Int32) (x2 : Int32) (μ : Mu) (hF : f_X8_about_b41 x1 x2 μ = some (r, μf)) : X G p l e 5 117 s0 m args below meth c 3 (some (.int r)) μf μ 41 [(0, .ref (G.ad 82)), (1, .int x1), (2, .int x2)] [] := by
  unfold f_X8_about_b41 at hF
  refine x_iload_n C 2 dX8_about_41 rfl rfl ?_
  by_cases hs0 : x2 = 0
  · replace hF := f_t hs0 hF
    refine x_tableIn (tgt := 100) (off := 58) C dX8_about_42 (by rw [hs0]; decide) (by rw [hs0]; decide) (by rw [hs0]; decide +kernel) (by decide) ?_
    refine x_aload_n C 0 dX8_about_100 rfl rfl ?_
    refine x_getR C fc_X8 fl_X8_7 sh_82 (by decide) rfl dX8_about_101 ?_
    refine x_iload_n C 1 dX8_about_104 rfl rfl ?_
    obtain ⟨hi1, hF⟩ := f_chk hF
    refine x_iald C sh_83 hi1 dX8_about_105 ?_
    exact x_iret C dX8_about_106 (Prod.mk.inj (Option.some.inj hF)).1 (Prod.mk.inj (Option.some.inj hF)).2
  · replace hF := f_f hs0 hF
    by_cases hs1 : x2 = 1
    · replace hF := f_t hs1 hF
      refine x_tableIn (tgt := 107) (off := 65) C dX8_about_42 (by rw [hs1]; decide) (by rw [hs1]; decide) (by rw [hs1]; decide +kernel) (by decide) ?_
      refine x_aload_n C 0 dX8_about_107 rfl rfl ?_
      refine x_getR C fc_X8 fl_X8_22 sh_82 (by decide) rfl dX8_about_108 ?_
      refine x_iload_n C 1 dX8_about_111 rfl rfl ?_
      obtain ⟨hi2, hF⟩ := f_chk hF
      refine x_iald C sh_87 hi2 dX8_about_112 ?_
      exact x_iret C dX8_about_113 (Prod.mk.inj (Option.some.inj hF)).1 (Prod.mk.inj (Option.some.inj hF)).2
    · replace hF := f_f hs1 hF
      by_cases hs2 : x2 = 2
      · replace hF := f_t hs2 hF
        refine x_tableIn (tgt := 114) (off := 72) C dX8_about_42 (by rw [hs2]; decide) (by rw [hs2]; decide) (by rw [hs2]; decide +kernel) (by decide) ?_
        refine x_aload_n C 0 dX8_about_114 rfl rfl ?_
        refine x_getR C fc_X8 fl_X8_25 sh_82 (by decide) rfl dX8_about_115 ?_
        refine x_iload_n C 1 dX8_about_118 rfl rfl ?_
        obtain ⟨hi3, hF⟩ := f_chk hF
        refine x_iald C sh_88 hi3 dX8_about_119 ?_
        exact x_iret C dX8_about_120 (Prod.mk.inj (Option.some.inj hF)).1 (Prod.mk.inj (Option.some.inj hF)).2
      · replace hF := f_f hs2 hF
        by_cases hs3 : x2 = 3
        · replace hF := f_t hs3 hF
          refine x_tableIn (tgt := 121) (off := 79) C dX8_about_42 (by rw [hs3]; decide) (by rw [hs3]; decide) (by rw [hs3]; decide +kernel) (by decide) ?_
          refine x_aload_n C 0 dX8_about_121 rfl rfl ?_
          refine x_iload_n C 1 dX8_about_122 rfl rfl ?_
          obtain ⟨q4, hq4, hF⟩ := f_bind hF
          refine x_cVi (rest := []) C (c_X8_meant l C.2.2.2.2.2.2.2.2 x1 μ hq4) cw_X8_153 sh_82 rfl rfl ⟨by decide, by decide⟩ rfl rfl (Nat.le_of_ble_eq_true rfl) dX8_about_123 ?_
          exact x_iret C dX8_about_126 (Prod.mk.inj (Option.some.inj hF)).1 (Prod.mk.inj (Option.some.inj hF)).2
        · replace hF := f_f hs3 hF
          by_cases hs4 : x2 = 4
          · replace hF := f_t hs4 hF
            refine x_tableIn (tgt := 127) (off := 85) C dX8_about_42 (by rw [hs4]; decide) (by rw [hs4]; decide) (by rw [hs4]; decide +kernel) (by decide) ?_
            refine x_aload_n C 0 dX8_about_127 rfl rfl ?_
            refine x_getR C fc_X8 fl_X8_72 sh_82 (by decide) rfl dX8_about_128 ?_
            refine x_iload_n C 1 dX8_about_131 rfl rfl ?_
            obtain ⟨hi5, hF⟩ := f_chk hF
            refine x_iald C sh_102 hi5 dX8_about_132 ?_
            exact x_iret C dX8_about_133 (Prod.mk.inj (Option.some.inj hF)).1 (Prod.mk.inj (Option.some.inj hF)).2
          · replace hF := f_f hs4 hF
            by_cases hs5 : x2 = 5
            · replace hF := f_t hs5 hF
              refine x_tableIn (tgt := 134) (off := 92) C dX8_about_42 (by rw [hs5]; decide) (by rw [hs5]; decide) (by rw [hs5]; decide +kernel) (by decide) ?_
              refine x_aload_n C 0 dX8_about_134 rfl rfl ?_
              refine x_iload_n C 1 dX8_about_135 rfl rfl ?_
              obtain ⟨q6, hq6, hF⟩ := f_bind hF
              refine x_cVi (rest := []) C (c_X8_isCited l C.2.2.2.2.2.2.2.2 x1 μ hq6) cw_X8_180 sh_82 rfl rfl ⟨by decide, by decide⟩ rfl rfl (Nat.le_of_ble_eq_true rfl) dX8_about_136 ?_
              refine x_cSi (rest := []) C (c_X8_one l C.2.2.2.2.2.2.2.2 q6 μ) cw_X8_205 ⟨by decide, by decide⟩ rfl rfl (Nat.le_of_ble_eq_true rfl) dX8_about_139 ?_
              exact x_iret C dX8_about_142 (Prod.mk.inj (Option.some.inj hF)).1 (Prod.mk.inj (Option.some.inj hF)).2
            · replace hF := f_f hs5 hF
              by_cases hs6 : x2 = 6
              · replace hF := f_t hs6 hF
                refine x_tableIn (tgt := 143) (off := 101) C dX8_about_42 (by rw [hs6]; decide) (by rw [hs6]; decide) (by rw [hs6]; decide +kernel) (by decide) ?_
                refine x_aload_n C 0 dX8_about_143 rfl rfl ?_
                refine x_getR C fc_X8 fl_X8_81 sh_82 (by decide) rfl dX8_about_144 ?_
                refine x_iload_n C 1 dX8_about_147 rfl rfl ?_
                obtain ⟨hi7, hF⟩ := f_chk hF
                refine x_iald C sh_105 hi7 dX8_about_148 ?_
                exact x_iret C dX8_about_149 (Prod.mk.inj (Option.some.inj hF)).1 (Prod.mk.inj (Option.some.inj hF)).2
              · replace hF := f_f hs6 hF
                by_cases hs7 : x2 = 7
                · replace hF := f_t hs7 hF
                  refine x_tableIn (tgt := 150) (off := 108) C dX8_about_42 (by rw [hs7]; decide) (by rw [hs7]; decide) (by rw [hs7]; decide +kernel) (by decide) ?_
                  refine x_aload_n C 0 dX8_about_150 rfl rfl ?_
                  refine x_getR C fc_X8 fl_X8_84 sh_82 (by decide) rfl dX8_about_151 ?_
                  refine x_iload_n C 1 dX8_about_154 rfl rfl ?_
                  obtain ⟨hi8, hF⟩ := f_chk hF
                  refine x_zald C sh_106 hi8 dX8_about_155 ?_
                  refine x_cSi (rest := []) C (c_X8_one l C.2.2.2.2.2.2.2.2 (μ 106 (ix x1)) μ) cw_X8_205 ⟨by decide, by decide⟩ rfl rfl (Nat.le_of_ble_eq_true rfl) dX8_about_156 ?_
                  exact x_iret C dX8_about_159 (Prod.mk.inj (Option.some.inj hF)).1 (Prod.mk.inj (Option.some.inj hF)).2
                · replace hF := f_f hs7 hF
                  by_cases hs8 : x2 = 8
                  · replace hF := f_t hs8 hF
                    refine x_tableIn (tgt := 160) (off := 118) C dX8_about_42 (by rw [hs8]; decide) (by rw [hs8]; decide) (by rw [hs8]; decide +kernel) (by decide) ?_
                    refine x_aload_n C 0 dX8_about_160 rfl rfl ?_
                    refine x_getR C fc_X8 fl_X8_87 sh_82 (by decide) rfl dX8_about_161 ?_
                    refine x_iload_n C 1 dX8_about_164 rfl rfl ?_
                    obtain ⟨hi9, hF⟩ := f_chk hF
                    refine x_iald C sh_107 hi9 dX8_about_165 ?_
                    exact x_iret C dX8_about_166 (Prod.mk.inj (Option.some.inj hF)).1 (Prod.mk.inj (Option.some.inj hF)).2
                  · replace hF := f_f hs8 hF
                    by_cases hs9 : x2 = 9
                    · replace hF := f_t hs9 hF
                      refine x_tableIn (tgt := 167) (off := 125) C dX8_about_42 (by rw [hs9]; decide) (by rw [hs9]; decide) (by rw [hs9]; decide +kernel) (by decide) ?_
                      refine x_aload_n C 0 dX8_about_167 rfl rfl ?_
                      refine x_getR C fc_X8 fl_X8_78 sh_82 (by decide) rfl dX8_about_168 ?_
                      refine x_iload_n C 1 dX8_about_171 rfl rfl ?_
                      obtain ⟨hi10, hF⟩ := f_chk hF
                      refine x_iald C sh_104 hi10 dX8_about_172 ?_
                      exact x_iret C dX8_about_173 (Prod.mk.inj (Option.some.inj hF)).1 (Prod.mk.inj (Option.some.inj hF)).2
                    · replace hF := f_f hs9 hF
                      by_cases hs10 : x2 = 10
                      · replace hF := f_t hs10 hF
                        refine x_tableIn (tgt := 174) (off := 132) C dX8_about_42 (by rw [hs10]; decide) (by rw [hs10]; decide) (by rw [hs10]; decide +kernel) (by decide) ?_
                        refine x_aload_n C 0 dX8_about_174 rfl rfl ?_
                        refine x_iload_n C 1 dX8_about_175 rfl rfl ?_
                        obtain ⟨q11, hq11, hF⟩ := f_bind hF
                        refine x_cVi (rest := []) C (c_X8_roomOf l C.2.2.2.2.2.2.2.2 x1 μ hq11) cw_X8_218 sh_82 rfl rfl ⟨by decide, by decide⟩ rfl rfl (Nat.le_of_ble_eq_true rfl) dX8_about_176 ?_
                        exact x_iret C dX8_about_179 (Prod.mk.inj (Option.some.inj hF)).1 (Prod.mk.inj (Option.some.inj hF)).2
                      · replace hF := f_f hs10 hF
                        refine x_tableOut (tgt := 180) C dX8_about_42 (sw_out_0_10 hs0 hs1 hs2 hs3 hs4 hs5 hs6 hs7 hs8 hs9 hs10) (by decide) ?_
                        refine x_sipush (v := (-1002)) C dX8_about_180 (by decide) ?_
                        exact x_iret C dX8_about_183 (Prod.mk.inj (Option.some.inj hF)).1 (Prod.mk.inj (Option.some.inj hF)).2
set_option maxHeartbeats 4000000 in
theorem w_X8_about {G : Gl} {p : Program} {l : Launch} {e : Env} {s0 : State} {m : MethodId} {args : Array Value} {below : List Frame} {meth : Method} {c : Code} (C : Cx G p s0 m args meth c cX8_about 3 RX8 (some .int)) {r : Int32} {μf : Mu}  (x1 : Int32) (x2 : Int32) (μ : Mu) (hF : f_X8_about x1 x2 μ = some (r, μf)) : X G p l e 5 117 s0 m args below meth c 3 (some (.int r)) μf μ 0 [(0, .ref (G.ad 82)), (1, .int x1), (2, .int x2)] [] := by
  unfold f_X8_about at hF
  refine x_aload_n C 0 dX8_about_0 rfl rfl ?_
  refine x_iload_n C 1 dX8_about_1 rfl rfl ?_
  refine x_cVi (rest := []) C (c_X8_noWork l C.2.2.2.2.2.2.2.2 x1 μ) cw_X8_147 sh_82 rfl rfl ⟨by decide, by decide⟩ rfl rfl (Nat.le_of_ble_eq_true rfl) dX8_about_2 ?_
  refine x_if_eq (tgt := 12) C dX8_about_5 (by decide) (fun hc => ?_) (fun hc => ?_)
  · replace hF := f_t hc hF
    refine x_aload_n C 0 dX8_about_12 rfl rfl ?_
    refine x_iconst (v := 4) C dX8_about_13 (by decide) ?_
    obtain ⟨q1, hq1, hF⟩ := f_bind hF
    refine x_cVv (rest := []) C (c_X8_findAll l C.2.2.2.2.2.2.2.2 4 μ hq1) cw_X8_221 sh_82 rfl rfl ⟨by decide, by decide⟩ rfl rfl (Nat.le_of_ble_eq_true rfl) dX8_about_14 ?_
    refine x_iload_n C 2 dX8_about_17 rfl rfl ?_
    refine x_i2l C dX8_about_18 ?_
    refine x_ldc2 C cl_X8_225 dX8_about_19 ?_
    refine x_ldc2 C cl_X8_227 dX8_about_22 ?_
    refine x_cSi (rest := []) C (c_X8_in l C.2.2.2.2.2.2.2.2 ((x2 : Int32).toInt64) 6 10 q1) cw_X8_127 ⟨by decide, by decide⟩ rfl rfl (Nat.le_of_ble_eq_true rfl) dX8_about_25 ?_
    refine x_if_eq (tgt := 41) C dX8_about_28 (by decide) (fun hc => ?_) (fun hc => ?_)
    · replace hF := f_t hc hF
      exact x_pick [(0, .ref (G.ad 82)), (1, .int x1), (2, .int x2)] [0, 1, 2] rfl (w_X8_about_b41 C x1 x2 q1 hF)
    · replace hF := f_f hc hF
      refine x_aload_n C 0 dX8_about_31 rfl rfl ?_
      refine x_iload_n C 1 dX8_about_32 rfl rfl ?_
      obtain ⟨q2, hq2, hF⟩ := f_bind hF
      refine x_cVi (rest := []) C (c_X8_isCited l C.2.2.2.2.2.2.2.2 x1 q1 hq2) cw_X8_180 sh_82 rfl rfl ⟨by decide, by decide⟩ rfl rfl (Nat.le_of_ble_eq_true rfl) dX8_about_33 ?_
      refine x_if_ne (tgt := 41) C dX8_about_36 (by decide) (fun hc => ?_) (fun hc => ?_)
      · replace hF := f_f hc hF
        exact x_pick [(0, .ref (G.ad 82)), (1, .int x1), (2, .int x2)] [0, 1, 2] rfl (w_X8_about_b41 C x1 x2 q1 hF)
      · replace hF := f_t hc hF
        refine x_iconst (v := (-1)) C dX8_about_39 (by decide) ?_
        exact x_iret C dX8_about_40 (Prod.mk.inj (Option.some.inj hF)).1 (Prod.mk.inj (Option.some.inj hF)).2
  · replace hF := f_f hc hF
    refine x_sipush (v := (-1001)) C dX8_about_8 (by decide) ?_
    exact x_iret C dX8_about_11 (Prod.mk.inj (Option.some.inj hF)).1 (Prod.mk.inj (Option.some.inj hF)).2
set_option maxHeartbeats 4000000 in
theorem c_X8_about {G : Gl} (l : Launch) (hA : Ap G) {r : Int32} {μf : Mu}  (x1 : Int32) (x2 : Int32) (μ : Mu) (hF : f_X8_about x1 x2 μ = some (r, μf)) : Mth G l yX8_about cX8_about 3 (some .int) 5 117 [.ref (G.ad 82), .int x1, .int x2] (some (.int r)) μf μ := Mth.of hA (by decide) rfl (Nat.le_of_ble_eq_true rfl) (fun p e s0 m args below meth c C => w_X8_about C x1 x2 μ hF)
set_option maxHeartbeats 4000000 in
theorem w_X8_noNote {G : Gl} {p : Program} {l : Launch} {e : Env} {s0 : State} {m : MethodId} {args : Array Value} {below : List Frame} {meth : Method} {c : Code} (C : Cx G p s0 m args meth c cX8_noNote 2 RX8 (some .boolean)) {r : Int32}  (x1 : Int32) (μ : Mu) (hF : f_X8_noNote x1 μ = some r) : X G p l e 1 25 s0 m args below meth c 2 (some (.int r)) μ μ 0 [(0, .ref (G.ad 82)), (1, .int x1)] [] := by
  unfold f_X8_noNote at hF
  refine x_iload_n C 1 dX8_noNote_0 rfl rfl ?_
  refine x_i2l C dX8_noNote_1 ?_
  refine x_lconst (v := 0) C dX8_noNote_2 (by decide) ?_
  refine x_aload_n C 0 dX8_noNote_3 rfl rfl ?_
  refine x_getR C fc_X8 fl_X8_37 sh_82 (by decide) rfl dX8_noNote_4 ?_
  refine x_iconst (v := 4) C dX8_noNote_7 (by decide) ?_
  refine x_iald C sh_92 (by decide) dX8_noNote_8 ?_
  refine x_iconst (v := 1) C dX8_noNote_9 (by decide) ?_
  refine x_isub C dX8_noNote_10 ?_
  refine x_i2l C dX8_noNote_11 ?_
  refine x_cSi (rest := []) C (c_X8_in l C.2.2.2.2.2.2.2.2 ((x1 : Int32).toInt64) 0 (((μ 92 (ix 4)) - 1 : Int32).toInt64) μ) cw_X8_127 ⟨by decide, by decide⟩ rfl rfl (Nat.le_of_ble_eq_true rfl) dX8_noNote_12 ?_
  refine x_if_ne (tgt := 22) C dX8_noNote_15 (by decide) (fun hc => ?_) (fun hc => ?_)
  · replace hF := f_f hc hF
    refine x_iconst (v := 0) C dX8_noNote_22 (by decide) ?_
    exact x_zret C dX8_noNote_23 (by decide) (Option.some.inj hF) rfl
  · replace hF := f_t hc hF
    refine x_iconst (v := 1) C dX8_noNote_18 (by decide) ?_
    refine x_goto (tgt := 23) C dX8_noNote_19 (by decide) ?_
    exact x_zret C dX8_noNote_23 (by decide) (Option.some.inj hF) rfl
set_option maxHeartbeats 4000000 in
theorem c_X8_noNote {G : Gl} (l : Launch) (hA : Ap G) {r : Int32}  (x1 : Int32) (μ : Mu) (hF : f_X8_noNote x1 μ = some r) : Mth G l yX8_noNote cX8_noNote 2 (some .boolean) 1 25 [.ref (G.ad 82), .int x1] (some (.int r)) μ μ := Mth.of hA (by decide) rfl (Nat.le_of_ble_eq_true rfl) (fun p e s0 m args below meth c C => w_X8_noNote C x1 μ hF)
set_option maxHeartbeats 4000000 in
theorem w_X8_at {G : Gl} {p : Program} {l : Launch} {e : Env} {s0 : State} {m : MethodId} {args : Array Value} {below : List Frame} {meth : Method} {c : Code} (C : Cx G p s0 m args meth c cX8_at 3 RX8 (some .int)) {r : Int32} {μf : Mu}  (x1 : Int32) (x2 : Int32) (μ : Mu) (hF : f_X8_at x1 x2 μ = some (r, μf)) : X G p l e 2 46 s0 m args below meth c 3 (some (.int r)) μf μ 0 [(0, .ref (G.ad 82)), (1, .int x1), (2, .int x2)] [] := by
  unfold f_X8_at at hF
  refine x_aload_n C 0 dX8_at_0 rfl rfl ?_
  refine x_iload_n C 1 dX8_at_1 rfl rfl ?_
  obtain ⟨q1, hq1, hF⟩ := f_bind hF
  refine x_cVi (rest := []) C (c_X8_noNote l C.2.2.2.2.2.2.2.2 x1 μ hq1) cw_X8_239 sh_82 rfl rfl ⟨by decide, by decide⟩ rfl rfl (Nat.le_of_ble_eq_true rfl) dX8_at_2 ?_
  refine x_if_eq (tgt := 12) C dX8_at_5 (by decide) (fun hc => ?_) (fun hc => ?_)
  · replace hF := f_t hc hF
    refine x_aload_n C 0 dX8_at_12 rfl rfl ?_
    refine x_iconst (v := 4) C dX8_at_13 (by decide) ?_
    refine x_putI C fc_X8 fl_X8_53 sh_82 (by decide) rfl rfl rfl ⟨rfl, rfl⟩ dX8_at_14 ?_
    refine x_letM hF (fun μ2 hF => ?_)
    refine x_iload_n C 2 dX8_at_17 rfl rfl ?_
    refine x_i2l C dX8_at_18 ?_
    refine x_lconst (v := 0) C dX8_at_19 (by decide) ?_
    refine x_aload_n C 0 dX8_at_20 rfl rfl ?_
    refine x_iload_n C 1 dX8_at_21 rfl rfl ?_
    obtain ⟨q3, hq3, hF⟩ := f_bind hF
    refine x_cVi (rest := [.long 0, .long ((x2 : Int32).toInt64)]) C (c_X8_sizeOf l C.2.2.2.2.2.2.2.2 x1 μ2 hq3) cw_X8_164 sh_82 rfl rfl ⟨by decide, by decide⟩ rfl rfl (Nat.le_of_ble_eq_true rfl) dX8_at_22 ?_
    refine x_iconst (v := 1) C dX8_at_25 (by decide) ?_
    refine x_isub C dX8_at_26 ?_
    refine x_i2l C dX8_at_27 ?_
    refine x_cSi (rest := []) C (c_X8_in l C.2.2.2.2.2.2.2.2 ((x2 : Int32).toInt64) 0 ((q3 - 1 : Int32).toInt64) μ2) cw_X8_127 ⟨by decide, by decide⟩ rfl rfl (Nat.le_of_ble_eq_true rfl) dX8_at_28 ?_
    refine x_if_eq (tgt := 43) C dX8_at_31 (by decide) (fun hc => ?_) (fun hc => ?_)
    · replace hF := f_t hc hF
      refine x_iconst (v := (-1)) C dX8_at_43 (by decide) ?_
      exact x_iret C dX8_at_44 (Prod.mk.inj (Option.some.inj hF)).1 (Prod.mk.inj (Option.some.inj hF)).2
    · replace hF := f_f hc hF
      refine x_aload_n C 0 dX8_at_34 rfl rfl ?_
      refine x_iload_n C 1 dX8_at_35 rfl rfl ?_
      refine x_iload_n C 2 dX8_at_36 rfl rfl ?_
      obtain ⟨q4, hq4, hF⟩ := f_bind hF
      refine x_cVi (rest := []) C (c_X8_callAt l C.2.2.2.2.2.2.2.2 x1 x2 μ2 hq4) cw_X8_167 sh_82 rfl rfl ⟨by decide, by decide⟩ rfl rfl (Nat.le_of_ble_eq_true rfl) dX8_at_37 ?_
      refine x_goto (tgt := 44) C dX8_at_40 (by decide) ?_
      exact x_iret C dX8_at_44 (Prod.mk.inj (Option.some.inj hF)).1 (Prod.mk.inj (Option.some.inj hF)).2
  · replace hF := f_f hc hF
    refine x_sipush (v := (-1001)) C dX8_at_8 (by decide) ?_
    exact x_iret C dX8_at_11 (Prod.mk.inj (Option.some.inj hF)).1 (Prod.mk.inj (Option.some.inj hF)).2
set_option maxHeartbeats 4000000 in
theorem c_X8_at {G : Gl} (l : Launch) (hA : Ap G) {r : Int32} {μf : Mu}  (x1 : Int32) (x2 : Int32) (μ : Mu) (hF : f_X8_at x1 x2 μ = some (r, μf)) : Mth G l yX8_at cX8_at 3 (some .int) 2 46 [.ref (G.ad 82), .int x1, .int x2] (some (.int r)) μf μ := Mth.of hA (by decide) rfl (Nat.le_of_ble_eq_true rfl) (fun p e s0 m args below meth c C => w_X8_at C x1 x2 μ hF)
set_option maxHeartbeats 4000000 in
theorem w_X8_atFirst {G : Gl} {p : Program} {l : Launch} {e : Env} {s0 : State} {m : MethodId} {args : Array Value} {below : List Frame} {meth : Method} {c : Code} (C : Cx G p s0 m args meth c cX8_atFirst 1 RX8 (some .int)) {r : Int32}  (x0 : Int32) (μ : Mu) (hF : f_X8_atFirst x0 = r) : X G p l e 0 0 s0 m args below meth c 1 (some (.int r)) μ μ 0 [(0, .int x0)] [] := by
  unfold f_X8_atFirst at hF
  refine x_iload_n C 0 dX8_atFirst_0 rfl rfl ?_
  refine x_iconst (v := 2) C dX8_atFirst_1 (by decide) ?_
  refine x_icmp_ne (tgt := 9) C dX8_atFirst_2 (by decide) (fun hc => ?_) (fun hc => ?_)
  · replace hF := f_f hc hF
    refine x_iload_n C 0 dX8_atFirst_9 rfl rfl ?_
    refine x_iconst (v := 3) C dX8_atFirst_10 (by decide) ?_
    refine x_icmp_eq (tgt := 25) C dX8_atFirst_11 (by decide) (fun hc => ?_) (fun hc => ?_)
    · replace hF := f_t hc hF
      refine x_iconst (v := 1) C dX8_atFirst_25 (by decide) ?_
      refine x_goto (tgt := 30) C dX8_atFirst_26 (by decide) ?_
      exact x_iret C dX8_atFirst_30 hF rfl
    · replace hF := f_f hc hF
      refine x_iload_n C 0 dX8_atFirst_14 rfl rfl ?_
      refine x_iconst (v := 4) C dX8_atFirst_15 (by decide) ?_
      refine x_icmp_eq (tgt := 25) C dX8_atFirst_16 (by decide) (fun hc => ?_) (fun hc => ?_)
      · replace hF := f_t hc hF
        refine x_iconst (v := 1) C dX8_atFirst_25 (by decide) ?_
        refine x_goto (tgt := 30) C dX8_atFirst_26 (by decide) ?_
        exact x_iret C dX8_atFirst_30 hF rfl
      · replace hF := f_f hc hF
        refine x_iload_n C 0 dX8_atFirst_19 rfl rfl ?_
        refine x_bipush (v := 7) C dX8_atFirst_20 (by decide) ?_
        refine x_icmp_ne (tgt := 29) C dX8_atFirst_22 (by decide) (fun hc => ?_) (fun hc => ?_)
        · replace hF := f_f hc hF
          refine x_iconst (v := 0) C dX8_atFirst_29 (by decide) ?_
          exact x_iret C dX8_atFirst_30 hF rfl
        · replace hF := f_t hc hF
          refine x_iconst (v := 1) C dX8_atFirst_25 (by decide) ?_
          refine x_goto (tgt := 30) C dX8_atFirst_26 (by decide) ?_
          exact x_iret C dX8_atFirst_30 hF rfl
  · replace hF := f_t hc hF
    refine x_iconst (v := 3) C dX8_atFirst_5 (by decide) ?_
    refine x_goto (tgt := 30) C dX8_atFirst_6 (by decide) ?_
    exact x_iret C dX8_atFirst_30 hF rfl
set_option maxHeartbeats 4000000 in
theorem c_X8_atFirst {G : Gl} (l : Launch) (hA : Ap G) (x0 : Int32) (μ : Mu) : Mth G l yX8_atFirst cX8_atFirst 1 (some .int) 0 0 [.int x0] (some (.int (f_X8_atFirst x0))) μ μ := Mth.of hA (by decide) rfl (Nat.le_of_ble_eq_true rfl) (fun p e s0 m args below meth c C => w_X8_atFirst C x0 μ rfl)
set_option maxHeartbeats 4000000 in
theorem w_X8_isName {G : Gl} {p : Program} {l : Launch} {e : Env} {s0 : State} {m : MethodId} {args : Array Value} {below : List Frame} {meth : Method} {c : Code} (C : Cx G p s0 m args meth c cX8_isName 3 RX8 (some .boolean)) {r : Int32}  (x0 : Int32) (x1 : Int32) (x2 : Int32) (μ : Mu) (hF : f_X8_isName x0 x1 x2 = r) : X G p l e 1 25 s0 m args below meth c 3 (some (.int r)) μ μ 0 [(0, .int x0), (1, .int x1), (2, .int x2)] [] := by
  unfold f_X8_isName at hF
  refine x_iload_n C 0 dX8_isName_0 rfl rfl ?_
  refine x_i2l C dX8_isName_1 ?_
  refine x_lconst (v := 0) C dX8_isName_2 (by decide) ?_
  refine x_ldc2 C cl_X8_131 dX8_isName_3 ?_
  refine x_cSi (rest := []) C (c_X8_in l C.2.2.2.2.2.2.2.2 ((x0 : Int32).toInt64) 0 49 μ) cw_X8_127 ⟨by decide, by decide⟩ rfl rfl (Nat.le_of_ble_eq_true rfl) dX8_isName_6 ?_
  refine x_if_eq (tgt := 48) C dX8_isName_9 (by decide) (fun hc => ?_) (fun hc => ?_)
  · replace hF := f_t hc hF
    refine x_iconst (v := 0) C dX8_isName_48 (by decide) ?_
    exact x_zret C dX8_isName_49 (by decide) hF rfl
  · replace hF := f_f hc hF
    refine x_iload_n C 1 dX8_isName_12 rfl rfl ?_
    refine x_i2l C dX8_isName_13 ?_
    refine x_lconst (v := 0) C dX8_isName_14 (by decide) ?_
    refine x_ldc2 C cl_X8_133 dX8_isName_15 ?_
    refine x_cSi (rest := []) C (c_X8_in l C.2.2.2.2.2.2.2.2 ((x1 : Int32).toInt64) 0 26 μ) cw_X8_127 ⟨by decide, by decide⟩ rfl rfl (Nat.le_of_ble_eq_true rfl) dX8_isName_18 ?_
    refine x_if_eq (tgt := 48) C dX8_isName_21 (by decide) (fun hc => ?_) (fun hc => ?_)
    · replace hF := f_t hc hF
      refine x_iconst (v := 0) C dX8_isName_48 (by decide) ?_
      exact x_zret C dX8_isName_49 (by decide) hF rfl
    · replace hF := f_f hc hF
      refine x_iload_n C 2 dX8_isName_24 rfl rfl ?_
      refine x_i2l C dX8_isName_25 ?_
      refine x_lconst (v := 0) C dX8_isName_26 (by decide) ?_
      refine x_iload_n C 1 dX8_isName_27 rfl rfl ?_
      refine x_if_ne (tgt := 35) C dX8_isName_28 (by decide) (fun hc => ?_) (fun hc => ?_)
      · replace hF := f_f hc hF
        refine x_ldc2 C cl_X8_133 dX8_isName_35 ?_
        refine x_cSi (rest := []) C (c_X8_in l C.2.2.2.2.2.2.2.2 ((x2 : Int32).toInt64) 0 26 μ) cw_X8_127 ⟨by decide, by decide⟩ rfl rfl (Nat.le_of_ble_eq_true rfl) dX8_isName_38 ?_
        refine x_if_eq (tgt := 48) C dX8_isName_41 (by decide) (fun hc => ?_) (fun hc => ?_)
        · replace hF := f_t hc hF
          refine x_iconst (v := 0) C dX8_isName_48 (by decide) ?_
          exact x_zret C dX8_isName_49 (by decide) hF rfl
        · replace hF := f_f hc hF
          refine x_iconst (v := 1) C dX8_isName_44 (by decide) ?_
          refine x_goto (tgt := 49) C dX8_isName_45 (by decide) ?_
          exact x_zret C dX8_isName_49 (by decide) hF rfl
      · replace hF := f_t hc hF
        refine x_lconst (v := 0) C dX8_isName_31 (by decide) ?_
        refine x_goto (tgt := 38) C dX8_isName_32 (by decide) ?_
        refine x_cSi (rest := []) C (c_X8_in l C.2.2.2.2.2.2.2.2 ((x2 : Int32).toInt64) 0 0 μ) cw_X8_127 ⟨by decide, by decide⟩ rfl rfl (Nat.le_of_ble_eq_true rfl) dX8_isName_38 ?_
        refine x_if_eq (tgt := 48) C dX8_isName_41 (by decide) (fun hc => ?_) (fun hc => ?_)
        · replace hF := f_t hc hF
          refine x_iconst (v := 0) C dX8_isName_48 (by decide) ?_
          exact x_zret C dX8_isName_49 (by decide) hF rfl
        · replace hF := f_f hc hF
          refine x_iconst (v := 1) C dX8_isName_44 (by decide) ?_
          refine x_goto (tgt := 49) C dX8_isName_45 (by decide) ?_
          exact x_zret C dX8_isName_49 (by decide) hF rfl
set_option maxHeartbeats 4000000 in
theorem c_X8_isName {G : Gl} (l : Launch) (hA : Ap G) (x0 : Int32) (x1 : Int32) (x2 : Int32) (μ : Mu) : Mth G l yX8_isName cX8_isName 3 (some .boolean) 1 25 [.int x0, .int x1, .int x2] (some (.int (f_X8_isName x0 x1 x2))) μ μ := Mth.of hA (by decide) rfl (Nat.le_of_ble_eq_true rfl) (fun p e s0 m args below meth c C => w_X8_isName C x0 x1 x2 μ rfl)
set_option maxHeartbeats 4000000 in
theorem w_X8_name {G : Gl} {p : Program} {l : Launch} {e : Env} {s0 : State} {m : MethodId} {args : Array Value} {below : List Frame} {meth : Method} {c : Code} (C : Cx G p s0 m args meth c cX8_name 6 RX8 none) {μf : Mu}  (x1 : Int32) (x2 : Int32) (x3 : Int32) (x4 : Int32) (μ : Mu) (hF : f_X8_name x1 x2 x3 x4 μ = some μf) : X G p l e 0 0 s0 m args below meth c 6 none μf μ 0 [(0, .ref (G.ad 82)), (1, .int x1), (2, .int x2), (3, .int x3), (4, .int x4)] [] := by
  unfold f_X8_name at hF
  refine x_iconst (v := 4) C dX8_name_0 (by decide) ?_
  refine x_iload_n C 1 dX8_name_1 rfl rfl ?_
  refine x_imul C dX8_name_2 ?_
  refine x_aload_n C 0 dX8_name_3 rfl rfl ?_
  refine x_getR C fc_X8 fl_X8_7 sh_82 (by decide) rfl dX8_name_4 ?_
  refine x_iload_n C 1 dX8_name_7 rfl rfl ?_
  obtain ⟨hi1, hF⟩ := f_chk hF
  refine x_iald C sh_83 hi1 dX8_name_8 ?_
  refine x_iadd C dX8_name_9 ?_
  refine x_letI hF (fun y2 hF => ?_)
  refine x_istore C [(5, .int y2), (0, .ref (G.ad 82)), (1, .int x1), (2, .int x2), (3, .int x3), (4, .int x4)] dX8_name_10 (by decide) rfl ?_
  refine x_aload_n C 1 dX8_name_12 rfl rfl ?_
  refine x_getR C fc_X8 fl_X8_13 sh_82 (by decide) rfl dX8_name_13 ?_
  refine x_iload C 0 dX8_name_16 rfl ?_
  refine x_iload_n C 3 dX8_name_18 rfl rfl ?_
  obtain ⟨hi3, hF⟩ := f_chk hF
  refine x_iast C sh_84 hi3 dX8_name_19 ?_
  refine x_letM hF (fun μ4 hF => ?_)
  refine x_aload_n C 1 dX8_name_20 rfl rfl ?_
  refine x_getR C fc_X8 fl_X8_16 sh_82 (by decide) rfl dX8_name_21 ?_
  refine x_iload C 0 dX8_name_24 rfl ?_
  refine x_iload_n C 4 dX8_name_26 rfl rfl ?_
  refine x_iast C sh_85 hi3 dX8_name_27 ?_
  refine x_letM hF (fun μ5 hF => ?_)
  refine x_aload_n C 1 dX8_name_28 rfl rfl ?_
  refine x_getR C fc_X8 fl_X8_19 sh_82 (by decide) rfl dX8_name_29 ?_
  refine x_iload C 0 dX8_name_32 rfl ?_
  refine x_iload C 5 dX8_name_34 rfl ?_
  refine x_iast C sh_86 hi3 dX8_name_36 ?_
  refine x_letM hF (fun μ6 hF => ?_)
  refine x_aload_n C 1 dX8_name_37 rfl rfl ?_
  refine x_getR C fc_X8 fl_X8_7 sh_82 (by decide) rfl dX8_name_38 ?_
  refine x_iload_n C 2 dX8_name_41 rfl rfl ?_
  refine x_dup2 C dX8_name_42 rfl rfl ?_
  refine x_iald C sh_83 hi1 dX8_name_43 ?_
  refine x_iconst (v := 1) C dX8_name_44 (by decide) ?_
  refine x_iadd C dX8_name_45 ?_
  refine x_iast C sh_83 hi1 dX8_name_46 ?_
  refine x_letM hF (fun μ7 hF => ?_)
  exact x_vret C dX8_name_47 (Option.some.inj hF)
set_option maxHeartbeats 4000000 in
theorem c_X8_name {G : Gl} (l : Launch) (hA : Ap G) {μf : Mu}  (x1 : Int32) (x2 : Int32) (x3 : Int32) (x4 : Int32) (μ : Mu) (hF : f_X8_name x1 x2 x3 x4 μ = some μf) : Mth G l yX8_name cX8_name 6 none 0 0 [.ref (G.ad 82), .int x1, .int x2, .int x3, .int x4] none μf μ := Mth.of hA (by decide) rfl (Nat.le_of_ble_eq_true rfl) (fun p e s0 m args below meth c C => w_X8_name C x1 x2 x3 x4 μ hF)
set_option maxHeartbeats 4000000 in
theorem w_X8_author {G : Gl} {p : Program} {l : Launch} {e : Env} {s0 : State} {m : MethodId} {args : Array Value} {below : List Frame} {meth : Method} {c : Code} (C : Cx G p s0 m args meth c cX8_author 5 RX8 (some .int)) {r : Int32} {μf : Mu}  (x1 : Int32) (x2 : Int32) (x3 : Int32) (x4 : Int32) (μ : Mu) (hF : f_X8_author x1 x2 x3 x4 μ = some (r, μf)) : X G p l e 2 47 s0 m args below meth c 5 (some (.int r)) μf μ 0 [(0, .ref (G.ad 82)), (1, .int x1), (2, .int x2), (3, .int x3), (4, .int x4)] [] := by
  unfold f_X8_author at hF
  refine x_aload_n C 0 dX8_author_0 rfl rfl ?_
  refine x_iload_n C 1 dX8_author_1 rfl rfl ?_
  refine x_cVi (rest := []) C (c_X8_noWork l C.2.2.2.2.2.2.2.2 x1 μ) cw_X8_147 sh_82 rfl rfl ⟨by decide, by decide⟩ rfl rfl (Nat.le_of_ble_eq_true rfl) dX8_author_2 ?_
  refine x_if_eq (tgt := 12) C dX8_author_5 (by decide) (fun hc => ?_) (fun hc => ?_)
  · replace hF := f_t hc hF
    refine x_iload_n C 2 dX8_author_12 rfl rfl ?_
    refine x_iload_n C 3 dX8_author_13 rfl rfl ?_
    refine x_iload C 4 dX8_author_14 rfl ?_
    refine x_cSi (rest := []) C (c_X8_isName l C.2.2.2.2.2.2.2.2 x2 x3 x4 μ) cw_X8_135 ⟨by decide, by decide⟩ rfl rfl (Nat.le_of_ble_eq_true rfl) dX8_author_16 ?_
    refine x_if_ne (tgt := 26) C dX8_author_19 (by decide) (fun hc => ?_) (fun hc => ?_)
    · replace hF := f_f hc hF
      refine x_aload_n C 0 dX8_author_26 rfl rfl ?_
      refine x_getR C fc_X8 fl_X8_7 sh_82 (by decide) rfl dX8_author_27 ?_
      refine x_iload_n C 1 dX8_author_30 rfl rfl ?_
      obtain ⟨hi1, hF⟩ := f_chk hF
      refine x_iald C sh_83 hi1 dX8_author_31 ?_
      refine x_iconst (v := 4) C dX8_author_32 (by decide) ?_
      refine x_icmp_ne (tgt := 40) C dX8_author_33 (by decide) (fun hc => ?_) (fun hc => ?_)
      · replace hF := f_f hc hF
        refine x_aload_n C 0 dX8_author_40 rfl rfl ?_
        refine x_iload_n C 1 dX8_author_41 rfl rfl ?_
        refine x_iload_n C 2 dX8_author_42 rfl rfl ?_
        refine x_iload_n C 3 dX8_author_43 rfl rfl ?_
        refine x_iload C 4 dX8_author_44 rfl ?_
        obtain ⟨q2, hq2, hF⟩ := f_bind hF
        refine x_cVv (rest := []) C (c_X8_name l C.2.2.2.2.2.2.2.2 x1 x2 x3 x4 μ hq2) cw_X8_143 sh_82 rfl rfl ⟨by decide, by decide⟩ rfl rfl (Nat.le_of_ble_eq_true rfl) dX8_author_46 ?_
        refine x_aload_n C 0 dX8_author_49 rfl rfl ?_
        refine x_getR C fc_X8 fl_X8_7 sh_82 (by decide) rfl dX8_author_50 ?_
        refine x_iload_n C 1 dX8_author_53 rfl rfl ?_
        refine x_iald C sh_83 hi1 dX8_author_54 ?_
        exact x_iret C dX8_author_55 (Prod.mk.inj (Option.some.inj hF)).1 (Prod.mk.inj (Option.some.inj hF)).2
      · replace hF := f_t hc hF
        refine x_sipush (v := (-1004)) C dX8_author_36 (by decide) ?_
        exact x_iret C dX8_author_39 (Prod.mk.inj (Option.some.inj hF)).1 (Prod.mk.inj (Option.some.inj hF)).2
    · replace hF := f_t hc hF
      refine x_sipush (v := (-1002)) C dX8_author_22 (by decide) ?_
      exact x_iret C dX8_author_25 (Prod.mk.inj (Option.some.inj hF)).1 (Prod.mk.inj (Option.some.inj hF)).2
  · replace hF := f_f hc hF
    refine x_sipush (v := (-1001)) C dX8_author_8 (by decide) ?_
    exact x_iret C dX8_author_11 (Prod.mk.inj (Option.some.inj hF)).1 (Prod.mk.inj (Option.some.inj hF)).2
set_option maxHeartbeats 4000000 in
theorem c_X8_author {G : Gl} (l : Launch) (hA : Ap G) {r : Int32} {μf : Mu}  (x1 : Int32) (x2 : Int32) (x3 : Int32) (x4 : Int32) (μ : Mu) (hF : f_X8_author x1 x2 x3 x4 μ = some (r, μf)) : Mth G l yX8_author cX8_author 5 (some .int) 2 47 [.ref (G.ad 82), .int x1, .int x2, .int x3, .int x4] (some (.int r)) μf μ := Mth.of hA (by decide) rfl (Nat.le_of_ble_eq_true rfl) (fun p e s0 m args below meth c C => w_X8_author C x1 x2 x3 x4 μ hF)
set_option maxHeartbeats 4000000 in
theorem w_X8_noVersion {G : Gl} {p : Program} {l : Launch} {e : Env} {s0 : State} {m : MethodId} {args : Array Value} {below : List Frame} {meth : Method} {c : Code} (C : Cx G p s0 m args meth c cX8_noVersion 2 RX8 (some .boolean)) {r : Int32}  (x1 : Int32) (μ : Mu) (hF : f_X8_noVersion x1 μ = some r) : X G p l e 1 25 s0 m args below meth c 2 (some (.int r)) μ μ 0 [(0, .ref (G.ad 82)), (1, .int x1)] [] := by
  unfold f_X8_noVersion at hF
  refine x_iload_n C 1 dX8_noVersion_0 rfl rfl ?_
  refine x_i2l C dX8_noVersion_1 ?_
  refine x_lconst (v := 0) C dX8_noVersion_2 (by decide) ?_
  refine x_ldc2 C cl_X8_319 dX8_noVersion_3 ?_
  refine x_cSi (rest := []) C (c_X8_in l C.2.2.2.2.2.2.2.2 ((x1 : Int32).toInt64) 0 3 μ) cw_X8_127 ⟨by decide, by decide⟩ rfl rfl (Nat.le_of_ble_eq_true rfl) dX8_noVersion_6 ?_
  refine x_if_eq (tgt := 21) C dX8_noVersion_9 (by decide) (fun hc => ?_) (fun hc => ?_)
  · replace hF := f_t hc hF
    refine x_iconst (v := 1) C dX8_noVersion_21 (by decide) ?_
    refine x_goto (tgt := 26) C dX8_noVersion_22 (by decide) ?_
    exact x_zret C dX8_noVersion_26 (by decide) (Option.some.inj hF) rfl
  · replace hF := f_f hc hF
    refine x_aload_n C 0 dX8_noVersion_12 rfl rfl ?_
    refine x_getR C fc_X8 fl_X8_49 sh_82 (by decide) rfl dX8_noVersion_13 ?_
    refine x_iload_n C 1 dX8_noVersion_16 rfl rfl ?_
    obtain ⟨hi1, hF⟩ := f_chk hF
    refine x_zald C sh_96 hi1 dX8_noVersion_17 ?_
    refine x_if_ne (tgt := 25) C dX8_noVersion_18 (by decide) (fun hc => ?_) (fun hc => ?_)
    · replace hF := f_f hc hF
      refine x_iconst (v := 0) C dX8_noVersion_25 (by decide) ?_
      exact x_zret C dX8_noVersion_26 (by decide) (Option.some.inj hF) rfl
    · replace hF := f_t hc hF
      refine x_iconst (v := 1) C dX8_noVersion_21 (by decide) ?_
      refine x_goto (tgt := 26) C dX8_noVersion_22 (by decide) ?_
      exact x_zret C dX8_noVersion_26 (by decide) (Option.some.inj hF) rfl
set_option maxHeartbeats 4000000 in
theorem c_X8_noVersion {G : Gl} (l : Launch) (hA : Ap G) {r : Int32}  (x1 : Int32) (μ : Mu) (hF : f_X8_noVersion x1 μ = some r) : Mth G l yX8_noVersion cX8_noVersion 2 (some .boolean) 1 25 [.ref (G.ad 82), .int x1] (some (.int r)) μ μ := Mth.of hA (by decide) rfl (Nat.le_of_ble_eq_true rfl) (fun p e s0 m args below meth c C => w_X8_noVersion C x1 μ hF)
set_option maxHeartbeats 4000000 in
theorem w_X8_copySlot_L81 {G : Gl} {p : Program} {l : Launch} {e : Env} {s0 : State} {m : MethodId} {args : Array Value} {below : List Frame} {meth : Method} {c : Code} (C : Cx G p s0 m args meth c cX8_copySlot 5 RX8 none) {μf : Mu}  {k50 : Int32 → Int32 → Int32 → Mu → Option (Mu)} (hk50 : ∀ (x1 : Int32) (x2 : Int32) (x3 : Int32) (μ : Mu), k50 x1 x2 x3 μ = some μf → X G p l e 0 0 s0 m args below meth c 5 none μf μ 50 [(0, .ref (G.ad 82)), (1, .int x1), (2, .int x2), (3, .int x3)] []) : ∀ (n : Nat) (x1 : Int32) (x2 : Int32) (x3 : Int32) (x4 : Int32) (μ : Mu), f_X8_copySlot_L81 k50 n x1 x2 x3 x4 μ = some μf → X G p l e 0 0 s0 m args below meth c 5 none μf μ 81 [(0, .ref (G.ad 82)), (1, .int x1), (2, .int x2), (3, .int x3), (4, .int x4)] [] := by
  intro n
  induction n with
  | zero =>
    intro x1 x2 x3 x4 μ hF
    rw [f_X8_copySlot_L81] at hF
    cases hF
  | succ n ih =>
    intro x1 x2 x3 x4 μ hF
    rw [f_X8_copySlot_L81] at hF
    refine x_iload C 4 dX8_copySlot_81 rfl ?_
    refine x_iconst (v := 5) C dX8_copySlot_83 (by decide) ?_
    refine x_icmp_ge (tgt := 125) C dX8_copySlot_84 (by decide) (fun hc => ?_) (fun hc => ?_)
    · replace hF := f_t hc hF
      refine x_iinc C [(3, .int (x3 + 1)), (0, .ref (G.ad 82)), (1, .int x1), (2, .int x2), (4, .int x4)] 3 dX8_copySlot_125 rfl rfl (by decide) rfl ?_
      refine x_goto (tgt := 50) C dX8_copySlot_128 (by decide) ?_
      exact x_pick [(0, .ref (G.ad 82)), (1, .int x1), (2, .int x2), (3, .int (x3 + 1))] [1, 2, 3, 0] rfl (hk50 x1 x2 (x3 + 1) μ hF)
    · replace hF := f_f hc hF
      refine x_aload_n C 0 dX8_copySlot_87 rfl rfl ?_
      refine x_getR C fc_X8 fl_X8_43 sh_82 (by decide) rfl dX8_copySlot_88 ?_
      refine x_iconst (v := 5) C dX8_copySlot_91 (by decide) ?_
      refine x_bipush (v := 40) C dX8_copySlot_92 (by decide) ?_
      refine x_iload_n C 2 dX8_copySlot_94 rfl rfl ?_
      refine x_imul C dX8_copySlot_95 ?_
      refine x_iload_n C 3 dX8_copySlot_96 rfl rfl ?_
      refine x_iadd C dX8_copySlot_97 ?_
      refine x_imul C dX8_copySlot_98 ?_
      refine x_iload C 4 dX8_copySlot_99 rfl ?_
      refine x_iadd C dX8_copySlot_101 ?_
      refine x_aload_n C 0 dX8_copySlot_102 rfl rfl ?_
      refine x_getR C fc_X8 fl_X8_43 sh_82 (by decide) rfl dX8_copySlot_103 ?_
      refine x_iconst (v := 5) C dX8_copySlot_106 (by decide) ?_
      refine x_bipush (v := 40) C dX8_copySlot_107 (by decide) ?_
      refine x_iload_n C 1 dX8_copySlot_109 rfl rfl ?_
      refine x_imul C dX8_copySlot_110 ?_
      refine x_iload_n C 3 dX8_copySlot_111 rfl rfl ?_
      refine x_iadd C dX8_copySlot_112 ?_
      refine x_imul C dX8_copySlot_113 ?_
      refine x_iload C 4 dX8_copySlot_114 rfl ?_
      refine x_iadd C dX8_copySlot_116 ?_
      obtain ⟨hi1, hF⟩ := f_chk hF
      refine x_iald C sh_94 hi1 dX8_copySlot_117 ?_
      obtain ⟨hi2, hF⟩ := f_chk hF
      refine x_iast C sh_94 hi2 dX8_copySlot_118 ?_
      refine x_letM hF (fun μ3 hF => ?_)
      refine x_iinc C [(4, .int (x4 + 1)), (0, .ref (G.ad 82)), (1, .int x1), (2, .int x2), (3, .int x3)] 4 dX8_copySlot_119 rfl rfl (by decide) rfl ?_
      refine x_goto (tgt := 81) C dX8_copySlot_122 (by decide) ?_
      exact x_pick [(0, .ref (G.ad 82)), (1, .int x1), (2, .int x2), (3, .int x3), (4, .int (x4 + 1))] [1, 2, 3, 4, 0] rfl (ih x1 x2 x3 (x4 + 1) μ3 hF)
set_option maxHeartbeats 4000000 in
theorem w_X8_copySlot_L133 {G : Gl} {p : Program} {l : Launch} {e : Env} {s0 : State} {m : MethodId} {args : Array Value} {below : List Frame} {meth : Method} {c : Code} (C : Cx G p s0 m args meth c cX8_copySlot 5 RX8 none) {μf : Mu}  : ∀ (n : Nat) (x1 : Int32) (x2 : Int32) (x3 : Int32) (μ : Mu), f_X8_copySlot_L133 n x1 x2 x3 μ = some μf → X G p l e 0 0 s0 m args below meth c 5 none μf μ 133 [(0, .ref (G.ad 82)), (1, .int x1), (2, .int x2), (3, .int x3)] [] := by
  intro n
  induction n with
  | zero =>
    intro x1 x2 x3 μ hF
    rw [f_X8_copySlot_L133] at hF
    cases hF
  | succ n ih =>
    intro x1 x2 x3 μ hF
    rw [f_X8_copySlot_L133] at hF
    refine x_iload_n C 3 dX8_copySlot_133 rfl rfl ?_
    refine x_bipush (v := 10) C dX8_copySlot_134 (by decide) ?_
    refine x_icmp_ge (tgt := 167) C dX8_copySlot_136 (by decide) (fun hc => ?_) (fun hc => ?_)
    · replace hF := f_t hc hF
      exact x_vret C dX8_copySlot_167 (Option.some.inj hF)
    · replace hF := f_f hc hF
      refine x_aload_n C 0 dX8_copySlot_139 rfl rfl ?_
      refine x_getR C fc_X8 fl_X8_46 sh_82 (by decide) rfl dX8_copySlot_140 ?_
      refine x_bipush (v := 10) C dX8_copySlot_143 (by decide) ?_
      refine x_iload_n C 2 dX8_copySlot_145 rfl rfl ?_
      refine x_imul C dX8_copySlot_146 ?_
      refine x_iload_n C 3 dX8_copySlot_147 rfl rfl ?_
      refine x_iadd C dX8_copySlot_148 ?_
      refine x_aload_n C 0 dX8_copySlot_149 rfl rfl ?_
      refine x_getR C fc_X8 fl_X8_46 sh_82 (by decide) rfl dX8_copySlot_150 ?_
      refine x_bipush (v := 10) C dX8_copySlot_153 (by decide) ?_
      refine x_iload_n C 1 dX8_copySlot_155 rfl rfl ?_
      refine x_imul C dX8_copySlot_156 ?_
      refine x_iload_n C 3 dX8_copySlot_157 rfl rfl ?_
      refine x_iadd C dX8_copySlot_158 ?_
      obtain ⟨hi1, hF⟩ := f_chk hF
      refine x_iald C sh_95 hi1 dX8_copySlot_159 ?_
      obtain ⟨hi2, hF⟩ := f_chk hF
      refine x_iast C sh_95 hi2 dX8_copySlot_160 ?_
      refine x_letM hF (fun μ3 hF => ?_)
      refine x_iinc C [(3, .int (x3 + 1)), (0, .ref (G.ad 82)), (1, .int x1), (2, .int x2)] 3 dX8_copySlot_161 rfl rfl (by decide) rfl ?_
      refine x_goto (tgt := 133) C dX8_copySlot_164 (by decide) ?_
      exact x_pick [(0, .ref (G.ad 82)), (1, .int x1), (2, .int x2), (3, .int (x3 + 1))] [1, 2, 3, 0] rfl (ih x1 x2 (x3 + 1) μ3 hF)
set_option maxHeartbeats 4000000 in
theorem w_X8_copySlot_L50 {G : Gl} {p : Program} {l : Launch} {e : Env} {s0 : State} {m : MethodId} {args : Array Value} {below : List Frame} {meth : Method} {c : Code} (C : Cx G p s0 m args meth c cX8_copySlot 5 RX8 none) {μf : Mu}  : ∀ (n : Nat) (x1 : Int32) (x2 : Int32) (x3 : Int32) (μ : Mu), f_X8_copySlot_L50 n x1 x2 x3 μ = some μf → X G p l e 0 0 s0 m args below meth c 5 none μf μ 50 [(0, .ref (G.ad 82)), (1, .int x1), (2, .int x2), (3, .int x3)] [] := by
  intro n
  induction n with
  | zero =>
    intro x1 x2 x3 μ hF
    rw [f_X8_copySlot_L50] at hF
    cases hF
  | succ n ih =>
    intro x1 x2 x3 μ hF
    rw [f_X8_copySlot_L50] at hF
    refine x_iload_n C 3 dX8_copySlot_50 rfl rfl ?_
    refine x_bipush (v := 40) C dX8_copySlot_51 (by decide) ?_
    refine x_icmp_ge (tgt := 131) C dX8_copySlot_53 (by decide) (fun hc => ?_) (fun hc => ?_)
    · replace hF := f_t hc hF
      refine x_iconst (v := 0) C dX8_copySlot_131 (by decide) ?_
      refine x_istore_n C [(3, .int 0), (0, .ref (G.ad 82)), (1, .int x1), (2, .int x2)] dX8_copySlot_132 rfl (by decide) rfl ?_
      exact x_pick [(0, .ref (G.ad 82)), (1, .int x1), (2, .int x2), (3, .int 0)] [1, 2, 3, 0] rfl (w_X8_copySlot_L133 C fu x1 x2 0 μ hF)
    · replace hF := f_f hc hF
      refine x_aload_n C 0 dX8_copySlot_56 rfl rfl ?_
      refine x_getR C fc_X8 fl_X8_40 sh_82 (by decide) rfl dX8_copySlot_57 ?_
      refine x_bipush (v := 40) C dX8_copySlot_60 (by decide) ?_
      refine x_iload_n C 2 dX8_copySlot_62 rfl rfl ?_
      refine x_imul C dX8_copySlot_63 ?_
      refine x_iload_n C 3 dX8_copySlot_64 rfl rfl ?_
      refine x_iadd C dX8_copySlot_65 ?_
      refine x_aload_n C 0 dX8_copySlot_66 rfl rfl ?_
      refine x_getR C fc_X8 fl_X8_40 sh_82 (by decide) rfl dX8_copySlot_67 ?_
      refine x_bipush (v := 40) C dX8_copySlot_70 (by decide) ?_
      refine x_iload_n C 1 dX8_copySlot_72 rfl rfl ?_
      refine x_imul C dX8_copySlot_73 ?_
      refine x_iload_n C 3 dX8_copySlot_74 rfl rfl ?_
      refine x_iadd C dX8_copySlot_75 ?_
      obtain ⟨hi1, hF⟩ := f_chk hF
      refine x_iald C sh_93 hi1 dX8_copySlot_76 ?_
      obtain ⟨hi2, hF⟩ := f_chk hF
      refine x_iast C sh_93 hi2 dX8_copySlot_77 ?_
      refine x_letM hF (fun μ3 hF => ?_)
      refine x_iconst (v := 0) C dX8_copySlot_78 (by decide) ?_
      refine x_istore C [(4, .int 0), (0, .ref (G.ad 82)), (1, .int x1), (2, .int x2), (3, .int x3)] dX8_copySlot_79 (by decide) rfl ?_
      exact x_pick [(0, .ref (G.ad 82)), (1, .int x1), (2, .int x2), (3, .int x3), (4, .int 0)] [1, 2, 3, 4, 0] rfl (w_X8_copySlot_L81 C ih fu x1 x2 x3 0 μ3 hF)
set_option maxHeartbeats 4000000 in
theorem w_X8_copySlot_L2 {G : Gl} {p : Program} {l : Launch} {e : Env} {s0 : State} {m : MethodId} {args : Array Value} {below : List Frame} {meth : Method} {c : Code} (C : Cx G p s0 m args meth c cX8_copySlot 5 RX8 none) {μf : Mu}  : ∀ (n : Nat) (x1 : Int32) (x2 : Int32) (x3 : Int32) (μ : Mu), f_X8_copySlot_L2 n x1 x2 x3 μ = some μf → X G p l e 0 0 s0 m args below meth c 5 none μf μ 2 [(0, .ref (G.ad 82)), (1, .int x1), (2, .int x2), (3, .int x3)] [] := by
  intro n
  induction n with
  | zero =>
    intro x1 x2 x3 μ hF
    rw [f_X8_copySlot_L2] at hF
    cases hF
  | succ n ih =>
    intro x1 x2 x3 μ hF
    rw [f_X8_copySlot_L2] at hF
    refine x_iload_n C 3 dX8_copySlot_2 rfl rfl ?_
    refine x_bipush (v := 24) C dX8_copySlot_3 (by decide) ?_
    refine x_icmp_ge (tgt := 36) C dX8_copySlot_5 (by decide) (fun hc => ?_) (fun hc => ?_)
    · replace hF := f_t hc hF
      refine x_aload_n C 0 dX8_copySlot_36 rfl rfl ?_
      refine x_getR C fc_X8 fl_X8_37 sh_82 (by decide) rfl dX8_copySlot_37 ?_
      refine x_iload_n C 2 dX8_copySlot_40 rfl rfl ?_
      refine x_aload_n C 0 dX8_copySlot_41 rfl rfl ?_
      refine x_getR C fc_X8 fl_X8_37 sh_82 (by decide) rfl dX8_copySlot_42 ?_
      refine x_iload_n C 1 dX8_copySlot_45 rfl rfl ?_
      obtain ⟨hi1, hF⟩ := f_chk hF
      refine x_iald C sh_92 hi1 dX8_copySlot_46 ?_
      obtain ⟨hi2, hF⟩ := f_chk hF
      refine x_iast C sh_92 hi2 dX8_copySlot_47 ?_
      refine x_letM hF (fun μ3 hF => ?_)
      refine x_iconst (v := 0) C dX8_copySlot_48 (by decide) ?_
      refine x_istore_n C [(3, .int 0), (0, .ref (G.ad 82)), (1, .int x1), (2, .int x2)] dX8_copySlot_49 rfl (by decide) rfl ?_
      exact x_pick [(0, .ref (G.ad 82)), (1, .int x1), (2, .int x2), (3, .int 0)] [1, 2, 3, 0] rfl (w_X8_copySlot_L50 C fu x1 x2 0 μ3 hF)
    · replace hF := f_f hc hF
      refine x_aload_n C 0 dX8_copySlot_8 rfl rfl ?_
      refine x_getR C fc_X8 fl_X8_34 sh_82 (by decide) rfl dX8_copySlot_9 ?_
      refine x_bipush (v := 24) C dX8_copySlot_12 (by decide) ?_
      refine x_iload_n C 2 dX8_copySlot_14 rfl rfl ?_
      refine x_imul C dX8_copySlot_15 ?_
      refine x_iload_n C 3 dX8_copySlot_16 rfl rfl ?_
      refine x_iadd C dX8_copySlot_17 ?_
      refine x_aload_n C 0 dX8_copySlot_18 rfl rfl ?_
      refine x_getR C fc_X8 fl_X8_34 sh_82 (by decide) rfl dX8_copySlot_19 ?_
      refine x_bipush (v := 24) C dX8_copySlot_22 (by decide) ?_
      refine x_iload_n C 1 dX8_copySlot_24 rfl rfl ?_
      refine x_imul C dX8_copySlot_25 ?_
      refine x_iload_n C 3 dX8_copySlot_26 rfl rfl ?_
      refine x_iadd C dX8_copySlot_27 ?_
      obtain ⟨hi4, hF⟩ := f_chk hF
      refine x_iald C sh_91 hi4 dX8_copySlot_28 ?_
      obtain ⟨hi5, hF⟩ := f_chk hF
      refine x_iast C sh_91 hi5 dX8_copySlot_29 ?_
      refine x_letM hF (fun μ6 hF => ?_)
      refine x_iinc C [(3, .int (x3 + 1)), (0, .ref (G.ad 82)), (1, .int x1), (2, .int x2)] 3 dX8_copySlot_30 rfl rfl (by decide) rfl ?_
      refine x_goto (tgt := 2) C dX8_copySlot_33 (by decide) ?_
      exact x_pick [(0, .ref (G.ad 82)), (1, .int x1), (2, .int x2), (3, .int (x3 + 1))] [1, 2, 3, 0] rfl (ih x1 x2 (x3 + 1) μ6 hF)
set_option maxHeartbeats 4000000 in
theorem w_X8_copySlot {G : Gl} {p : Program} {l : Launch} {e : Env} {s0 : State} {m : MethodId} {args : Array Value} {below : List Frame} {meth : Method} {c : Code} (C : Cx G p s0 m args meth c cX8_copySlot 5 RX8 none) {μf : Mu}  (x1 : Int32) (x2 : Int32) (μ : Mu) (hF : f_X8_copySlot x1 x2 μ = some μf) : X G p l e 0 0 s0 m args below meth c 5 none μf μ 0 [(0, .ref (G.ad 82)), (1, .int x1), (2, .int x2)] [] := by
  unfold f_X8_copySlot at hF
  refine x_iconst (v := 0) C dX8_copySlot_0 (by decide) ?_
  refine x_istore_n C [(3, .int 0), (0, .ref (G.ad 82)), (1, .int x1), (2, .int x2)] dX8_copySlot_1 rfl (by decide) rfl ?_
  exact x_pick [(0, .ref (G.ad 82)), (1, .int x1), (2, .int x2), (3, .int 0)] [1, 2, 3, 0] rfl (w_X8_copySlot_L2 C fu x1 x2 0 μ hF)
set_option maxHeartbeats 4000000 in
theorem c_X8_copySlot {G : Gl} (l : Launch) (hA : Ap G) {μf : Mu}  (x1 : Int32) (x2 : Int32) (μ : Mu) (hF : f_X8_copySlot x1 x2 μ = some μf) : Mth G l yX8_copySlot cX8_copySlot 5 none 0 0 [.ref (G.ad 82), .int x1, .int x2] none μf μ := Mth.of hA (by decide) rfl (Nat.le_of_ble_eq_true rfl) (fun p e s0 m args below meth c C => w_X8_copySlot C x1 x2 μ hF)
