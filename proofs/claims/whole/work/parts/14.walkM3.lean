set_option maxHeartbeats 4000000 in
theorem w_X8_least_L67 {G : Gl} {p : Program} {l : Launch} {e : Env} {s0 : State} {m : MethodId} {args : Array Value} {below : List Frame} {meth : Method} {c : Code} (C : Cx G p s0 m args meth c cX8_least 5 RX8 (some .int)) {r : Int32} {μf : Mu}  {k52 : Int32 → Int32 → Mu → Option (Int32 × Mu)} (hk52 : ∀ (x1 : Int32) (x2 : Int32) (μ : Mu), k52 x1 x2 μ = some (r, μf) → X G p l e 6 141 s0 m args below meth c 5 (some (.int r)) μf μ 52 [(0, .ref (G.ad 82)), (1, .int x1), (2, .int x2)] []) {k59 : Int32 → Int32 → Int32 → Mu → Option (Int32 × Mu)} (hk59 : ∀ (x1 : Int32) (x2 : Int32) (x3 : Int32) (μ : Mu), k59 x1 x2 x3 μ = some (r, μf) → X G p l e 6 141 s0 m args below meth c 5 (some (.int r)) μf μ 59 [(0, .ref (G.ad 82)), (1, .int x1), (2, .int x2), (3, .int x3)] []) : ∀ (n : Nat) (x1 : Int32) (x2 : Int32) (x3 : Int32) (x4 : Int32) (μ : Mu), f_X8_least_L67 k52 k59 n x1 x2 x3 x4 μ = some (r, μf) → X G p l e 6 141 s0 m args below meth c 5 (some (.int r)) μf μ 67 [(0, .ref (G.ad 82)), (1, .int x1), (2, .int x2), (3, .int x3), (4, .int x4)] [] := by
  intro n
  induction n with
  | zero =>
    intro x1 x2 x3 x4 μ hF
    rw [f_X8_least_L67] at hF
    cases hF
  | succ n ih =>
    intro x1 x2 x3 x4 μ hF
    rw [f_X8_least_L67] at hF
    refine x_iload C 4 dX8_least_67 rfl ?_
    refine x_bipush (v := 8) C dX8_least_69 (by decide) ?_
    refine x_icmp_ge (tgt := 88) C dX8_least_71 (by decide) (fun hc => ?_) (fun hc => ?_)
    · replace hF := f_t hc hF
      refine x_iinc C [(3, .int (x3 + 1)), (0, .ref (G.ad 82)), (1, .int x1), (2, .int x2), (4, .int x4)] 3 dX8_least_88 rfl rfl (by decide) rfl ?_
      refine x_goto (tgt := 59) C dX8_least_91 (by decide) ?_
      exact x_pick [(0, .ref (G.ad 82)), (1, .int x1), (2, .int x2), (3, .int (x3 + 1))] [1, 2, 3, 0] rfl (hk59 x1 x2 (x3 + 1) μ hF)
    · replace hF := f_f hc hF
      refine x_aload_n C 0 dX8_least_74 rfl rfl ?_
      refine x_iload_n C 2 dX8_least_75 rfl rfl ?_
      refine x_iload_n C 3 dX8_least_76 rfl rfl ?_
      refine x_iload C 4 dX8_least_77 rfl ?_
      obtain ⟨q1, hq1, hF⟩ := f_bind hF
      refine x_cVv (rest := []) C (c_X8_tryStyle l C.2.2.2.2.2.2.2.2 x2 x3 x4 μ hq1) cw_X8_335 sh_82 rfl rfl ⟨by decide, by decide⟩ rfl rfl (Nat.le_of_ble_eq_true rfl) dX8_least_79 ?_
      refine x_iinc C [(4, .int (x4 + 1)), (0, .ref (G.ad 82)), (1, .int x1), (2, .int x2), (3, .int x3)] 4 dX8_least_82 rfl rfl (by decide) rfl ?_
      refine x_goto (tgt := 67) C dX8_least_85 (by decide) ?_
      exact x_pick [(0, .ref (G.ad 82)), (1, .int x1), (2, .int x2), (3, .int x3), (4, .int (x4 + 1))] [1, 2, 3, 4, 0] rfl (ih x1 x2 x3 (x4 + 1) q1 hF)
set_option maxHeartbeats 4000000 in
theorem w_X8_least_L59 {G : Gl} {p : Program} {l : Launch} {e : Env} {s0 : State} {m : MethodId} {args : Array Value} {below : List Frame} {meth : Method} {c : Code} (C : Cx G p s0 m args meth c cX8_least 5 RX8 (some .int)) {r : Int32} {μf : Mu}  {k52 : Int32 → Int32 → Mu → Option (Int32 × Mu)} (hk52 : ∀ (x1 : Int32) (x2 : Int32) (μ : Mu), k52 x1 x2 μ = some (r, μf) → X G p l e 6 141 s0 m args below meth c 5 (some (.int r)) μf μ 52 [(0, .ref (G.ad 82)), (1, .int x1), (2, .int x2)] []) : ∀ (n : Nat) (x1 : Int32) (x2 : Int32) (x3 : Int32) (μ : Mu), f_X8_least_L59 k52 n x1 x2 x3 μ = some (r, μf) → X G p l e 6 141 s0 m args below meth c 5 (some (.int r)) μf μ 59 [(0, .ref (G.ad 82)), (1, .int x1), (2, .int x2), (3, .int x3)] [] := by
  intro n
  induction n with
  | zero =>
    intro x1 x2 x3 μ hF
    rw [f_X8_least_L59] at hF
    cases hF
  | succ n ih =>
    intro x1 x2 x3 μ hF
    rw [f_X8_least_L59] at hF
    refine x_iload_n C 3 dX8_least_59 rfl rfl ?_
    refine x_iload_n C 2 dX8_least_60 rfl rfl ?_
    refine x_icmp_gt (tgt := 94) C dX8_least_61 (by decide) (fun hc => ?_) (fun hc => ?_)
    · replace hF := f_t hc hF
      refine x_iinc C [(2, .int (x2 + 1)), (0, .ref (G.ad 82)), (1, .int x1), (3, .int x3)] 2 dX8_least_94 rfl rfl (by decide) rfl ?_
      refine x_goto (tgt := 52) C dX8_least_97 (by decide) ?_
      exact x_pick [(0, .ref (G.ad 82)), (1, .int x1), (2, .int (x2 + 1))] [1, 2, 0] rfl (hk52 x1 (x2 + 1) μ hF)
    · replace hF := f_f hc hF
      refine x_iconst (v := 0) C dX8_least_64 (by decide) ?_
      refine x_istore C [(4, .int 0), (0, .ref (G.ad 82)), (1, .int x1), (2, .int x2), (3, .int x3)] dX8_least_65 (by decide) rfl ?_
      exact x_pick [(0, .ref (G.ad 82)), (1, .int x1), (2, .int x2), (3, .int x3), (4, .int 0)] [1, 2, 3, 4, 0] rfl (w_X8_least_L67 C hk52 ih fu x1 x2 x3 0 μ hF)
set_option maxHeartbeats 4000000 in
theorem w_X8_least_L102 {G : Gl} {p : Program} {l : Launch} {e : Env} {s0 : State} {m : MethodId} {args : Array Value} {below : List Frame} {meth : Method} {c : Code} (C : Cx G p s0 m args meth c cX8_least 5 RX8 (some .int)) {r : Int32} {μf : Mu}  : ∀ (n : Nat) (x1 : Int32) (x2 : Int32) (μ : Mu), f_X8_least_L102 n x1 x2 μ = some (r, μf) → X G p l e 6 141 s0 m args below meth c 5 (some (.int r)) μf μ 102 [(0, .ref (G.ad 82)), (1, .int x1), (2, .int x2)] [] := by
  intro n
  induction n with
  | zero =>
    intro x1 x2 μ hF
    rw [f_X8_least_L102] at hF
    cases hF
  | succ n ih =>
    intro x1 x2 μ hF
    rw [f_X8_least_L102] at hF
    refine x_iload_n C 2 dX8_least_102 rfl rfl ?_
    refine x_bipush (v := 10) C dX8_least_103 (by decide) ?_
    refine x_icmp_ge (tgt := 129) C dX8_least_105 (by decide) (fun hc => ?_) (fun hc => ?_)
    · replace hF := f_t hc hF
      refine x_aload_n C 0 dX8_least_129 rfl rfl ?_
      refine x_getI C fc_X8 fl_X8_330 sh_82 (by decide) rfl dX8_least_130 ?_
      refine x_if_ge (tgt := 142) C dX8_least_133 (by decide) (fun hc => ?_) (fun hc => ?_)
      · replace hF := f_t hc hF
        refine x_iload_n C 1 dX8_least_142 rfl rfl ?_
        refine x_if_ne (tgt := 153) C dX8_least_143 (by decide) (fun hc => ?_) (fun hc => ?_)
        · replace hF := f_f hc hF
          refine x_aload_n C 0 dX8_least_153 rfl rfl ?_
          refine x_getR C fc_X8 fl_X8_114 sh_82 (by decide) rfl dX8_least_154 ?_
          refine x_iload_n C 1 dX8_least_157 rfl rfl ?_
          refine x_iconst (v := 1) C dX8_least_158 (by decide) ?_
          refine x_isub C dX8_least_159 ?_
          obtain ⟨hi1, hF⟩ := f_chk hF
          refine x_iald C sh_115 hi1 dX8_least_160 ?_
          exact x_iret C dX8_least_161 (Prod.mk.inj (Option.some.inj hF)).1 (Prod.mk.inj (Option.some.inj hF)).2
        · replace hF := f_t hc hF
          refine x_aload_n C 0 dX8_least_146 rfl rfl ?_
          refine x_getI C fc_X8 fl_X8_330 sh_82 (by decide) rfl dX8_least_147 ?_
          refine x_goto (tgt := 161) C dX8_least_150 (by decide) ?_
          exact x_iret C dX8_least_161 (Prod.mk.inj (Option.some.inj hF)).1 (Prod.mk.inj (Option.some.inj hF)).2
      · replace hF := f_f hc hF
        refine x_sipush (v := (-1003)) C dX8_least_136 (by decide) ?_
        refine x_goto (tgt := 161) C dX8_least_139 (by decide) ?_
        exact x_iret C dX8_least_161 (Prod.mk.inj (Option.some.inj hF)).1 (Prod.mk.inj (Option.some.inj hF)).2
    · replace hF := f_f hc hF
      refine x_aload_n C 0 dX8_least_108 rfl rfl ?_
      refine x_getR C fc_X8 fl_X8_46 sh_82 (by decide) rfl dX8_least_109 ?_
      refine x_bipush (v := 40) C dX8_least_112 (by decide) ?_
      refine x_iload_n C 2 dX8_least_114 rfl rfl ?_
      refine x_iadd C dX8_least_115 ?_
      refine x_aload_n C 0 dX8_least_116 rfl rfl ?_
      refine x_getR C fc_X8 fl_X8_117 sh_82 (by decide) rfl dX8_least_117 ?_
      refine x_iload_n C 2 dX8_least_120 rfl rfl ?_
      obtain ⟨hi2, hF⟩ := f_chk hF
      refine x_iald C sh_116 hi2 dX8_least_121 ?_
      obtain ⟨hi3, hF⟩ := f_chk hF
      refine x_iast C sh_95 hi3 dX8_least_122 ?_
      refine x_letM hF (fun μ4 hF => ?_)
      refine x_iinc C [(2, .int (x2 + 1)), (0, .ref (G.ad 82)), (1, .int x1)] 2 dX8_least_123 rfl rfl (by decide) rfl ?_
      refine x_goto (tgt := 102) C dX8_least_126 (by decide) ?_
      exact x_pick [(0, .ref (G.ad 82)), (1, .int x1), (2, .int (x2 + 1))] [1, 2, 0] rfl (ih x1 (x2 + 1) μ4 hF)
set_option maxHeartbeats 4000000 in
theorem w_X8_least_L52 {G : Gl} {p : Program} {l : Launch} {e : Env} {s0 : State} {m : MethodId} {args : Array Value} {below : List Frame} {meth : Method} {c : Code} (C : Cx G p s0 m args meth c cX8_least 5 RX8 (some .int)) {r : Int32} {μf : Mu}  : ∀ (n : Nat) (x1 : Int32) (x2 : Int32) (μ : Mu), f_X8_least_L52 n x1 x2 μ = some (r, μf) → X G p l e 6 141 s0 m args below meth c 5 (some (.int r)) μf μ 52 [(0, .ref (G.ad 82)), (1, .int x1), (2, .int x2)] [] := by
  intro n
  induction n with
  | zero =>
    intro x1 x2 μ hF
    rw [f_X8_least_L52] at hF
    cases hF
  | succ n ih =>
    intro x1 x2 μ hF
    rw [f_X8_least_L52] at hF
    refine x_iload_n C 2 dX8_least_52 rfl rfl ?_
    refine x_iconst (v := 5) C dX8_least_53 (by decide) ?_
    refine x_icmp_ge (tgt := 100) C dX8_least_54 (by decide) (fun hc => ?_) (fun hc => ?_)
    · replace hF := f_t hc hF
      refine x_iconst (v := 0) C dX8_least_100 (by decide) ?_
      refine x_istore_n C [(2, .int 0), (0, .ref (G.ad 82)), (1, .int x1)] dX8_least_101 rfl (by decide) rfl ?_
      exact x_pick [(0, .ref (G.ad 82)), (1, .int x1), (2, .int 0)] [1, 2, 0] rfl (w_X8_least_L102 C fu x1 0 μ hF)
    · replace hF := f_f hc hF
      refine x_iconst (v := 1) C dX8_least_57 (by decide) ?_
      refine x_istore_n C [(3, .int 1), (0, .ref (G.ad 82)), (1, .int x1), (2, .int x2)] dX8_least_58 rfl (by decide) rfl ?_
      exact x_pick [(0, .ref (G.ad 82)), (1, .int x1), (2, .int x2), (3, .int 1)] [1, 2, 3, 0] rfl (w_X8_least_L59 C ih fu x1 x2 1 μ hF)
set_option maxHeartbeats 4000000 in
theorem w_X8_least_L18 {G : Gl} {p : Program} {l : Launch} {e : Env} {s0 : State} {m : MethodId} {args : Array Value} {below : List Frame} {meth : Method} {c : Code} (C : Cx G p s0 m args meth c cX8_least 5 RX8 (some .int)) {r : Int32} {μf : Mu}  : ∀ (n : Nat) (x1 : Int32) (x2 : Int32) (μ : Mu), f_X8_least_L18 n x1 x2 μ = some (r, μf) → X G p l e 6 141 s0 m args below meth c 5 (some (.int r)) μf μ 18 [(0, .ref (G.ad 82)), (1, .int x1), (2, .int x2)] [] := by
  intro n
  induction n with
  | zero =>
    intro x1 x2 μ hF
    rw [f_X8_least_L18] at hF
    cases hF
  | succ n ih =>
    intro x1 x2 μ hF
    rw [f_X8_least_L18] at hF
    refine x_iload_n C 2 dX8_least_18 rfl rfl ?_
    refine x_bipush (v := 10) C dX8_least_19 (by decide) ?_
    refine x_icmp_ge (tgt := 45) C dX8_least_21 (by decide) (fun hc => ?_) (fun hc => ?_)
    · replace hF := f_t hc hF
      refine x_aload_n C 0 dX8_least_45 rfl rfl ?_
      refine x_iconst (v := (-1)) C dX8_least_46 (by decide) ?_
      refine x_putI C fc_X8 fl_X8_330 sh_82 (by decide) rfl rfl rfl ⟨rfl, rfl⟩ dX8_least_47 ?_
      refine x_letM hF (fun μ1 hF => ?_)
      refine x_iconst (v := 1) C dX8_least_50 (by decide) ?_
      refine x_istore_n C [(2, .int 1), (0, .ref (G.ad 82)), (1, .int x1)] dX8_least_51 rfl (by decide) rfl ?_
      exact x_pick [(0, .ref (G.ad 82)), (1, .int x1), (2, .int 1)] [1, 2, 0] rfl (w_X8_least_L52 C fu x1 1 μ1 hF)
    · replace hF := f_f hc hF
      refine x_aload_n C 0 dX8_least_24 rfl rfl ?_
      refine x_getR C fc_X8 fl_X8_117 sh_82 (by decide) rfl dX8_least_25 ?_
      refine x_iload_n C 2 dX8_least_28 rfl rfl ?_
      refine x_aload_n C 0 dX8_least_29 rfl rfl ?_
      refine x_getR C fc_X8 fl_X8_46 sh_82 (by decide) rfl dX8_least_30 ?_
      refine x_bipush (v := 40) C dX8_least_33 (by decide) ?_
      refine x_iload_n C 2 dX8_least_35 rfl rfl ?_
      refine x_iadd C dX8_least_36 ?_
      obtain ⟨hi2, hF⟩ := f_chk hF
      refine x_iald C sh_95 hi2 dX8_least_37 ?_
      obtain ⟨hi3, hF⟩ := f_chk hF
      refine x_iast C sh_116 hi3 dX8_least_38 ?_
      refine x_letM hF (fun μ4 hF => ?_)
      refine x_iinc C [(2, .int (x2 + 1)), (0, .ref (G.ad 82)), (1, .int x1)] 2 dX8_least_39 rfl rfl (by decide) rfl ?_
      refine x_goto (tgt := 18) C dX8_least_42 (by decide) ?_
      exact x_pick [(0, .ref (G.ad 82)), (1, .int x1), (2, .int (x2 + 1))] [1, 2, 0] rfl (ih x1 (x2 + 1) μ4 hF)
set_option maxHeartbeats 4000000 in
theorem w_X8_least {G : Gl} {p : Program} {l : Launch} {e : Env} {s0 : State} {m : MethodId} {args : Array Value} {below : List Frame} {meth : Method} {c : Code} (C : Cx G p s0 m args meth c cX8_least 5 RX8 (some .int)) {r : Int32} {μf : Mu}  (x1 : Int32) (μ : Mu) (hF : f_X8_least x1 μ = some (r, μf)) : X G p l e 6 141 s0 m args below meth c 5 (some (.int r)) μf μ 0 [(0, .ref (G.ad 82)), (1, .int x1)] [] := by
  unfold f_X8_least at hF
  refine x_iload_n C 1 dX8_least_0 rfl rfl ?_
  refine x_i2l C dX8_least_1 ?_
  refine x_lconst (v := 0) C dX8_least_2 (by decide) ?_
  refine x_ldc2 C cl_X8_333 dX8_least_3 ?_
  refine x_cSi (rest := []) C (c_X8_in l C.2.2.2.2.2.2.2.2 ((x1 : Int32).toInt64) 0 5 μ) cw_X8_127 ⟨by decide, by decide⟩ rfl rfl (Nat.le_of_ble_eq_true rfl) dX8_least_6 ?_
  refine x_if_ne (tgt := 16) C dX8_least_9 (by decide) (fun hc => ?_) (fun hc => ?_)
  · replace hF := f_f hc hF
    refine x_iconst (v := 0) C dX8_least_16 (by decide) ?_
    refine x_istore_n C [(2, .int 0), (0, .ref (G.ad 82)), (1, .int x1)] dX8_least_17 rfl (by decide) rfl ?_
    exact x_pick [(0, .ref (G.ad 82)), (1, .int x1), (2, .int 0)] [1, 2, 0] rfl (w_X8_least_L18 C fu x1 0 μ hF)
  · replace hF := f_t hc hF
    refine x_sipush (v := (-1002)) C dX8_least_12 (by decide) ?_
    exact x_iret C dX8_least_15 (Prod.mk.inj (Option.some.inj hF)).1 (Prod.mk.inj (Option.some.inj hF)).2
set_option maxHeartbeats 4000000 in
theorem c_X8_least {G : Gl} (l : Launch) (hA : Ap G) {r : Int32} {μf : Mu}  (x1 : Int32) (μ : Mu) (hF : f_X8_least x1 μ = some (r, μf)) : Mth G l yX8_least cX8_least 5 (some .int) 6 141 [.ref (G.ad 82), .int x1] (some (.int r)) μf μ := Mth.of hA (by decide) rfl (Nat.le_of_ble_eq_true rfl) (fun p e s0 m args below meth c C => w_X8_least C x1 μ hF)
set_option maxHeartbeats 4000000 in
theorem w_X8_list {G : Gl} {p : Program} {l : Launch} {e : Env} {s0 : State} {m : MethodId} {args : Array Value} {below : List Frame} {meth : Method} {c : Code} (C : Cx G p s0 m args meth c cX8_list 2 RX8 (some .int)) {r : Int32} {μf : Mu}  (x1 : Int32) (μ : Mu) (hF : f_X8_list x1 μ = some (r, μf)) : X G p l e 5 117 s0 m args below meth c 2 (some (.int r)) μf μ 0 [(0, .ref (G.ad 82)), (1, .int x1)] [] := by
  unfold f_X8_list at hF
  refine x_aload_n C 0 dX8_list_0 rfl rfl ?_
  refine x_iconst (v := 4) C dX8_list_1 (by decide) ?_
  obtain ⟨q1, hq1, hF⟩ := f_bind hF
  refine x_cVv (rest := []) C (c_X8_findAll l C.2.2.2.2.2.2.2.2 4 μ hq1) cw_X8_221 sh_82 rfl rfl ⟨by decide, by decide⟩ rfl rfl (Nat.le_of_ble_eq_true rfl) dX8_list_2 ?_
  refine x_iload_n C 1 dX8_list_5 rfl rfl ?_
  refine x_i2l C dX8_list_6 ?_
  refine x_lconst (v := 0) C dX8_list_7 (by decide) ?_
  refine x_aload_n C 0 dX8_list_8 rfl rfl ?_
  refine x_getI C fc_X8 fl_X8_177 sh_82 (by decide) rfl dX8_list_9 ?_
  refine x_iconst (v := 1) C dX8_list_12 (by decide) ?_
  refine x_isub C dX8_list_13 ?_
  refine x_i2l C dX8_list_14 ?_
  refine x_cSi (rest := []) C (c_X8_in l C.2.2.2.2.2.2.2.2 ((x1 : Int32).toInt64) 0 (((q1 82 25) - 1 : Int32).toInt64) q1) cw_X8_127 ⟨by decide, by decide⟩ rfl rfl (Nat.le_of_ble_eq_true rfl) dX8_list_15 ?_
  refine x_if_eq (tgt := 30) C dX8_list_18 (by decide) (fun hc => ?_) (fun hc => ?_)
  · replace hF := f_t hc hF
    refine x_iconst (v := (-1)) C dX8_list_30 (by decide) ?_
    exact x_iret C dX8_list_31 (Prod.mk.inj (Option.some.inj hF)).1 (Prod.mk.inj (Option.some.inj hF)).2
  · replace hF := f_f hc hF
    refine x_aload_n C 0 dX8_list_21 rfl rfl ?_
    refine x_getR C fc_X8 fl_X8_75 sh_82 (by decide) rfl dX8_list_22 ?_
    refine x_iload_n C 1 dX8_list_25 rfl rfl ?_
    obtain ⟨hi2, hF⟩ := f_chk hF
    refine x_iald C sh_103 hi2 dX8_list_26 ?_
    refine x_goto (tgt := 31) C dX8_list_27 (by decide) ?_
    exact x_iret C dX8_list_31 (Prod.mk.inj (Option.some.inj hF)).1 (Prod.mk.inj (Option.some.inj hF)).2
set_option maxHeartbeats 4000000 in
theorem c_X8_list {G : Gl} (l : Launch) (hA : Ap G) {r : Int32} {μf : Mu}  (x1 : Int32) (μ : Mu) (hF : f_X8_list x1 μ = some (r, μf)) : Mth G l yX8_list cX8_list 2 (some .int) 5 117 [.ref (G.ad 82), .int x1] (some (.int r)) μf μ := Mth.of hA (by decide) rfl (Nat.le_of_ble_eq_true rfl) (fun p e s0 m args below meth c C => w_X8_list C x1 μ hF)
set_option maxHeartbeats 4000000 in
theorem w_X8_look_L0 {G : Gl} {p : Program} {l : Launch} {e : Env} {s0 : State} {m : MethodId} {args : Array Value} {below : List Frame} {meth : Method} {c : Code} (C : Cx G p s0 m args meth c cX8_look 1 RX8 (some .int)) {r : Int32} {μf : Mu}  : ∀ (n : Nat) (μ : Mu), f_X8_look_L0 n μ = some (r, μf) → X G p l e 0 0 s0 m args below meth c 1 (some (.int r)) μf μ 0 [(0, .ref (G.ad 82))] [] := by
  intro n
  induction n with
  | zero =>
    intro μ hF
    rw [f_X8_look_L0] at hF
    cases hF
  | succ n ih =>
    intro μ hF
    rw [f_X8_look_L0] at hF
    refine x_aload_n C 0 dX8_look_0 rfl rfl ?_
    refine x_getI C fc_X8 fl_X8_270 sh_82 (by decide) rfl dX8_look_1 ?_
    refine x_aload_n C 0 dX8_look_4 rfl rfl ?_
    refine x_getI C fc_X8 fl_X8_263 sh_82 (by decide) rfl dX8_look_5 ?_
    refine x_icmp_ge (tgt := 38) C dX8_look_8 (by decide) (fun hc => ?_) (fun hc => ?_)
    · replace hF := f_t hc hF
      refine x_aload_n C 0 dX8_look_38 rfl rfl ?_
      refine x_getI C fc_X8 fl_X8_270 sh_82 (by decide) rfl dX8_look_39 ?_
      refine x_aload_n C 0 dX8_look_42 rfl rfl ?_
      refine x_getI C fc_X8 fl_X8_263 sh_82 (by decide) rfl dX8_look_43 ?_
      refine x_icmp_ge (tgt := 61) C dX8_look_46 (by decide) (fun hc => ?_) (fun hc => ?_)
      · replace hF := f_t hc hF
        refine x_iconst (v := (-1)) C dX8_look_61 (by decide) ?_
        exact x_iret C dX8_look_62 (Prod.mk.inj (Option.some.inj hF)).1 (Prod.mk.inj (Option.some.inj hF)).2
      · replace hF := f_f hc hF
        refine x_aload_n C 0 dX8_look_49 rfl rfl ?_
        refine x_getR C fc_X8 fl_X8_102 sh_82 (by decide) rfl dX8_look_50 ?_
        refine x_aload_n C 0 dX8_look_53 rfl rfl ?_
        refine x_getI C fc_X8 fl_X8_270 sh_82 (by decide) rfl dX8_look_54 ?_
        obtain ⟨hi1, hF⟩ := f_chk hF
        refine x_iald C sh_112 hi1 dX8_look_57 ?_
        refine x_goto (tgt := 62) C dX8_look_58 (by decide) ?_
        exact x_iret C dX8_look_62 (Prod.mk.inj (Option.some.inj hF)).1 (Prod.mk.inj (Option.some.inj hF)).2
    · replace hF := f_f hc hF
      refine x_aload_n C 0 dX8_look_11 rfl rfl ?_
      refine x_getR C fc_X8 fl_X8_102 sh_82 (by decide) rfl dX8_look_12 ?_
      refine x_aload_n C 0 dX8_look_15 rfl rfl ?_
      refine x_getI C fc_X8 fl_X8_270 sh_82 (by decide) rfl dX8_look_16 ?_
      obtain ⟨hi2, hF⟩ := f_chk hF
      refine x_iald C sh_112 hi2 dX8_look_19 ?_
      refine x_bipush (v := 32) C dX8_look_20 (by decide) ?_
      refine x_icmp_ne (tgt := 38) C dX8_look_22 (by decide) (fun hc => ?_) (fun hc => ?_)
      · replace hF := f_f hc hF
        refine x_aload_n C 0 dX8_look_38 rfl rfl ?_
        refine x_getI C fc_X8 fl_X8_270 sh_82 (by decide) rfl dX8_look_39 ?_
        refine x_aload_n C 0 dX8_look_42 rfl rfl ?_
        refine x_getI C fc_X8 fl_X8_263 sh_82 (by decide) rfl dX8_look_43 ?_
        refine x_icmp_ge (tgt := 61) C dX8_look_46 (by decide) (fun hc => ?_) (fun hc => ?_)
        · replace hF := f_t hc hF
          refine x_iconst (v := (-1)) C dX8_look_61 (by decide) ?_
          exact x_iret C dX8_look_62 (Prod.mk.inj (Option.some.inj hF)).1 (Prod.mk.inj (Option.some.inj hF)).2
        · replace hF := f_f hc hF
          refine x_aload_n C 0 dX8_look_49 rfl rfl ?_
          refine x_getR C fc_X8 fl_X8_102 sh_82 (by decide) rfl dX8_look_50 ?_
          refine x_aload_n C 0 dX8_look_53 rfl rfl ?_
          refine x_getI C fc_X8 fl_X8_270 sh_82 (by decide) rfl dX8_look_54 ?_
          refine x_iald C sh_112 hi2 dX8_look_57 ?_
          refine x_goto (tgt := 62) C dX8_look_58 (by decide) ?_
          exact x_iret C dX8_look_62 (Prod.mk.inj (Option.some.inj hF)).1 (Prod.mk.inj (Option.some.inj hF)).2
      · replace hF := f_t hc hF
        refine x_aload_n C 0 dX8_look_25 rfl rfl ?_
        refine x_dup C dX8_look_26 rfl ?_
        refine x_getI C fc_X8 fl_X8_270 sh_82 (by decide) rfl dX8_look_27 ?_
        refine x_iconst (v := 1) C dX8_look_30 (by decide) ?_
        refine x_iadd C dX8_look_31 ?_
        refine x_putI C fc_X8 fl_X8_270 sh_82 (by decide) rfl rfl rfl ⟨rfl, rfl⟩ dX8_look_32 ?_
        refine x_letM hF (fun μ3 hF => ?_)
        refine x_goto (tgt := 0) C dX8_look_35 (by decide) ?_
        exact x_pick [(0, .ref (G.ad 82))] [0] rfl (ih μ3 hF)
set_option maxHeartbeats 4000000 in
theorem w_X8_look {G : Gl} {p : Program} {l : Launch} {e : Env} {s0 : State} {m : MethodId} {args : Array Value} {below : List Frame} {meth : Method} {c : Code} (C : Cx G p s0 m args meth c cX8_look 1 RX8 (some .int)) {r : Int32} {μf : Mu}  (μ : Mu) (hF : f_X8_look μ = some (r, μf)) : X G p l e 0 0 s0 m args below meth c 1 (some (.int r)) μf μ 0 [(0, .ref (G.ad 82))] [] := by
  unfold f_X8_look at hF
  exact x_pick [(0, .ref (G.ad 82))] [0] rfl (w_X8_look_L0 C fu μ hF)
set_option maxHeartbeats 4000000 in
theorem c_X8_look {G : Gl} (l : Launch) (hA : Ap G) {r : Int32} {μf : Mu}  (μ : Mu) (hF : f_X8_look μ = some (r, μf)) : Mth G l yX8_look cX8_look 1 (some .int) 0 0 [.ref (G.ad 82)] (some (.int r)) μf μ := Mth.of hA (by decide) rfl (Nat.le_of_ble_eq_true rfl) (fun p e s0 m args below meth c C => w_X8_look C μ hF)
set_option maxHeartbeats 4000000 in
theorem w_X8_move_L132 {G : Gl} {p : Program} {l : Launch} {e : Env} {s0 : State} {m : MethodId} {args : Array Value} {below : List Frame} {meth : Method} {c : Code} (C : Cx G p s0 m args meth c cX8_move 5 RX8 (some .int)) {r : Int32} {μf : Mu}  : ∀ (n : Nat) (x2 : Int32) (x4 : Int32) (μ : Mu), f_X8_move_L132 n x2 x4 μ = some (r, μf) → X G p l e 2 46 s0 m args below meth c 5 (some (.int r)) μf μ 132 [(0, .ref (G.ad 82)), (2, .int x2), (4, .int x4)] [] := by
  intro n
  induction n with
  | zero =>
    intro x2 x4 μ hF
    rw [f_X8_move_L132] at hF
    cases hF
  | succ n ih =>
    intro x2 x4 μ hF
    rw [f_X8_move_L132] at hF
    refine x_iload C 2 dX8_move_132 rfl ?_
    refine x_iconst (v := 5) C dX8_move_134 (by decide) ?_
    refine x_icmp_ge (tgt := 166) C dX8_move_135 (by decide) (fun hc => ?_) (fun hc => ?_)
    · replace hF := f_t hc hF
      refine x_iconst (v := 1) C dX8_move_166 (by decide) ?_
      exact x_iret C dX8_move_167 (Prod.mk.inj (Option.some.inj hF)).1 (Prod.mk.inj (Option.some.inj hF)).2
    · replace hF := f_f hc hF
      refine x_aload_n C 0 dX8_move_138 rfl rfl ?_
      refine x_getR C fc_X8 fl_X8_43 sh_82 (by decide) rfl dX8_move_139 ?_
      refine x_iconst (v := 5) C dX8_move_142 (by decide) ?_
      refine x_sipush (v := 160) C dX8_move_143 (by decide) ?_
      refine x_iload_n C 1 dX8_move_146 rfl rfl ?_
      refine x_iadd C dX8_move_147 ?_
      refine x_imul C dX8_move_148 ?_
      refine x_iload C 2 dX8_move_149 rfl ?_
      refine x_iadd C dX8_move_151 ?_
      refine x_aload_n C 0 dX8_move_152 rfl rfl ?_
      refine x_getR C fc_X8 fl_X8_93 sh_82 (by decide) rfl dX8_move_153 ?_
      refine x_iload C 2 dX8_move_156 rfl ?_
      obtain ⟨hi1, hF⟩ := f_chk hF
      refine x_iald C sh_109 hi1 dX8_move_158 ?_
      obtain ⟨hi2, hF⟩ := f_chk hF
      refine x_iast C sh_94 hi2 dX8_move_159 ?_
      refine x_letM hF (fun μ3 hF => ?_)
      refine x_iinc C [(4, .int (x4 + 1)), (0, .ref (G.ad 82)), (2, .int x2)] 2 dX8_move_160 rfl rfl (by decide) rfl ?_
      refine x_goto (tgt := 132) C dX8_move_163 (by decide) ?_
      exact x_pick [(0, .ref (G.ad 82)), (2, .int x2), (4, .int (x4 + 1))] [1, 2, 0] rfl (ih x2 (x4 + 1) μ3 hF)
set_option maxHeartbeats 4000000 in
theorem w_X8_move_L96 {G : Gl} {p : Program} {l : Launch} {e : Env} {s0 : State} {m : MethodId} {args : Array Value} {below : List Frame} {meth : Method} {c : Code} (C : Cx G p s0 m args meth c cX8_move 5 RX8 (some .int)) {r : Int32} {μf : Mu}  : ∀ (n : Nat) (x2 : Int32) (x3 : Int32) (x4 : Int32) (μ : Mu), f_X8_move_L96 n x2 x3 x4 μ = some (r, μf) → X G p l e 2 46 s0 m args below meth c 5 (some (.int r)) μf μ 96 [(0, .ref (G.ad 82)), (2, .int x2), (3, .int x3), (4, .int x4)] [] := by
  intro n
  induction n with
  | zero =>
    intro x2 x3 x4 μ hF
    rw [f_X8_move_L96] at hF
    cases hF
  | succ n ih =>
    intro x2 x3 x4 μ hF
    rw [f_X8_move_L96] at hF
    refine x_iload C 3 dX8_move_96 rfl ?_
    refine x_iload_n C 1 dX8_move_98 rfl rfl ?_
    refine x_icmp_le (tgt := 118) C dX8_move_99 (by decide) (fun hc => ?_) (fun hc => ?_)
    · replace hF := f_t hc hF
      refine x_aload_n C 0 dX8_move_118 rfl rfl ?_
      refine x_getR C fc_X8 fl_X8_40 sh_82 (by decide) rfl dX8_move_119 ?_
      refine x_sipush (v := 160) C dX8_move_122 (by decide) ?_
      refine x_iload_n C 1 dX8_move_125 rfl rfl ?_
      refine x_iadd C dX8_move_126 ?_
      refine x_iload_n C 2 dX8_move_127 rfl rfl ?_
      obtain ⟨hi1, hF⟩ := f_chk hF
      refine x_iast C sh_93 hi1 dX8_move_128 ?_
      refine x_letM hF (fun μ2 hF => ?_)
      refine x_iconst (v := 0) C dX8_move_129 (by decide) ?_
      refine x_istore C [(4, .int 0), (0, .ref (G.ad 82)), (2, .int x2), (3, .int x3)] dX8_move_130 (by decide) rfl ?_
      exact x_pick [(0, .ref (G.ad 82)), (2, .int x2), (4, .int 0)] [1, 2, 0] rfl (w_X8_move_L132 C fu x2 0 μ2 hF)
    · replace hF := f_f hc hF
      refine x_aload_n C 0 dX8_move_102 rfl rfl ?_
      refine x_iload C 3 dX8_move_103 rfl ?_
      refine x_iconst (v := 1) C dX8_move_105 (by decide) ?_
      refine x_isub C dX8_move_106 ?_
      refine x_iload C 3 dX8_move_107 rfl ?_
      obtain ⟨q3, hq3, hF⟩ := f_bind hF
      refine x_cVv (rest := []) C (c_X8_copyNote l C.2.2.2.2.2.2.2.2 (x4 - 1) x4 μ hq3) cw_X8_235 sh_82 rfl rfl ⟨by decide, by decide⟩ rfl rfl (Nat.le_of_ble_eq_true rfl) dX8_move_109 ?_
      refine x_iinc C [(4, .int (x4 + (-1))), (0, .ref (G.ad 82)), (2, .int x2), (3, .int x3)] 3 dX8_move_112 rfl rfl (by decide) rfl ?_
      refine x_goto (tgt := 96) C dX8_move_115 (by decide) ?_
      exact x_pick [(0, .ref (G.ad 82)), (2, .int x2), (3, .int x3), (4, .int (x4 + (-1)))] [1, 2, 3, 0] rfl (ih x2 x3 (x4 + (-1)) q3 hF)
set_option maxHeartbeats 4000000 in
theorem w_X8_move_L71 {G : Gl} {p : Program} {l : Launch} {e : Env} {s0 : State} {m : MethodId} {args : Array Value} {below : List Frame} {meth : Method} {c : Code} (C : Cx G p s0 m args meth c cX8_move 5 RX8 (some .int)) {r : Int32} {μf : Mu}  : ∀ (n : Nat) (x1 : Int32) (x2 : Int32) (x3 : Int32) (x4 : Int32) (μ : Mu), f_X8_move_L71 n x1 x2 x3 x4 μ = some (r, μf) → X G p l e 2 46 s0 m args below meth c 5 (some (.int r)) μf μ 71 [(0, .ref (G.ad 82)), (1, .int x1), (2, .int x2), (3, .int x3), (4, .int x4)] [] := by
  intro n
  induction n with
  | zero =>
    intro x1 x2 x3 x4 μ hF
    rw [f_X8_move_L71] at hF
    cases hF
  | succ n ih =>
    intro x1 x2 x3 x4 μ hF
    rw [f_X8_move_L71] at hF
    refine x_iload C 4 dX8_move_71 rfl ?_
    refine x_iload_n C 2 dX8_move_73 rfl rfl ?_
    refine x_icmp_ge (tgt := 93) C dX8_move_74 (by decide) (fun hc => ?_) (fun hc => ?_)
    · replace hF := f_t hc hF
      refine x_iload_n C 1 dX8_move_93 rfl rfl ?_
      refine x_istore C [(4, .int x1), (0, .ref (G.ad 82)), (1, .int x1), (2, .int x2), (3, .int x3)] dX8_move_94 (by decide) rfl ?_
      exact x_pick [(0, .ref (G.ad 82)), (2, .int x2), (3, .int x3), (4, .int x1)] [1, 3, 4, 0] rfl (w_X8_move_L96 C fu x2 x3 x1 μ hF)
    · replace hF := f_f hc hF
      refine x_aload_n C 0 dX8_move_77 rfl rfl ?_
      refine x_iload C 4 dX8_move_78 rfl ?_
      refine x_iconst (v := 1) C dX8_move_80 (by decide) ?_
      refine x_iadd C dX8_move_81 ?_
      refine x_iload C 4 dX8_move_82 rfl ?_
      obtain ⟨q1, hq1, hF⟩ := f_bind hF
      refine x_cVv (rest := []) C (c_X8_copyNote l C.2.2.2.2.2.2.2.2 (x4 + 1) x4 μ hq1) cw_X8_235 sh_82 rfl rfl ⟨by decide, by decide⟩ rfl rfl (Nat.le_of_ble_eq_true rfl) dX8_move_84 ?_
      refine x_iinc C [(4, .int (x4 + 1)), (0, .ref (G.ad 82)), (1, .int x1), (2, .int x2), (3, .int x3)] 4 dX8_move_87 rfl rfl (by decide) rfl ?_
      refine x_goto (tgt := 71) C dX8_move_90 (by decide) ?_
      exact x_pick [(0, .ref (G.ad 82)), (1, .int x1), (2, .int x2), (3, .int x3), (4, .int (x4 + 1))] [1, 2, 3, 4, 0] rfl (ih x1 x2 x3 (x4 + 1) q1 hF)
set_option maxHeartbeats 4000000 in
theorem w_X8_move_L34 {G : Gl} {p : Program} {l : Launch} {e : Env} {s0 : State} {m : MethodId} {args : Array Value} {below : List Frame} {meth : Method} {c : Code} (C : Cx G p s0 m args meth c cX8_move 5 RX8 (some .int)) {r : Int32} {μf : Mu}  : ∀ (n : Nat) (x1 : Int32) (x2 : Int32) (x3 : Int32) (x4 : Int32) (μ : Mu), f_X8_move_L34 n x1 x2 x3 x4 μ = some (r, μf) → X G p l e 2 46 s0 m args below meth c 5 (some (.int r)) μf μ 34 [(0, .ref (G.ad 82)), (1, .int x1), (2, .int x2), (3, .int x3), (4, .int x4)] [] := by
  intro n
  induction n with
  | zero =>
    intro x1 x2 x3 x4 μ hF
    rw [f_X8_move_L34] at hF
    cases hF
  | succ n ih =>
    intro x1 x2 x3 x4 μ hF
    rw [f_X8_move_L34] at hF
    refine x_iload C 4 dX8_move_34 rfl ?_
    refine x_iconst (v := 5) C dX8_move_36 (by decide) ?_
    refine x_icmp_ge (tgt := 68) C dX8_move_37 (by decide) (fun hc => ?_) (fun hc => ?_)
    · replace hF := f_t hc hF
      refine x_iload_n C 1 dX8_move_68 rfl rfl ?_
      refine x_istore C [(4, .int x1), (0, .ref (G.ad 82)), (1, .int x1), (2, .int x2), (3, .int x3)] dX8_move_69 (by decide) rfl ?_
      exact x_pick [(0, .ref (G.ad 82)), (1, .int x1), (2, .int x2), (3, .int x3), (4, .int x1)] [1, 2, 3, 4, 0] rfl (w_X8_move_L71 C fu x1 x2 x3 x1 μ hF)
    · replace hF := f_f hc hF
      refine x_aload_n C 0 dX8_move_40 rfl rfl ?_
      refine x_getR C fc_X8 fl_X8_93 sh_82 (by decide) rfl dX8_move_41 ?_
      refine x_iload C 4 dX8_move_44 rfl ?_
      refine x_aload_n C 0 dX8_move_46 rfl rfl ?_
      refine x_getR C fc_X8 fl_X8_43 sh_82 (by decide) rfl dX8_move_47 ?_
      refine x_iconst (v := 5) C dX8_move_50 (by decide) ?_
      refine x_sipush (v := 160) C dX8_move_51 (by decide) ?_
      refine x_iload_n C 1 dX8_move_54 rfl rfl ?_
      refine x_iadd C dX8_move_55 ?_
      refine x_imul C dX8_move_56 ?_
      refine x_iload C 4 dX8_move_57 rfl ?_
      refine x_iadd C dX8_move_59 ?_
      obtain ⟨hi1, hF⟩ := f_chk hF
      refine x_iald C sh_94 hi1 dX8_move_60 ?_
      obtain ⟨hi2, hF⟩ := f_chk hF
      refine x_iast C sh_109 hi2 dX8_move_61 ?_
      refine x_letM hF (fun μ3 hF => ?_)
      refine x_iinc C [(4, .int (x4 + 1)), (0, .ref (G.ad 82)), (1, .int x1), (2, .int x2), (3, .int x3)] 4 dX8_move_62 rfl rfl (by decide) rfl ?_
      refine x_goto (tgt := 34) C dX8_move_65 (by decide) ?_
      exact x_pick [(0, .ref (G.ad 82)), (1, .int x1), (2, .int x2), (3, .int x3), (4, .int (x4 + 1))] [1, 2, 3, 4, 0] rfl (ih x1 x2 x3 (x4 + 1) μ3 hF)
set_option maxHeartbeats 4000000 in
theorem w_X8_move {G : Gl} {p : Program} {l : Launch} {e : Env} {s0 : State} {m : MethodId} {args : Array Value} {below : List Frame} {meth : Method} {c : Code} (C : Cx G p s0 m args meth c cX8_move 5 RX8 (some .int)) {r : Int32} {μf : Mu}  (x1 : Int32) (x2 : Int32) (μ : Mu) (hF : f_X8_move x1 x2 μ = some (r, μf)) : X G p l e 2 46 s0 m args below meth c 5 (some (.int r)) μf μ 0 [(0, .ref (G.ad 82)), (1, .int x1), (2, .int x2)] [] := by
  unfold f_X8_move at hF
  refine x_aload_n C 0 dX8_move_0 rfl rfl ?_
  refine x_iload_n C 1 dX8_move_1 rfl rfl ?_
  obtain ⟨q1, hq1, hF⟩ := f_bind hF
  refine x_cVi (rest := []) C (c_X8_noNote l C.2.2.2.2.2.2.2.2 x1 μ hq1) cw_X8_239 sh_82 rfl rfl ⟨by decide, by decide⟩ rfl rfl (Nat.le_of_ble_eq_true rfl) dX8_move_2 ?_
  refine x_if_ne (tgt := 16) C dX8_move_5 (by decide) (fun hc => ?_) (fun hc => ?_)
  · replace hF := f_f hc hF
    refine x_sipush (v := (-1001)) C dX8_move_16 (by decide) ?_
    exact x_iret C dX8_move_19 (Prod.mk.inj (Option.some.inj hF)).1 (Prod.mk.inj (Option.some.inj hF)).2
  · replace hF := f_t hc hF
    refine x_aload_n C 0 dX8_move_8 rfl rfl ?_
    refine x_iload_n C 2 dX8_move_9 rfl rfl ?_
    obtain ⟨q2, hq2, hF⟩ := f_bind hF
    refine x_cVi (rest := []) C (c_X8_noNote l C.2.2.2.2.2.2.2.2 x2 μ hq2) cw_X8_239 sh_82 rfl rfl ⟨by decide, by decide⟩ rfl rfl (Nat.le_of_ble_eq_true rfl) dX8_move_10 ?_
    refine x_if_eq (tgt := 20) C dX8_move_13 (by decide) (fun hc => ?_) (fun hc => ?_)
    · replace hF := f_t hc hF
      refine x_aload_n C 0 dX8_move_20 rfl rfl ?_
      refine x_getR C fc_X8 fl_X8_40 sh_82 (by decide) rfl dX8_move_21 ?_
      refine x_sipush (v := 160) C dX8_move_24 (by decide) ?_
      refine x_iload_n C 1 dX8_move_27 rfl rfl ?_
      refine x_iadd C dX8_move_28 ?_
      obtain ⟨hi3, hF⟩ := f_chk hF
      refine x_iald C sh_93 hi3 dX8_move_29 ?_
      refine x_letI hF (fun y4 hF => ?_)
      refine x_istore_n C [(3, .int y4), (0, .ref (G.ad 82)), (1, .int x1), (2, .int x2)] dX8_move_30 rfl (by decide) rfl ?_
      refine x_iconst (v := 0) C dX8_move_31 (by decide) ?_
      refine x_istore C [(4, .int 0), (3, .int y4), (0, .ref (G.ad 82)), (1, .int x1), (2, .int x2)] dX8_move_32 (by decide) rfl ?_
      exact x_pick [(0, .ref (G.ad 82)), (1, .int x1), (2, .int x2), (3, .int y4), (4, .int 0)] [2, 3, 4, 1, 0] rfl (w_X8_move_L34 C fu x1 x2 y4 0 μ hF)
    · replace hF := f_f hc hF
      refine x_sipush (v := (-1001)) C dX8_move_16 (by decide) ?_
      exact x_iret C dX8_move_19 (Prod.mk.inj (Option.some.inj hF)).1 (Prod.mk.inj (Option.some.inj hF)).2
set_option maxHeartbeats 4000000 in
theorem c_X8_move {G : Gl} (l : Launch) (hA : Ap G) {r : Int32} {μf : Mu}  (x1 : Int32) (x2 : Int32) (μ : Mu) (hF : f_X8_move x1 x2 μ = some (r, μf)) : Mth G l yX8_move cX8_move 5 (some .int) 2 46 [.ref (G.ad 82), .int x1, .int x2] (some (.int r)) μf μ := Mth.of hA (by decide) rfl (Nat.le_of_ble_eq_true rfl) (fun p e s0 m args below meth c C => w_X8_move C x1 x2 μ hF)
set_option maxHeartbeats 4000000 in
theorem w_X8_name_ {G : Gl} {p : Program} {l : Launch} {e : Env} {s0 : State} {m : MethodId} {args : Array Value} {below : List Frame} {meth : Method} {c : Code} (C : Cx G p s0 m args meth c cX8_name_ 5 RX8 (some .int)) {r : Int32}  (x1 : Int32) (x2 : Int32) (x3 : Int32) (μ : Mu) (hF : f_X8_name_ x1 x2 x3 μ = some r) : X G p l e 2 46 s0 m args below meth c 5 (some (.int r)) μ μ 0 [(0, .ref (G.ad 82)), (1, .int x1), (2, .int x2), (3, .int x3)] [] := by
  unfold f_X8_name_ at hF
  refine x_aload_n C 0 dX8_name__0 rfl rfl ?_
  refine x_iload_n C 1 dX8_name__1 rfl rfl ?_
  refine x_cVi (rest := []) C (c_X8_noWork l C.2.2.2.2.2.2.2.2 x1 μ) cw_X8_147 sh_82 rfl rfl ⟨by decide, by decide⟩ rfl rfl (Nat.le_of_ble_eq_true rfl) dX8_name__2 ?_
  refine x_if_eq (tgt := 12) C dX8_name__5 (by decide) (fun hc => ?_) (fun hc => ?_)
  · replace hF := f_t hc hF
    refine x_iload_n C 2 dX8_name__12 rfl rfl ?_
    refine x_i2l C dX8_name__13 ?_
    refine x_lconst (v := 0) C dX8_name__14 (by decide) ?_
    refine x_aload_n C 0 dX8_name__15 rfl rfl ?_
    refine x_getR C fc_X8 fl_X8_7 sh_82 (by decide) rfl dX8_name__16 ?_
    refine x_iload_n C 1 dX8_name__19 rfl rfl ?_
    obtain ⟨hi1, hF⟩ := f_chk hF
    refine x_iald C sh_83 hi1 dX8_name__20 ?_
    refine x_iconst (v := 1) C dX8_name__21 (by decide) ?_
    refine x_isub C dX8_name__22 ?_
    refine x_i2l C dX8_name__23 ?_
    refine x_cSi (rest := []) C (c_X8_in l C.2.2.2.2.2.2.2.2 ((x2 : Int32).toInt64) 0 (((μ 83 (ix x1)) - 1 : Int32).toInt64) μ) cw_X8_127 ⟨by decide, by decide⟩ rfl rfl (Nat.le_of_ble_eq_true rfl) dX8_name__24 ?_
    refine x_if_eq (tgt := 42) C dX8_name__27 (by decide) (fun hc => ?_) (fun hc => ?_)
    · replace hF := f_t hc hF
      refine x_sipush (v := (-1002)) C dX8_name__42 (by decide) ?_
      exact x_iret C dX8_name__45 (Option.some.inj hF) rfl
    · replace hF := f_f hc hF
      refine x_iload_n C 3 dX8_name__30 rfl rfl ?_
      refine x_i2l C dX8_name__31 ?_
      refine x_lconst (v := 0) C dX8_name__32 (by decide) ?_
      refine x_ldc2 C cl_X8_156 dX8_name__33 ?_
      refine x_cSi (rest := []) C (c_X8_in l C.2.2.2.2.2.2.2.2 ((x3 : Int32).toInt64) 0 2 μ) cw_X8_127 ⟨by decide, by decide⟩ rfl rfl (Nat.le_of_ble_eq_true rfl) dX8_name__36 ?_
      refine x_if_ne (tgt := 46) C dX8_name__39 (by decide) (fun hc => ?_) (fun hc => ?_)
      · replace hF := f_f hc hF
        refine x_iconst (v := 4) C dX8_name__46 (by decide) ?_
        refine x_iload_n C 1 dX8_name__47 rfl rfl ?_
        refine x_imul C dX8_name__48 ?_
        refine x_iload_n C 2 dX8_name__49 rfl rfl ?_
        refine x_iadd C dX8_name__50 ?_
        refine x_letI hF (fun y2 hF => ?_)
        refine x_istore C [(4, .int y2), (0, .ref (G.ad 82)), (1, .int x1), (2, .int x2), (3, .int x3)] dX8_name__51 (by decide) rfl ?_
        refine x_iload_n C 4 dX8_name__53 rfl rfl ?_
        refine x_if_ne (tgt := 67) C dX8_name__54 (by decide) (fun hc => ?_) (fun hc => ?_)
        · replace hF := f_f hc hF
          refine x_iload_n C 4 dX8_name__67 rfl rfl ?_
          refine x_iconst (v := 1) C dX8_name__68 (by decide) ?_
          refine x_icmp_ne (tgt := 82) C dX8_name__69 (by decide) (fun hc => ?_) (fun hc => ?_)
          · replace hF := f_f hc hF
            refine x_aload_n C 1 dX8_name__82 rfl rfl ?_
            refine x_getR C fc_X8 fl_X8_19 sh_82 (by decide) rfl dX8_name__83 ?_
            refine x_iload C 0 dX8_name__86 rfl ?_
            obtain ⟨hi3, hF⟩ := f_chk hF
            refine x_iald C sh_86 hi3 dX8_name__88 ?_
            exact x_iret C dX8_name__89 (Option.some.inj hF) rfl
          · replace hF := f_t hc hF
            refine x_aload_n C 1 dX8_name__72 rfl rfl ?_
            refine x_getR C fc_X8 fl_X8_16 sh_82 (by decide) rfl dX8_name__73 ?_
            refine x_iload C 0 dX8_name__76 rfl ?_
            obtain ⟨hi4, hF⟩ := f_chk hF
            refine x_iald C sh_85 hi4 dX8_name__78 ?_
            refine x_goto (tgt := 89) C dX8_name__79 (by decide) ?_
            exact x_iret C dX8_name__89 (Option.some.inj hF) rfl
        · replace hF := f_t hc hF
          refine x_aload_n C 1 dX8_name__57 rfl rfl ?_
          refine x_getR C fc_X8 fl_X8_13 sh_82 (by decide) rfl dX8_name__58 ?_
          refine x_iload C 0 dX8_name__61 rfl ?_
          obtain ⟨hi5, hF⟩ := f_chk hF
          refine x_iald C sh_84 hi5 dX8_name__63 ?_
          refine x_goto (tgt := 89) C dX8_name__64 (by decide) ?_
          exact x_iret C dX8_name__89 (Option.some.inj hF) rfl
      · replace hF := f_t hc hF
        refine x_sipush (v := (-1002)) C dX8_name__42 (by decide) ?_
        exact x_iret C dX8_name__45 (Option.some.inj hF) rfl
  · replace hF := f_f hc hF
    refine x_sipush (v := (-1001)) C dX8_name__8 (by decide) ?_
    exact x_iret C dX8_name__11 (Option.some.inj hF) rfl
set_option maxHeartbeats 4000000 in
theorem c_X8_name_ {G : Gl} (l : Launch) (hA : Ap G) {r : Int32}  (x1 : Int32) (x2 : Int32) (x3 : Int32) (μ : Mu) (hF : f_X8_name_ x1 x2 x3 μ = some r) : Mth G l yX8_name_ cX8_name_ 5 (some .int) 2 46 [.ref (G.ad 82), .int x1, .int x2, .int x3] (some (.int r)) μ μ := Mth.of hA (by decide) rfl (Nat.le_of_ble_eq_true rfl) (fun p e s0 m args below meth c C => w_X8_name_ C x1 x2 x3 μ hF)
set_option maxHeartbeats 4000000 in
theorem w_X8_note_L42 {G : Gl} {p : Program} {l : Launch} {e : Env} {s0 : State} {m : MethodId} {args : Array Value} {below : List Frame} {meth : Method} {c : Code} (C : Cx G p s0 m args meth c cX8_note 3 RX8 (some .int)) {r : Int32} {μf : Mu}  : ∀ (n : Nat) (x1 : Int32) (x2 : Int32) (μ : Mu), f_X8_note_L42 n x1 x2 μ = some (r, μf) → X G p l e 1 25 s0 m args below meth c 3 (some (.int r)) μf μ 42 [(0, .ref (G.ad 82)), (1, .int x1), (2, .int x2)] [] := by
  intro n
  induction n with
  | zero =>
    intro x1 x2 μ hF
    rw [f_X8_note_L42] at hF
    cases hF
  | succ n ih =>
    intro x1 x2 μ hF
    rw [f_X8_note_L42] at hF
    refine x_iload_n C 2 dX8_note_42 rfl rfl ?_
    refine x_iload_n C 1 dX8_note_43 rfl rfl ?_
    refine x_icmp_le (tgt := 61) C dX8_note_44 (by decide) (fun hc => ?_) (fun hc => ?_)
    · replace hF := f_t hc hF
      refine x_aload_n C 0 dX8_note_61 rfl rfl ?_
      refine x_getR C fc_X8 fl_X8_40 sh_82 (by decide) rfl dX8_note_62 ?_
      refine x_sipush (v := 160) C dX8_note_65 (by decide) ?_
      refine x_iload_n C 1 dX8_note_68 rfl rfl ?_
      refine x_iadd C dX8_note_69 ?_
      refine x_iconst (v := 0) C dX8_note_70 (by decide) ?_
      obtain ⟨hi1, hF⟩ := f_chk hF
      refine x_iast C sh_93 hi1 dX8_note_71 ?_
      refine x_letM hF (fun μ2 hF => ?_)
      refine x_aload_n C 0 dX8_note_72 rfl rfl ?_
      refine x_getR C fc_X8 fl_X8_37 sh_82 (by decide) rfl dX8_note_73 ?_
      refine x_iconst (v := 4) C dX8_note_76 (by decide) ?_
      refine x_dup2 C dX8_note_77 rfl rfl ?_
      refine x_iald C sh_92 (by decide) dX8_note_78 ?_
      refine x_iconst (v := 1) C dX8_note_79 (by decide) ?_
      refine x_iadd C dX8_note_80 ?_
      refine x_iast C sh_92 (by decide) dX8_note_81 ?_
      refine x_letM hF (fun μ3 hF => ?_)
      refine x_iload_n C 1 dX8_note_82 rfl rfl ?_
      exact x_iret C dX8_note_83 (Prod.mk.inj (Option.some.inj hF)).1 (Prod.mk.inj (Option.some.inj hF)).2
    · replace hF := f_f hc hF
      refine x_aload_n C 0 dX8_note_47 rfl rfl ?_
      refine x_iload_n C 2 dX8_note_48 rfl rfl ?_
      refine x_iconst (v := 1) C dX8_note_49 (by decide) ?_
      refine x_isub C dX8_note_50 ?_
      refine x_iload_n C 2 dX8_note_51 rfl rfl ?_
      obtain ⟨q4, hq4, hF⟩ := f_bind hF
      refine x_cVv (rest := []) C (c_X8_copyNote l C.2.2.2.2.2.2.2.2 (x2 - 1) x2 μ hq4) cw_X8_235 sh_82 rfl rfl ⟨by decide, by decide⟩ rfl rfl (Nat.le_of_ble_eq_true rfl) dX8_note_52 ?_
      refine x_iinc C [(2, .int (x2 + (-1))), (0, .ref (G.ad 82)), (1, .int x1)] 2 dX8_note_55 rfl rfl (by decide) rfl ?_
      refine x_goto (tgt := 42) C dX8_note_58 (by decide) ?_
      exact x_pick [(0, .ref (G.ad 82)), (1, .int x1), (2, .int (x2 + (-1)))] [1, 2, 0] rfl (ih x1 (x2 + (-1)) q4 hF)
set_option maxHeartbeats 4000000 in
theorem w_X8_note {G : Gl} {p : Program} {l : Launch} {e : Env} {s0 : State} {m : MethodId} {args : Array Value} {below : List Frame} {meth : Method} {c : Code} (C : Cx G p s0 m args meth c cX8_note 3 RX8 (some .int)) {r : Int32} {μf : Mu}  (x1 : Int32) (μ : Mu) (hF : f_X8_note x1 μ = some (r, μf)) : X G p l e 1 25 s0 m args below meth c 3 (some (.int r)) μf μ 0 [(0, .ref (G.ad 82)), (1, .int x1)] [] := by
  unfold f_X8_note at hF
  refine x_iload_n C 1 dX8_note_0 rfl rfl ?_
  refine x_i2l C dX8_note_1 ?_
  refine x_lconst (v := 0) C dX8_note_2 (by decide) ?_
  refine x_aload_n C 0 dX8_note_3 rfl rfl ?_
  refine x_getR C fc_X8 fl_X8_37 sh_82 (by decide) rfl dX8_note_4 ?_
  refine x_iconst (v := 4) C dX8_note_7 (by decide) ?_
  refine x_iald C sh_92 (by decide) dX8_note_8 ?_
  refine x_i2l C dX8_note_9 ?_
  refine x_cSi (rest := []) C (c_X8_in l C.2.2.2.2.2.2.2.2 ((x1 : Int32).toInt64) 0 ((μ 92 (ix 4) : Int32).toInt64) μ) cw_X8_127 ⟨by decide, by decide⟩ rfl rfl (Nat.le_of_ble_eq_true rfl) dX8_note_10 ?_
  refine x_if_ne (tgt := 20) C dX8_note_13 (by decide) (fun hc => ?_) (fun hc => ?_)
  · replace hF := f_f hc hF
    refine x_aload_n C 0 dX8_note_20 rfl rfl ?_
    refine x_getR C fc_X8 fl_X8_37 sh_82 (by decide) rfl dX8_note_21 ?_
    refine x_iconst (v := 4) C dX8_note_24 (by decide) ?_
    refine x_iald C sh_92 (by decide) dX8_note_25 ?_
    refine x_bipush (v := 40) C dX8_note_26 (by decide) ?_
    refine x_icmp_ne (tgt := 35) C dX8_note_28 (by decide) (fun hc => ?_) (fun hc => ?_)
    · replace hF := f_f hc hF
      refine x_aload_n C 0 dX8_note_35 rfl rfl ?_
      refine x_getR C fc_X8 fl_X8_37 sh_82 (by decide) rfl dX8_note_36 ?_
      refine x_iconst (v := 4) C dX8_note_39 (by decide) ?_
      refine x_iald C sh_92 (by decide) dX8_note_40 ?_
      refine x_letI hF (fun y1 hF => ?_)
      refine x_istore_n C [(2, .int y1), (0, .ref (G.ad 82)), (1, .int x1)] dX8_note_41 rfl (by decide) rfl ?_
      exact x_pick [(0, .ref (G.ad 82)), (1, .int x1), (2, .int y1)] [1, 2, 0] rfl (w_X8_note_L42 C fu x1 y1 μ hF)
    · replace hF := f_t hc hF
      refine x_sipush (v := (-1004)) C dX8_note_31 (by decide) ?_
      exact x_iret C dX8_note_34 (Prod.mk.inj (Option.some.inj hF)).1 (Prod.mk.inj (Option.some.inj hF)).2
  · replace hF := f_t hc hF
    refine x_sipush (v := (-1002)) C dX8_note_16 (by decide) ?_
    exact x_iret C dX8_note_19 (Prod.mk.inj (Option.some.inj hF)).1 (Prod.mk.inj (Option.some.inj hF)).2
set_option maxHeartbeats 4000000 in
theorem c_X8_note {G : Gl} (l : Launch) (hA : Ap G) {r : Int32} {μf : Mu}  (x1 : Int32) (μ : Mu) (hF : f_X8_note x1 μ = some (r, μf)) : Mth G l yX8_note cX8_note 3 (some .int) 1 25 [.ref (G.ad 82), .int x1] (some (.int r)) μf μ := Mth.of hA (by decide) rfl (Nat.le_of_ble_eq_true rfl) (fun p e s0 m args below meth c C => w_X8_note C x1 μ hF)
set_option maxHeartbeats 4000000 in
theorem w_X8_toldFigures_L71 {G : Gl} {p : Program} {l : Launch} {e : Env} {s0 : State} {m : MethodId} {args : Array Value} {below : List Frame} {meth : Method} {c : Code} (C : Cx G p s0 m args meth c cX8_toldFigures 5 RX8 (some .int)) {r : Int32}  (μ : Mu) : ∀ (n : Nat) (x1 : Int32) (x3 : Int32) (x4 : Int32), f_X8_toldFigures_L71 μ n x1 x3 x4 = some r → X G p l e 1 20 s0 m args below meth c 5 (some (.int r)) μ μ 71 [(0, .ref (G.ad 82)), (1, .int x1), (3, .int x3), (4, .int x4)] [] := by
  intro n
  induction n with
  | zero =>
    intro x1 x3 x4 hF
    rw [f_X8_toldFigures_L71] at hF
    cases hF
  | succ n ih =>
    intro x1 x3 x4 hF
    rw [f_X8_toldFigures_L71] at hF
    refine x_iload C 3 dX8_toldFigures_71 rfl ?_
    refine x_iconst (v := 1) C dX8_toldFigures_73 (by decide) ?_
    refine x_icmp_le (tgt := 107) C dX8_toldFigures_74 (by decide) (fun hc => ?_) (fun hc => ?_)
    · replace hF := f_t hc hF
      refine x_iload C 3 dX8_toldFigures_107 rfl ?_
      exact x_iret C dX8_toldFigures_109 (Option.some.inj hF) rfl
    · replace hF := f_f hc hF
      refine x_aload_n C 0 dX8_toldFigures_77 rfl rfl ?_
      refine x_getR C fc_X8 fl_X8_28 sh_82 (by decide) rfl dX8_toldFigures_78 ?_
      refine x_iload_n C 1 dX8_toldFigures_81 rfl rfl ?_
      obtain ⟨hi1, hF⟩ := f_chk hF
      refine x_iald C sh_89 hi1 dX8_toldFigures_82 ?_
      refine x_iload_n C 2 dX8_toldFigures_83 rfl rfl ?_
      obtain ⟨hz2, hF⟩ := f_nz hF
      refine x_idiv C dX8_toldFigures_84 hz2 ?_
      refine x_aload_n C 0 dX8_toldFigures_85 rfl rfl ?_
      refine x_getR C fc_X8 fl_X8_31 sh_82 (by decide) rfl dX8_toldFigures_86 ?_
      refine x_iload_n C 1 dX8_toldFigures_89 rfl rfl ?_
      refine x_iald C sh_90 hi1 dX8_toldFigures_90 ?_
      refine x_iload_n C 2 dX8_toldFigures_91 rfl rfl ?_
      obtain ⟨hz3, hF⟩ := f_nz hF
      refine x_idiv C dX8_toldFigures_92 hz3 ?_
      refine x_icmp_ne (tgt := 107) C dX8_toldFigures_93 (by decide) (fun hc => ?_) (fun hc => ?_)
      · replace hF := f_f hc hF
        refine x_iload C 3 dX8_toldFigures_107 rfl ?_
        exact x_iret C dX8_toldFigures_109 (Option.some.inj hF) rfl
      · replace hF := f_t hc hF
        refine x_iload_n C 2 dX8_toldFigures_96 rfl rfl ?_
        refine x_bipush (v := 10) C dX8_toldFigures_97 (by decide) ?_
        refine x_idiv C dX8_toldFigures_99 (by decide) ?_
        refine x_letI hF (fun y4 hF => ?_)
        refine x_istore_n C [(3, .int y4), (0, .ref (G.ad 82)), (1, .int x1), (4, .int x4)] dX8_toldFigures_100 rfl (by decide) rfl ?_
        refine x_iinc C [(4, .int (x4 + (-1))), (3, .int y4), (0, .ref (G.ad 82)), (1, .int x1)] 3 dX8_toldFigures_101 rfl rfl (by decide) rfl ?_
        refine x_goto (tgt := 71) C dX8_toldFigures_104 (by decide) ?_
        exact x_pick [(0, .ref (G.ad 82)), (1, .int x1), (3, .int y4), (4, .int (x4 + (-1)))] [2, 3, 1, 0] rfl (ih x1 y4 (x4 + (-1)) hF)
set_option maxHeartbeats 4000000 in
theorem w_X8_toldFigures {G : Gl} {p : Program} {l : Launch} {e : Env} {s0 : State} {m : MethodId} {args : Array Value} {below : List Frame} {meth : Method} {c : Code} (C : Cx G p s0 m args meth c cX8_toldFigures 5 RX8 (some .int)) {r : Int32}  (x1 : Int32) (μ : Mu) (hF : f_X8_toldFigures x1 μ = some r) : X G p l e 1 20 s0 m args below meth c 5 (some (.int r)) μ μ 0 [(0, .ref (G.ad 82)), (1, .int x1)] [] := by
  unfold f_X8_toldFigures at hF
  refine x_aload_n C 0 dX8_toldFigures_0 rfl rfl ?_
  refine x_getR C fc_X8 fl_X8_31 sh_82 (by decide) rfl dX8_toldFigures_1 ?_
  refine x_iload_n C 1 dX8_toldFigures_4 rfl rfl ?_
  obtain ⟨hi1, hF⟩ := f_chk hF
  refine x_iald C sh_90 hi1 dX8_toldFigures_5 ?_
  refine x_cSi (rest := []) C (c_X8_figures l C.2.2.2.2.2.2.2.2 (μ 90 (ix x1)) μ) cw_X8_229 ⟨by decide, by decide⟩ rfl rfl (Nat.le_of_ble_eq_true rfl) dX8_toldFigures_6 ?_
  refine x_letI hF (fun y2 hF => ?_)
  refine x_istore_n C [(2, .int y2), (0, .ref (G.ad 82)), (1, .int x1)] dX8_toldFigures_9 rfl (by decide) rfl ?_
  refine x_aload_n C 1 dX8_toldFigures_10 rfl rfl ?_
  refine x_getR C fc_X8 fl_X8_46 sh_82 (by decide) rfl dX8_toldFigures_11 ?_
  refine x_bipush (v := 49) C dX8_toldFigures_14 (by decide) ?_
  refine x_iald C sh_95 (by decide) dX8_toldFigures_16 ?_
  refine x_if_eq (tgt := 33) C dX8_toldFigures_17 (by decide) (fun hc => ?_) (fun hc => ?_)
  · replace hF := f_t hc hF
    refine x_iload_n C 0 dX8_toldFigures_33 rfl rfl ?_
    exact x_iret C dX8_toldFigures_34 (Option.some.inj hF) rfl
  · replace hF := f_f hc hF
    refine x_aload_n C 1 dX8_toldFigures_20 rfl rfl ?_
    refine x_getR C fc_X8 fl_X8_28 sh_82 (by decide) rfl dX8_toldFigures_21 ?_
    refine x_iload_n C 2 dX8_toldFigures_24 rfl rfl ?_
    refine x_iald C sh_89 hi1 dX8_toldFigures_25 ?_
    refine x_cSi (rest := []) C (c_X8_figures l C.2.2.2.2.2.2.2.2 (μ 89 (ix x1)) μ) cw_X8_229 ⟨by decide, by decide⟩ rfl rfl (Nat.le_of_ble_eq_true rfl) dX8_toldFigures_26 ?_
    refine x_iload_n C 0 dX8_toldFigures_29 rfl rfl ?_
    refine x_icmp_eq (tgt := 35) C dX8_toldFigures_30 (by decide) (fun hc => ?_) (fun hc => ?_)
    · replace hF := f_t hc hF
      refine x_iload_n C 0 dX8_toldFigures_35 rfl rfl ?_
      refine x_iconst (v := 4) C dX8_toldFigures_36 (by decide) ?_
      refine x_icmp_ne (tgt := 46) C dX8_toldFigures_37 (by decide) (fun hc => ?_) (fun hc => ?_)
      · replace hF := f_f hc hF
        refine x_iload_n C 0 dX8_toldFigures_46 rfl rfl ?_
        refine x_iconst (v := 3) C dX8_toldFigures_47 (by decide) ?_
        refine x_icmp_ne (tgt := 56) C dX8_toldFigures_48 (by decide) (fun hc => ?_) (fun hc => ?_)
        · replace hF := f_f hc hF
          refine x_iload_n C 0 dX8_toldFigures_56 rfl rfl ?_
          refine x_iconst (v := 2) C dX8_toldFigures_57 (by decide) ?_
          refine x_icmp_ne (tgt := 66) C dX8_toldFigures_58 (by decide) (fun hc => ?_) (fun hc => ?_)
          · replace hF := f_f hc hF
            refine x_iconst (v := 1) C dX8_toldFigures_66 (by decide) ?_
            refine x_istore_n C [(3, .int 1), (2, .int y2), (0, .ref (G.ad 82)), (1, .int x1)] dX8_toldFigures_67 rfl (by decide) rfl ?_
            refine x_iload_n C 1 dX8_toldFigures_68 rfl rfl ?_
            refine x_istore C [(4, .int y2), (3, .int 1), (2, .int y2), (0, .ref (G.ad 82)), (1, .int x1)] dX8_toldFigures_69 (by decide) rfl ?_
            exact x_pick [(0, .ref (G.ad 82)), (1, .int x1), (3, .int 1), (4, .int y2)] [3, 4, 1, 0] rfl (w_X8_toldFigures_L71 C μ fu x1 1 y2 hF)
          · replace hF := f_t hc hF
            refine x_bipush (v := 10) C dX8_toldFigures_61 (by decide) ?_
            refine x_goto (tgt := 67) C dX8_toldFigures_63 (by decide) ?_
            refine x_istore_n C [(3, .int 10), (2, .int y2), (0, .ref (G.ad 82)), (1, .int x1)] dX8_toldFigures_67 rfl (by decide) rfl ?_
            refine x_iload_n C 1 dX8_toldFigures_68 rfl rfl ?_
            refine x_istore C [(4, .int y2), (3, .int 10), (2, .int y2), (0, .ref (G.ad 82)), (1, .int x1)] dX8_toldFigures_69 (by decide) rfl ?_
            exact x_pick [(0, .ref (G.ad 82)), (1, .int x1), (3, .int 10), (4, .int y2)] [3, 4, 1, 0] rfl (w_X8_toldFigures_L71 C μ fu x1 10 y2 hF)
        · replace hF := f_t hc hF
          refine x_bipush (v := 100) C dX8_toldFigures_51 (by decide) ?_
          refine x_goto (tgt := 67) C dX8_toldFigures_53 (by decide) ?_
          refine x_istore_n C [(3, .int 100), (2, .int y2), (0, .ref (G.ad 82)), (1, .int x1)] dX8_toldFigures_67 rfl (by decide) rfl ?_
          refine x_iload_n C 1 dX8_toldFigures_68 rfl rfl ?_
          refine x_istore C [(4, .int y2), (3, .int 100), (2, .int y2), (0, .ref (G.ad 82)), (1, .int x1)] dX8_toldFigures_69 (by decide) rfl ?_
          exact x_pick [(0, .ref (G.ad 82)), (1, .int x1), (3, .int 100), (4, .int y2)] [3, 4, 1, 0] rfl (w_X8_toldFigures_L71 C μ fu x1 100 y2 hF)
      · replace hF := f_t hc hF
        refine x_sipush (v := 1000) C dX8_toldFigures_40 (by decide) ?_
        refine x_goto (tgt := 67) C dX8_toldFigures_43 (by decide) ?_
        refine x_istore_n C [(3, .int 1000), (2, .int y2), (0, .ref (G.ad 82)), (1, .int x1)] dX8_toldFigures_67 rfl (by decide) rfl ?_
        refine x_iload_n C 1 dX8_toldFigures_68 rfl rfl ?_
        refine x_istore C [(4, .int y2), (3, .int 1000), (2, .int y2), (0, .ref (G.ad 82)), (1, .int x1)] dX8_toldFigures_69 (by decide) rfl ?_
        exact x_pick [(0, .ref (G.ad 82)), (1, .int x1), (3, .int 1000), (4, .int y2)] [3, 4, 1, 0] rfl (w_X8_toldFigures_L71 C μ fu x1 1000 y2 hF)
    · replace hF := f_f hc hF
      refine x_iload_n C 0 dX8_toldFigures_33 rfl rfl ?_
      exact x_iret C dX8_toldFigures_34 (Option.some.inj hF) rfl
set_option maxHeartbeats 4000000 in
theorem c_X8_toldFigures {G : Gl} (l : Launch) (hA : Ap G) {r : Int32}  (x1 : Int32) (μ : Mu) (hF : f_X8_toldFigures x1 μ = some r) : Mth G l yX8_toldFigures cX8_toldFigures 5 (some .int) 1 20 [.ref (G.ad 82), .int x1] (some (.int r)) μ μ := Mth.of hA (by decide) rfl (Nat.le_of_ble_eq_true rfl) (fun p e s0 m args below meth c C => w_X8_toldFigures C x1 μ hF)
set_option maxHeartbeats 4000000 in
theorem w_X8_page_b79 {G : Gl} {p : Program} {l : Launch} {e : Env} {s0 : State} {m : MethodId} {args : Array Value} {below : List Frame} {meth : Method} {c : Code} (C : Cx G p s0 m args meth c cX8_page 5 RX8 (some .int)) {r : Int32}  (μ : Mu) (x1 : Int32) (x2 : Int32) (x3 : Int32) (t0 : Int32) (hF : f_X8_page_b79 μ x1 x2 x3 t0 = some r) : X G p l e 2 46 s0 m args below meth c 5 (some (.int r)) μ μ 79 [(0, .ref (G.ad 82)), (1, .int x1), (2, .int x2), (3, .int x3)] [.int t0] := by
  unfold f_X8_page_b79 at hF
  refine x_istore C [(4, .int t0), (0, .ref (G.ad 82)), (1, .int x1), (2, .int x2), (3, .int x3)] dX8_page_79 (by decide) rfl ?_
  refine x_iload_n C 3 dX8_page_81 rfl rfl ?_
  refine x_if_ne (tgt := 94) C dX8_page_82 (by decide) (fun hc => ?_) (fun hc => ?_)
  · replace hF := f_f hc hF
    refine x_iload_n C 3 dX8_page_94 rfl rfl ?_
    refine x_iconst (v := 1) C dX8_page_95 (by decide) ?_
    refine x_icmp_ne (tgt := 111) C dX8_page_96 (by decide) (fun hc => ?_) (fun hc => ?_)
    · replace hF := f_f hc hF
      refine x_iload_n C 4 dX8_page_111 rfl rfl ?_
      exact x_iret C dX8_page_112 (Option.some.inj hF) rfl
    · replace hF := f_t hc hF
      refine x_aload_n C 1 dX8_page_99 rfl rfl ?_
      refine x_getR C fc_X8 fl_X8_31 sh_82 (by decide) rfl dX8_page_100 ?_
      refine x_iload_n C 2 dX8_page_103 rfl rfl ?_
      obtain ⟨hi1, hF⟩ := f_chk hF
      refine x_iald C sh_90 hi1 dX8_page_104 ?_
      refine x_iload C 0 dX8_page_105 rfl ?_
      obtain ⟨hz2, hF⟩ := f_nz hF
      refine x_irem C dX8_page_107 hz2 ?_
      refine x_goto (tgt := 112) C dX8_page_108 (by decide) ?_
      exact x_iret C dX8_page_112 (Option.some.inj hF) rfl
  · replace hF := f_t hc hF
    refine x_aload_n C 1 dX8_page_85 rfl rfl ?_
    refine x_getR C fc_X8 fl_X8_28 sh_82 (by decide) rfl dX8_page_86 ?_
    refine x_iload_n C 2 dX8_page_89 rfl rfl ?_
    obtain ⟨hi3, hF⟩ := f_chk hF
    refine x_iald C sh_89 hi3 dX8_page_90 ?_
    refine x_goto (tgt := 112) C dX8_page_91 (by decide) ?_
    exact x_iret C dX8_page_112 (Option.some.inj hF) rfl
set_option maxHeartbeats 4000000 in
theorem w_X8_page {G : Gl} {p : Program} {l : Launch} {e : Env} {s0 : State} {m : MethodId} {args : Array Value} {below : List Frame} {meth : Method} {c : Code} (C : Cx G p s0 m args meth c cX8_page 5 RX8 (some .int)) {r : Int32}  (x1 : Int32) (x2 : Int32) (μ : Mu) (hF : f_X8_page x1 x2 μ = some r) : X G p l e 2 46 s0 m args below meth c 5 (some (.int r)) μ μ 0 [(0, .ref (G.ad 82)), (1, .int x1), (2, .int x2)] [] := by
  unfold f_X8_page at hF
  refine x_aload_n C 0 dX8_page_0 rfl rfl ?_
  refine x_iload_n C 1 dX8_page_1 rfl rfl ?_
  refine x_cVi (rest := []) C (c_X8_noWork l C.2.2.2.2.2.2.2.2 x1 μ) cw_X8_147 sh_82 rfl rfl ⟨by decide, by decide⟩ rfl rfl (Nat.le_of_ble_eq_true rfl) dX8_page_2 ?_
  refine x_if_eq (tgt := 12) C dX8_page_5 (by decide) (fun hc => ?_) (fun hc => ?_)
  · replace hF := f_t hc hF
    refine x_iload_n C 2 dX8_page_12 rfl rfl ?_
    refine x_i2l C dX8_page_13 ?_
    refine x_lconst (v := 0) C dX8_page_14 (by decide) ?_
    refine x_ldc2 C cl_X8_156 dX8_page_15 ?_
    refine x_cSi (rest := []) C (c_X8_in l C.2.2.2.2.2.2.2.2 ((x2 : Int32).toInt64) 0 2 μ) cw_X8_127 ⟨by decide, by decide⟩ rfl rfl (Nat.le_of_ble_eq_true rfl) dX8_page_18 ?_
    refine x_if_ne (tgt := 28) C dX8_page_21 (by decide) (fun hc => ?_) (fun hc => ?_)
    · replace hF := f_f hc hF
      refine x_aload_n C 0 dX8_page_28 rfl rfl ?_
      refine x_getR C fc_X8 fl_X8_28 sh_82 (by decide) rfl dX8_page_29 ?_
      refine x_iload_n C 1 dX8_page_32 rfl rfl ?_
      obtain ⟨hi1, hF⟩ := f_chk hF
      refine x_iald C sh_89 hi1 dX8_page_33 ?_
      refine x_if_ge (tgt := 39) C dX8_page_34 (by decide) (fun hc => ?_) (fun hc => ?_)
      · replace hF := f_t hc hF
        refine x_aload_n C 0 dX8_page_39 rfl rfl ?_
        refine x_iload_n C 1 dX8_page_40 rfl rfl ?_
        obtain ⟨q2, hq2, hF⟩ := f_bind hF
        refine x_cVi (rest := []) C (c_X8_toldFigures l C.2.2.2.2.2.2.2.2 x1 μ hq2) cw_X8_232 sh_82 rfl rfl ⟨by decide, by decide⟩ rfl rfl (Nat.le_of_ble_eq_true rfl) dX8_page_41 ?_
        refine x_istore_n C [(3, .int q2), (0, .ref (G.ad 82)), (1, .int x1), (2, .int x2)] dX8_page_44 rfl (by decide) rfl ?_
        refine x_iload_n C 0 dX8_page_45 rfl rfl ?_
        refine x_iconst (v := 4) C dX8_page_46 (by decide) ?_
        refine x_icmp_ne (tgt := 56) C dX8_page_47 (by decide) (fun hc => ?_) (fun hc => ?_)
        · replace hF := f_f hc hF
          refine x_iload_n C 0 dX8_page_56 rfl rfl ?_
          refine x_iconst (v := 3) C dX8_page_57 (by decide) ?_
          refine x_icmp_ne (tgt := 67) C dX8_page_58 (by decide) (fun hc => ?_) (fun hc => ?_)
          · replace hF := f_f hc hF
            refine x_iload_n C 0 dX8_page_67 rfl rfl ?_
            refine x_iconst (v := 2) C dX8_page_68 (by decide) ?_
            refine x_icmp_ne (tgt := 77) C dX8_page_69 (by decide) (fun hc => ?_) (fun hc => ?_)
            · replace hF := f_f hc hF
              refine x_bipush (v := 10) C dX8_page_77 (by decide) ?_
              exact x_pick [(0, .ref (G.ad 82)), (1, .int x1), (2, .int x2), (3, .int q2)] [1, 2, 3, 0] rfl (w_X8_page_b79 C μ x1 x2 q2 10 hF)
            · replace hF := f_t hc hF
              refine x_bipush (v := 100) C dX8_page_72 (by decide) ?_
              refine x_goto (tgt := 79) C dX8_page_74 (by decide) ?_
              exact x_pick [(0, .ref (G.ad 82)), (1, .int x1), (2, .int x2), (3, .int q2)] [1, 2, 3, 0] rfl (w_X8_page_b79 C μ x1 x2 q2 100 hF)
          · replace hF := f_t hc hF
            refine x_sipush (v := 1000) C dX8_page_61 (by decide) ?_
            refine x_goto (tgt := 79) C dX8_page_64 (by decide) ?_
            exact x_pick [(0, .ref (G.ad 82)), (1, .int x1), (2, .int x2), (3, .int q2)] [1, 2, 3, 0] rfl (w_X8_page_b79 C μ x1 x2 q2 1000 hF)
        · replace hF := f_t hc hF
          refine x_sipush (v := 10000) C dX8_page_50 (by decide) ?_
          refine x_goto (tgt := 79) C dX8_page_53 (by decide) ?_
          exact x_pick [(0, .ref (G.ad 82)), (1, .int x1), (2, .int x2), (3, .int q2)] [1, 2, 3, 0] rfl (w_X8_page_b79 C μ x1 x2 q2 10000 hF)
      · replace hF := f_f hc hF
        refine x_iconst (v := (-1)) C dX8_page_37 (by decide) ?_
        exact x_iret C dX8_page_38 (Option.some.inj hF) rfl
    · replace hF := f_t hc hF
      refine x_sipush (v := (-1002)) C dX8_page_24 (by decide) ?_
      exact x_iret C dX8_page_27 (Option.some.inj hF) rfl
  · replace hF := f_f hc hF
    refine x_sipush (v := (-1001)) C dX8_page_8 (by decide) ?_
    exact x_iret C dX8_page_11 (Option.some.inj hF) rfl
set_option maxHeartbeats 4000000 in
theorem c_X8_page {G : Gl} (l : Launch) (hA : Ap G) {r : Int32}  (x1 : Int32) (x2 : Int32) (μ : Mu) (hF : f_X8_page x1 x2 μ = some r) : Mth G l yX8_page cX8_page 5 (some .int) 2 46 [.ref (G.ad 82), .int x1, .int x2] (some (.int r)) μ μ := Mth.of hA (by decide) rfl (Nat.le_of_ble_eq_true rfl) (fun p e s0 m args below meth c C => w_X8_page C x1 x2 μ hF)
set_option maxHeartbeats 4000000 in
theorem w_X8_pages_b63 {G : Gl} {p : Program} {l : Launch} {e : Env} {s0 : State} {m : MethodId} {args : Array Value} {below : List Frame} {meth : Method} {c : Code} (C : Cx G p s0 m args meth c cX8_pages 5 RX8 (some .int)) {r : Int32} {μf : Mu}  (x1 : Int32) (x2 : Int32) (x3 : Int32) (μ : Mu) (hF : f_X8_pages_b63 x1 x2 x3 μ = some (r, μf)) : X G p l e 2 46 s0 m args below meth c 5 (some (.int r)) μf μ 63 [(0, .ref (G.ad 82)), (1, .int x1), (2, .int x2), (3, .int x3)] [] := by
  unfold f_X8_pages_b63 at hF
  refine x_aload_n C 0 dX8_pages_63 rfl rfl ?_
  refine x_getR C fc_X8 fl_X8_28 sh_82 (by decide) rfl dX8_pages_64 ?_
  refine x_iload_n C 1 dX8_pages_67 rfl rfl ?_
  refine x_iload_n C 2 dX8_pages_68 rfl rfl ?_
  obtain ⟨hi1, hF⟩ := f_chk hF
  refine x_iast C sh_89 hi1 dX8_pages_69 ?_
  refine x_letM hF (fun μ2 hF => ?_)
  refine x_aload_n C 0 dX8_pages_70 rfl rfl ?_
  refine x_getR C fc_X8 fl_X8_31 sh_82 (by decide) rfl dX8_pages_71 ?_
  refine x_iload_n C 1 dX8_pages_74 rfl rfl ?_
  refine x_iload_n C 3 dX8_pages_75 rfl rfl ?_
  refine x_iast C sh_90 hi1 dX8_pages_76 ?_
  refine x_letM hF (fun μ3 hF => ?_)
  refine x_iconst (v := 1) C dX8_pages_77 (by decide) ?_
  exact x_iret C dX8_pages_78 (Prod.mk.inj (Option.some.inj hF)).1 (Prod.mk.inj (Option.some.inj hF)).2
set_option maxHeartbeats 4000000 in
theorem w_X8_pages_b27 {G : Gl} {p : Program} {l : Launch} {e : Env} {s0 : State} {m : MethodId} {args : Array Value} {below : List Frame} {meth : Method} {c : Code} (C : Cx G p s0 m args meth c cX8_pages 5 RX8 (some .int)) {r : Int32} {μf : Mu}  (x1 : Int32) (x2 : Int32) (x3 : Int32) (t0 : Int32) (μ : Mu) (hF : f_X8_pages_b27 x1 x2 x3 t0 μ = some (r, μf)) : X G p l e 2 46 s0 m args below meth c 5 (some (.int r)) μf μ 27 [(0, .ref (G.ad 82)), (1, .int x1), (2, .int x2), (3, .int x3)] [.int t0] := by
  unfold f_X8_pages_b27 at hF
  refine x_istore C [(4, .int t0), (0, .ref (G.ad 82)), (1, .int x1), (2, .int x2), (3, .int x3)] dX8_pages_27 (by decide) rfl ?_
  refine x_iload C 0 dX8_pages_29 rfl ?_
  refine x_if_ne (tgt := 63) C dX8_pages_31 (by decide) (fun hc => ?_) (fun hc => ?_)
  · replace hF := f_f hc hF
    exact x_pick [(0, .ref (G.ad 82)), (1, .int x1), (2, .int x2), (3, .int x3)] [1, 2, 3, 4] rfl (w_X8_pages_b63 C x1 x2 x3 μ hF)
  · replace hF := f_t hc hF
    refine x_iload_n C 3 dX8_pages_34 rfl rfl ?_
    refine x_i2l C dX8_pages_35 ?_
    refine x_lconst (v := 0) C dX8_pages_36 (by decide) ?_
    refine x_ldc2 C cl_X8_151 dX8_pages_37 ?_
    refine x_cSi (rest := []) C (c_X8_in l C.2.2.2.2.2.2.2.2 ((x2 : Int32).toInt64) 0 9999 μ) cw_X8_127 ⟨by decide, by decide⟩ rfl rfl (Nat.le_of_ble_eq_true rfl) dX8_pages_40 ?_
    refine x_if_eq (tgt := 59) C dX8_pages_43 (by decide) (fun hc => ?_) (fun hc => ?_)
    · replace hF := f_t hc hF
      refine x_sipush (v := (-1002)) C dX8_pages_59 (by decide) ?_
      exact x_iret C dX8_pages_62 (Prod.mk.inj (Option.some.inj hF)).1 (Prod.mk.inj (Option.some.inj hF)).2
    · replace hF := f_f hc hF
      refine x_iload_n C 4 dX8_pages_46 rfl rfl ?_
      refine x_i2l C dX8_pages_47 ?_
      refine x_iload_n C 3 dX8_pages_48 rfl rfl ?_
      refine x_i2l C dX8_pages_49 ?_
      refine x_ldc2 C cl_X8_151 dX8_pages_50 ?_
      refine x_cSi (rest := []) C (c_X8_in l C.2.2.2.2.2.2.2.2 ((x3 : Int32).toInt64) ((x2 : Int32).toInt64) 9999 μ) cw_X8_127 ⟨by decide, by decide⟩ rfl rfl (Nat.le_of_ble_eq_true rfl) dX8_pages_53 ?_
      refine x_if_ne (tgt := 63) C dX8_pages_56 (by decide) (fun hc => ?_) (fun hc => ?_)
      · replace hF := f_f hc hF
        exact x_pick [(0, .ref (G.ad 82)), (1, .int x1), (2, .int x2), (3, .int x3)] [1, 2, 3, 4] rfl (w_X8_pages_b63 C x1 x2 x3 μ hF)
      · replace hF := f_t hc hF
        refine x_sipush (v := (-1002)) C dX8_pages_59 (by decide) ?_
        exact x_iret C dX8_pages_62 (Prod.mk.inj (Option.some.inj hF)).1 (Prod.mk.inj (Option.some.inj hF)).2
set_option maxHeartbeats 4000000 in
theorem w_X8_pages {G : Gl} {p : Program} {l : Launch} {e : Env} {s0 : State} {m : MethodId} {args : Array Value} {below : List Frame} {meth : Method} {c : Code} (C : Cx G p s0 m args meth c cX8_pages 5 RX8 (some .int)) {r : Int32} {μf : Mu}  (x1 : Int32) (x2 : Int32) (x3 : Int32) (μ : Mu) (hF : f_X8_pages x1 x2 x3 μ = some (r, μf)) : X G p l e 2 46 s0 m args below meth c 5 (some (.int r)) μf μ 0 [(0, .ref (G.ad 82)), (1, .int x1), (2, .int x2), (3, .int x3)] [] := by
  unfold f_X8_pages at hF
  refine x_aload_n C 0 dX8_pages_0 rfl rfl ?_
  refine x_iload_n C 1 dX8_pages_1 rfl rfl ?_
  refine x_cVi (rest := []) C (c_X8_noWork l C.2.2.2.2.2.2.2.2 x1 μ) cw_X8_147 sh_82 rfl rfl ⟨by decide, by decide⟩ rfl rfl (Nat.le_of_ble_eq_true rfl) dX8_pages_2 ?_
  refine x_if_eq (tgt := 12) C dX8_pages_5 (by decide) (fun hc => ?_) (fun hc => ?_)
  · replace hF := f_t hc hF
    refine x_iload_n C 2 dX8_pages_12 rfl rfl ?_
    refine x_iconst (v := (-1)) C dX8_pages_13 (by decide) ?_
    refine x_icmp_ne (tgt := 26) C dX8_pages_14 (by decide) (fun hc => ?_) (fun hc => ?_)
    · replace hF := f_f hc hF
      refine x_iconst (v := 0) C dX8_pages_26 (by decide) ?_
      exact x_pick [(0, .ref (G.ad 82)), (1, .int x1), (2, .int x2), (3, .int x3)] [0, 1, 2, 3] rfl (w_X8_pages_b27 C x1 x2 x3 0 μ hF)
    · replace hF := f_t hc hF
      refine x_iload_n C 3 dX8_pages_17 rfl rfl ?_
      refine x_iconst (v := (-1)) C dX8_pages_18 (by decide) ?_
      refine x_icmp_ne (tgt := 26) C dX8_pages_19 (by decide) (fun hc => ?_) (fun hc => ?_)
      · replace hF := f_f hc hF
        refine x_iconst (v := 0) C dX8_pages_26 (by decide) ?_
        exact x_pick [(0, .ref (G.ad 82)), (1, .int x1), (2, .int x2), (3, .int x3)] [0, 1, 2, 3] rfl (w_X8_pages_b27 C x1 x2 x3 0 μ hF)
      · replace hF := f_t hc hF
        refine x_iconst (v := 1) C dX8_pages_22 (by decide) ?_
        refine x_goto (tgt := 27) C dX8_pages_23 (by decide) ?_
        exact x_pick [(0, .ref (G.ad 82)), (1, .int x1), (2, .int x2), (3, .int x3)] [0, 1, 2, 3] rfl (w_X8_pages_b27 C x1 x2 x3 1 μ hF)
  · replace hF := f_f hc hF
    refine x_sipush (v := (-1001)) C dX8_pages_8 (by decide) ?_
    exact x_iret C dX8_pages_11 (Prod.mk.inj (Option.some.inj hF)).1 (Prod.mk.inj (Option.some.inj hF)).2
set_option maxHeartbeats 4000000 in
theorem c_X8_pages {G : Gl} (l : Launch) (hA : Ap G) {r : Int32} {μf : Mu}  (x1 : Int32) (x2 : Int32) (x3 : Int32) (μ : Mu) (hF : f_X8_pages x1 x2 x3 μ = some (r, μf)) : Mth G l yX8_pages cX8_pages 5 (some .int) 2 46 [.ref (G.ad 82), .int x1, .int x2, .int x3] (some (.int r)) μf μ := Mth.of hA (by decide) rfl (Nat.le_of_ble_eq_true rfl) (fun p e s0 m args below meth c C => w_X8_pages C x1 x2 x3 μ hF)
set_option maxHeartbeats 4000000 in
theorem w_X8_part {G : Gl} {p : Program} {l : Launch} {e : Env} {s0 : State} {m : MethodId} {args : Array Value} {below : List Frame} {meth : Method} {c : Code} (C : Cx G p s0 m args meth c cX8_part 3 RX8 (some .int)) {r : Int32} {μf : Mu}  (x1 : Int32) (μ : Mu) (hF : f_X8_part x1 μ = some (r, μf)) : X G p l e 2 46 s0 m args below meth c 3 (some (.int r)) μf μ 0 [(0, .ref (G.ad 82)), (1, .int x1)] [] := by
  unfold f_X8_part at hF
  refine x_aload_n C 0 dX8_part_0 rfl rfl ?_
  refine x_iload_n C 1 dX8_part_1 rfl rfl ?_
  refine x_cVi (rest := []) C (c_X8_noWork l C.2.2.2.2.2.2.2.2 x1 μ) cw_X8_147 sh_82 rfl rfl ⟨by decide, by decide⟩ rfl rfl (Nat.le_of_ble_eq_true rfl) dX8_part_2 ?_
  refine x_if_eq (tgt := 12) C dX8_part_5 (by decide) (fun hc => ?_) (fun hc => ?_)
  · replace hF := f_t hc hF
    refine x_aload_n C 0 dX8_part_12 rfl rfl ?_
    refine x_getR C fc_X8 fl_X8_34 sh_82 (by decide) rfl dX8_part_13 ?_
    refine x_bipush (v := 96) C dX8_part_16 (by decide) ?_
    refine x_iload_n C 1 dX8_part_18 rfl rfl ?_
    refine x_iadd C dX8_part_19 ?_
    obtain ⟨hi1, hF⟩ := f_chk hF
    refine x_iald C sh_91 hi1 dX8_part_20 ?_
    refine x_letI hF (fun y2 hF => ?_)
    refine x_istore_n C [(2, .int y2), (0, .ref (G.ad 82)), (1, .int x1)] dX8_part_21 rfl (by decide) rfl ?_
    refine x_iload_n C 0 dX8_part_22 rfl rfl ?_
    refine x_if_ge (tgt := 30) C dX8_part_23 (by decide) (fun hc => ?_) (fun hc => ?_)
    · replace hF := f_t hc hF
      refine x_aload_n C 1 dX8_part_30 rfl rfl ?_
      refine x_getR C fc_X8 fl_X8_34 sh_82 (by decide) rfl dX8_part_31 ?_
      refine x_bipush (v := 96) C dX8_part_34 (by decide) ?_
      refine x_iload_n C 2 dX8_part_36 rfl rfl ?_
      refine x_iadd C dX8_part_37 ?_
      refine x_iconst (v := (-1)) C dX8_part_38 (by decide) ?_
      refine x_iast C sh_91 hi1 dX8_part_39 ?_
      refine x_letM hF (fun μ3 hF => ?_)
      refine x_iload_n C 0 dX8_part_40 rfl rfl ?_
      exact x_iret C dX8_part_41 (Prod.mk.inj (Option.some.inj hF)).1 (Prod.mk.inj (Option.some.inj hF)).2
    · replace hF := f_f hc hF
      refine x_sipush (v := (-1003)) C dX8_part_26 (by decide) ?_
      exact x_iret C dX8_part_29 (Prod.mk.inj (Option.some.inj hF)).1 (Prod.mk.inj (Option.some.inj hF)).2
  · replace hF := f_f hc hF
    refine x_sipush (v := (-1001)) C dX8_part_8 (by decide) ?_
    exact x_iret C dX8_part_11 (Prod.mk.inj (Option.some.inj hF)).1 (Prod.mk.inj (Option.some.inj hF)).2
set_option maxHeartbeats 4000000 in
theorem c_X8_part {G : Gl} (l : Launch) (hA : Ap G) {r : Int32} {μf : Mu}  (x1 : Int32) (μ : Mu) (hF : f_X8_part x1 μ = some (r, μf)) : Mth G l yX8_part cX8_part 3 (some .int) 2 46 [.ref (G.ad 82), .int x1] (some (.int r)) μf μ := Mth.of hA (by decide) rfl (Nat.le_of_ble_eq_true rfl) (fun p e s0 m args below meth c C => w_X8_part C x1 μ hF)
set_option maxHeartbeats 4000000 in
theorem w_X8_piece_b31 {G : Gl} {p : Program} {l : Launch} {e : Env} {s0 : State} {m : MethodId} {args : Array Value} {below : List Frame} {meth : Method} {c : Code} (C : Cx G p s0 m args meth c cX8_piece 4 RX8 (some .int)) {r : Int32} {μf : Mu}  (x1 : Int32) (x2 : Int32) (x3 : Int32) (μ : Mu) (hF : f_X8_piece_b31 x1 x2 x3 μ = some (r, μf)) : X G p l e 5 117 s0 m args below meth c 4 (some (.int r)) μf μ 31 [(0, .ref (G.ad 82)), (1, .int x1), (2, .int x2), (3, .int x3)] [] := by
  unfold f_X8_piece_b31 at hF
  refine x_aload_n C 0 dX8_piece_31 rfl rfl ?_
  refine x_iconst (v := 4) C dX8_piece_32 (by decide) ?_
  obtain ⟨q1, hq1, hF⟩ := f_bind hF
  refine x_cVv (rest := []) C (c_X8_findAll l C.2.2.2.2.2.2.2.2 4 μ hq1) cw_X8_221 sh_82 rfl rfl ⟨by decide, by decide⟩ rfl rfl (Nat.le_of_ble_eq_true rfl) dX8_piece_33 ?_
  refine x_aload_n C 0 dX8_piece_36 rfl rfl ?_
  refine x_iload_n C 1 dX8_piece_37 rfl rfl ?_
  obtain ⟨q2, hq2, hF⟩ := f_bind hF
  refine x_cVv (rest := []) C (c_X8_findPieces l C.2.2.2.2.2.2.2.2 x1 q1 hq2) cw_X8_253 sh_82 rfl rfl ⟨by decide, by decide⟩ rfl rfl (Nat.le_of_ble_eq_true rfl) dX8_piece_38 ?_
  refine x_iload_n C 2 dX8_piece_41 rfl rfl ?_
  refine x_iconst (v := (-1)) C dX8_piece_42 (by decide) ?_
  refine x_icmp_ne (tgt := 53) C dX8_piece_43 (by decide) (fun hc => ?_) (fun hc => ?_)
  · replace hF := f_f hc hF
    refine x_iload_n C 2 dX8_piece_53 rfl rfl ?_
    refine x_i2l C dX8_piece_54 ?_
    refine x_lconst (v := 0) C dX8_piece_55 (by decide) ?_
    refine x_aload_n C 0 dX8_piece_56 rfl rfl ?_
    refine x_getI C fc_X8 fl_X8_250 sh_82 (by decide) rfl dX8_piece_57 ?_
    refine x_iconst (v := 1) C dX8_piece_60 (by decide) ?_
    refine x_isub C dX8_piece_61 ?_
    refine x_i2l C dX8_piece_62 ?_
    refine x_cSi (rest := []) C (c_X8_in l C.2.2.2.2.2.2.2.2 ((x2 : Int32).toInt64) 0 (((q2 82 34) - 1 : Int32).toInt64) q2) cw_X8_127 ⟨by decide, by decide⟩ rfl rfl (Nat.le_of_ble_eq_true rfl) dX8_piece_63 ?_
    refine x_if_ne (tgt := 73) C dX8_piece_66 (by decide) (fun hc => ?_) (fun hc => ?_)
    · replace hF := f_f hc hF
      refine x_iload_n C 3 dX8_piece_73 rfl rfl ?_
      refine x_if_ne (tgt := 86) C dX8_piece_74 (by decide) (fun hc => ?_) (fun hc => ?_)
      · replace hF := f_f hc hF
        refine x_aload_n C 0 dX8_piece_86 rfl rfl ?_
        refine x_getR C fc_X8 fl_X8_99 sh_82 (by decide) rfl dX8_piece_87 ?_
        refine x_iload_n C 2 dX8_piece_90 rfl rfl ?_
        obtain ⟨hi3, hF⟩ := f_chk hF
        refine x_iald C sh_111 hi3 dX8_piece_91 ?_
        exact x_iret C dX8_piece_92 (Prod.mk.inj (Option.some.inj hF)).1 (Prod.mk.inj (Option.some.inj hF)).2
      · replace hF := f_t hc hF
        refine x_aload_n C 0 dX8_piece_77 rfl rfl ?_
        refine x_getR C fc_X8 fl_X8_96 sh_82 (by decide) rfl dX8_piece_78 ?_
        refine x_iload_n C 2 dX8_piece_81 rfl rfl ?_
        obtain ⟨hi4, hF⟩ := f_chk hF
        refine x_iald C sh_110 hi4 dX8_piece_82 ?_
        refine x_goto (tgt := 92) C dX8_piece_83 (by decide) ?_
        exact x_iret C dX8_piece_92 (Prod.mk.inj (Option.some.inj hF)).1 (Prod.mk.inj (Option.some.inj hF)).2
    · replace hF := f_t hc hF
      refine x_iconst (v := (-1)) C dX8_piece_69 (by decide) ?_
      refine x_goto (tgt := 92) C dX8_piece_70 (by decide) ?_
      exact x_iret C dX8_piece_92 (Prod.mk.inj (Option.some.inj hF)).1 (Prod.mk.inj (Option.some.inj hF)).2
  · replace hF := f_t hc hF
    refine x_aload_n C 0 dX8_piece_46 rfl rfl ?_
    refine x_getI C fc_X8 fl_X8_250 sh_82 (by decide) rfl dX8_piece_47 ?_
    refine x_goto (tgt := 92) C dX8_piece_50 (by decide) ?_
    exact x_iret C dX8_piece_92 (Prod.mk.inj (Option.some.inj hF)).1 (Prod.mk.inj (Option.some.inj hF)).2
set_option maxHeartbeats 4000000 in
theorem w_X8_piece {G : Gl} {p : Program} {l : Launch} {e : Env} {s0 : State} {m : MethodId} {args : Array Value} {below : List Frame} {meth : Method} {c : Code} (C : Cx G p s0 m args meth c cX8_piece 4 RX8 (some .int)) {r : Int32} {μf : Mu}  (x1 : Int32) (x2 : Int32) (x3 : Int32) (μ : Mu) (hF : f_X8_piece x1 x2 x3 μ = some (r, μf)) : X G p l e 5 117 s0 m args below meth c 4 (some (.int r)) μf μ 0 [(0, .ref (G.ad 82)), (1, .int x1), (2, .int x2), (3, .int x3)] [] := by
  unfold f_X8_piece at hF
  refine x_aload_n C 0 dX8_piece_0 rfl rfl ?_
  refine x_iload_n C 1 dX8_piece_1 rfl rfl ?_
  obtain ⟨q1, hq1, hF⟩ := f_bind hF
  refine x_cVi (rest := []) C (c_X8_noNote l C.2.2.2.2.2.2.2.2 x1 μ hq1) cw_X8_239 sh_82 rfl rfl ⟨by decide, by decide⟩ rfl rfl (Nat.le_of_ble_eq_true rfl) dX8_piece_2 ?_
  refine x_if_eq (tgt := 12) C dX8_piece_5 (by decide) (fun hc => ?_) (fun hc => ?_)
  · replace hF := f_t hc hF
    refine x_iload_n C 2 dX8_piece_12 rfl rfl ?_
    refine x_iconst (v := (-1)) C dX8_piece_13 (by decide) ?_
    refine x_icmp_eq (tgt := 31) C dX8_piece_14 (by decide) (fun hc => ?_) (fun hc => ?_)
    · replace hF := f_t hc hF
      exact x_pick [(0, .ref (G.ad 82)), (1, .int x1), (2, .int x2), (3, .int x3)] [0, 1, 2, 3] rfl (w_X8_piece_b31 C x1 x2 x3 μ hF)
    · replace hF := f_f hc hF
      refine x_iload_n C 3 dX8_piece_17 rfl rfl ?_
      refine x_i2l C dX8_piece_18 ?_
      refine x_lconst (v := 0) C dX8_piece_19 (by decide) ?_
      refine x_lconst (v := 1) C dX8_piece_20 (by decide) ?_
      refine x_cSi (rest := []) C (c_X8_in l C.2.2.2.2.2.2.2.2 ((x3 : Int32).toInt64) 0 1 μ) cw_X8_127 ⟨by decide, by decide⟩ rfl rfl (Nat.le_of_ble_eq_true rfl) dX8_piece_21 ?_
      refine x_if_ne (tgt := 31) C dX8_piece_24 (by decide) (fun hc => ?_) (fun hc => ?_)
      · replace hF := f_f hc hF
        exact x_pick [(0, .ref (G.ad 82)), (1, .int x1), (2, .int x2), (3, .int x3)] [0, 1, 2, 3] rfl (w_X8_piece_b31 C x1 x2 x3 μ hF)
      · replace hF := f_t hc hF
        refine x_sipush (v := (-1002)) C dX8_piece_27 (by decide) ?_
        exact x_iret C dX8_piece_30 (Prod.mk.inj (Option.some.inj hF)).1 (Prod.mk.inj (Option.some.inj hF)).2
  · replace hF := f_f hc hF
    refine x_sipush (v := (-1001)) C dX8_piece_8 (by decide) ?_
    exact x_iret C dX8_piece_11 (Prod.mk.inj (Option.some.inj hF)).1 (Prod.mk.inj (Option.some.inj hF)).2
set_option maxHeartbeats 4000000 in
theorem c_X8_piece {G : Gl} (l : Launch) (hA : Ap G) {r : Int32} {μf : Mu}  (x1 : Int32) (x2 : Int32) (x3 : Int32) (μ : Mu) (hF : f_X8_piece x1 x2 x3 μ = some (r, μf)) : Mth G l yX8_piece cX8_piece 4 (some .int) 5 117 [.ref (G.ad 82), .int x1, .int x2, .int x3] (some (.int r)) μf μ := Mth.of hA (by decide) rfl (Nat.le_of_ble_eq_true rfl) (fun p e s0 m args below meth c C => w_X8_piece C x1 x2 x3 μ hF)
set_option maxHeartbeats 4000000 in
theorem w_X8_rank_L18 {G : Gl} {p : Program} {l : Launch} {e : Env} {s0 : State} {m : MethodId} {args : Array Value} {below : List Frame} {meth : Method} {c : Code} (C : Cx G p s0 m args meth c cX8_rank 5 RX8 (some .int)) {r : Int32} {μf : Mu}  {k9 : Int32 → Int32 → Mu → Option (Int32 × Mu)} (hk9 : ∀ (x1 : Int32) (x2 : Int32) (μ : Mu), k9 x1 x2 μ = some (r, μf) → X G p l e 5 117 s0 m args below meth c 5 (some (.int r)) μf μ 9 [(0, .ref (G.ad 82)), (1, .int x1), (2, .int x2)] []) : ∀ (n : Nat) (x1 : Int32) (x3 : Int32) (x4 : Int32) (μ : Mu), f_X8_rank_L18 k9 n x1 x3 x4 μ = some (r, μf) → X G p l e 5 117 s0 m args below meth c 5 (some (.int r)) μf μ 18 [(0, .ref (G.ad 82)), (1, .int x1), (3, .int x3), (4, .int x4)] [] := by
  intro n
  induction n with
  | zero =>
    intro x1 x3 x4 μ hF
    rw [f_X8_rank_L18] at hF
    cases hF
  | succ n ih =>
    intro x1 x3 x4 μ hF
    rw [f_X8_rank_L18] at hF
    refine x_iload C 3 dX8_rank_18 rfl ?_
    refine x_aload_n C 0 dX8_rank_20 rfl rfl ?_
    refine x_getI C fc_X8 fl_X8_124 sh_82 (by decide) rfl dX8_rank_21 ?_
    refine x_icmp_ge (tgt := 55) C dX8_rank_24 (by decide) (fun hc => ?_) (fun hc => ?_)
    · replace hF := f_t hc hF
      refine x_iload_n C 2 dX8_rank_55 rfl rfl ?_
      refine x_iload_n C 1 dX8_rank_56 rfl rfl ?_
      refine x_icmp_le (tgt := 64) C dX8_rank_57 (by decide) (fun hc => ?_) (fun hc => ?_)
      · replace hF := f_t hc hF
        refine x_iconst (v := 0) C dX8_rank_64 (by decide) ?_
        refine x_istore_n C [(2, .int 0), (0, .ref (G.ad 82)), (1, .int x1), (3, .int x3), (4, .int x4)] dX8_rank_65 rfl (by decide) rfl ?_
        refine x_iload_n C 2 dX8_rank_66 rfl rfl ?_
        refine x_iload_n C 0 dX8_rank_67 rfl rfl ?_
        refine x_cSi (rest := [.int x1]) C (c_X8_one l C.2.2.2.2.2.2.2.2 0 μ) cw_X8_205 ⟨by decide, by decide⟩ rfl rfl (Nat.le_of_ble_eq_true rfl) dX8_rank_68 ?_
        refine x_iadd C dX8_rank_71 ?_
        refine x_letI hF (fun y1 hF => ?_)
        refine x_istore_n C [(1, .int y1), (2, .int 0), (0, .ref (G.ad 82)), (3, .int x3), (4, .int x4)] dX8_rank_72 rfl (by decide) rfl ?_
        refine x_goto (tgt := 9) C dX8_rank_73 (by decide) ?_
        exact x_pick [(0, .ref (G.ad 82)), (1, .int y1), (2, .int 0)] [2, 0, 1] rfl (hk9 y1 0 μ hF)
      · replace hF := f_f hc hF
        refine x_iconst (v := 1) C dX8_rank_60 (by decide) ?_
        refine x_goto (tgt := 65) C dX8_rank_61 (by decide) ?_
        refine x_istore_n C [(2, .int 1), (0, .ref (G.ad 82)), (1, .int x1), (3, .int x3), (4, .int x4)] dX8_rank_65 rfl (by decide) rfl ?_
        refine x_iload_n C 2 dX8_rank_66 rfl rfl ?_
        refine x_iload_n C 0 dX8_rank_67 rfl rfl ?_
        refine x_cSi (rest := [.int x1]) C (c_X8_one l C.2.2.2.2.2.2.2.2 1 μ) cw_X8_205 ⟨by decide, by decide⟩ rfl rfl (Nat.le_of_ble_eq_true rfl) dX8_rank_68 ?_
        refine x_iadd C dX8_rank_71 ?_
        refine x_letI hF (fun y2 hF => ?_)
        refine x_istore_n C [(1, .int y2), (2, .int 1), (0, .ref (G.ad 82)), (3, .int x3), (4, .int x4)] dX8_rank_72 rfl (by decide) rfl ?_
        refine x_goto (tgt := 9) C dX8_rank_73 (by decide) ?_
        exact x_pick [(0, .ref (G.ad 82)), (1, .int y2), (2, .int 1)] [2, 0, 1] rfl (hk9 y2 1 μ hF)
    · replace hF := f_f hc hF
      refine x_iload_n C 2 dX8_rank_27 rfl rfl ?_
      refine x_aload_n C 0 dX8_rank_28 rfl rfl ?_
      refine x_getR C fc_X8 fl_X8_72 sh_82 (by decide) rfl dX8_rank_29 ?_
      refine x_iload C 3 dX8_rank_32 rfl ?_
      obtain ⟨hi3, hF⟩ := f_chk hF
      refine x_iald C sh_102 hi3 dX8_rank_34 ?_
      refine x_iload_n C 1 dX8_rank_35 rfl rfl ?_
      refine x_icmp_le (tgt := 43) C dX8_rank_36 (by decide) (fun hc => ?_) (fun hc => ?_)
      · replace hF := f_t hc hF
        refine x_iconst (v := 0) C dX8_rank_43 (by decide) ?_
        refine x_cSi (rest := [.int x3]) C (c_X8_one l C.2.2.2.2.2.2.2.2 0 μ) cw_X8_205 ⟨by decide, by decide⟩ rfl rfl (Nat.le_of_ble_eq_true rfl) dX8_rank_44 ?_
        refine x_iadd C dX8_rank_47 ?_
        refine x_letI hF (fun y4 hF => ?_)
        refine x_istore_n C [(3, .int y4), (0, .ref (G.ad 82)), (1, .int x1), (4, .int x4)] dX8_rank_48 rfl (by decide) rfl ?_
        refine x_iinc C [(4, .int (x4 + 1)), (3, .int y4), (0, .ref (G.ad 82)), (1, .int x1)] 3 dX8_rank_49 rfl rfl (by decide) rfl ?_
        refine x_goto (tgt := 18) C dX8_rank_52 (by decide) ?_
        exact x_pick [(0, .ref (G.ad 82)), (1, .int x1), (3, .int y4), (4, .int (x4 + 1))] [2, 3, 1, 0] rfl (ih x1 y4 (x4 + 1) μ hF)
      · replace hF := f_f hc hF
        refine x_iconst (v := 1) C dX8_rank_39 (by decide) ?_
        refine x_goto (tgt := 44) C dX8_rank_40 (by decide) ?_
        refine x_cSi (rest := [.int x3]) C (c_X8_one l C.2.2.2.2.2.2.2.2 1 μ) cw_X8_205 ⟨by decide, by decide⟩ rfl rfl (Nat.le_of_ble_eq_true rfl) dX8_rank_44 ?_
        refine x_iadd C dX8_rank_47 ?_
        refine x_letI hF (fun y5 hF => ?_)
        refine x_istore_n C [(3, .int y5), (0, .ref (G.ad 82)), (1, .int x1), (4, .int x4)] dX8_rank_48 rfl (by decide) rfl ?_
        refine x_iinc C [(4, .int (x4 + 1)), (3, .int y5), (0, .ref (G.ad 82)), (1, .int x1)] 3 dX8_rank_49 rfl rfl (by decide) rfl ?_
        refine x_goto (tgt := 18) C dX8_rank_52 (by decide) ?_
        exact x_pick [(0, .ref (G.ad 82)), (1, .int x1), (3, .int y5), (4, .int (x4 + 1))] [2, 3, 1, 0] rfl (ih x1 y5 (x4 + 1) μ hF)
set_option maxHeartbeats 4000000 in
theorem w_X8_rank_L9 {G : Gl} {p : Program} {l : Launch} {e : Env} {s0 : State} {m : MethodId} {args : Array Value} {below : List Frame} {meth : Method} {c : Code} (C : Cx G p s0 m args meth c cX8_rank 5 RX8 (some .int)) {r : Int32} {μf : Mu}  : ∀ (n : Nat) (x1 : Int32) (x2 : Int32) (μ : Mu), f_X8_rank_L9 n x1 x2 μ = some (r, μf) → X G p l e 5 117 s0 m args below meth c 5 (some (.int r)) μf μ 9 [(0, .ref (G.ad 82)), (1, .int x1), (2, .int x2)] [] := by
  intro n
  induction n with
  | zero =>
    intro x1 x2 μ hF
    rw [f_X8_rank_L9] at hF
    cases hF
  | succ n ih =>
    intro x1 x2 μ hF
    rw [f_X8_rank_L9] at hF
    refine x_iload_n C 2 dX8_rank_9 rfl rfl ?_
    refine x_if_eq (tgt := 76) C dX8_rank_10 (by decide) (fun hc => ?_) (fun hc => ?_)
    · replace hF := f_t hc hF
      refine x_iload_n C 1 dX8_rank_76 rfl rfl ?_
      exact x_iret C dX8_rank_77 (Prod.mk.inj (Option.some.inj hF)).1 (Prod.mk.inj (Option.some.inj hF)).2
    · replace hF := f_f hc hF
      refine x_iconst (v := 0) C dX8_rank_13 (by decide) ?_
      refine x_istore_n C [(3, .int 0), (0, .ref (G.ad 82)), (1, .int x1), (2, .int x2)] dX8_rank_14 rfl (by decide) rfl ?_
      refine x_iconst (v := 0) C dX8_rank_15 (by decide) ?_
      refine x_istore C [(4, .int 0), (3, .int 0), (0, .ref (G.ad 82)), (1, .int x1), (2, .int x2)] dX8_rank_16 (by decide) rfl ?_
      exact x_pick [(0, .ref (G.ad 82)), (1, .int x1), (3, .int 0), (4, .int 0)] [2, 3, 1, 0] rfl (w_X8_rank_L18 C ih fu x1 0 0 μ hF)
set_option maxHeartbeats 4000000 in
theorem w_X8_rank {G : Gl} {p : Program} {l : Launch} {e : Env} {s0 : State} {m : MethodId} {args : Array Value} {below : List Frame} {meth : Method} {c : Code} (C : Cx G p s0 m args meth c cX8_rank 5 RX8 (some .int)) {r : Int32} {μf : Mu}  (μ : Mu) (hF : f_X8_rank μ = some (r, μf)) : X G p l e 5 117 s0 m args below meth c 5 (some (.int r)) μf μ 0 [(0, .ref (G.ad 82))] [] := by
  unfold f_X8_rank at hF
  refine x_aload_n C 0 dX8_rank_0 rfl rfl ?_
  refine x_iconst (v := 4) C dX8_rank_1 (by decide) ?_
  obtain ⟨q1, hq1, hF⟩ := f_bind hF
  refine x_cVv (rest := []) C (c_X8_findAll l C.2.2.2.2.2.2.2.2 4 μ hq1) cw_X8_221 sh_82 rfl rfl ⟨by decide, by decide⟩ rfl rfl (Nat.le_of_ble_eq_true rfl) dX8_rank_2 ?_
  refine x_iconst (v := 0) C dX8_rank_5 (by decide) ?_
  refine x_istore_n C [(1, .int 0), (0, .ref (G.ad 82))] dX8_rank_6 rfl (by decide) rfl ?_
  refine x_iconst (v := 1) C dX8_rank_7 (by decide) ?_
  refine x_istore_n C [(2, .int 1), (1, .int 0), (0, .ref (G.ad 82))] dX8_rank_8 rfl (by decide) rfl ?_
  exact x_pick [(0, .ref (G.ad 82)), (1, .int 0), (2, .int 1)] [2, 1, 0] rfl (w_X8_rank_L9 C fu 0 1 q1 hF)
set_option maxHeartbeats 4000000 in
theorem c_X8_rank {G : Gl} (l : Launch) (hA : Ap G) {r : Int32} {μf : Mu}  (μ : Mu) (hF : f_X8_rank μ = some (r, μf)) : Mth G l yX8_rank cX8_rank 5 (some .int) 5 117 [.ref (G.ad 82)] (some (.int r)) μf μ := Mth.of hA (by decide) rfl (Nat.le_of_ble_eq_true rfl) (fun p e s0 m args below meth c C => w_X8_rank C μ hF)
set_option maxHeartbeats 4000000 in
theorem w_X8_takeWord_L13 {G : Gl} {p : Program} {l : Launch} {e : Env} {s0 : State} {m : MethodId} {args : Array Value} {below : List Frame} {meth : Method} {c : Code} (C : Cx G p s0 m args meth c cX8_takeWord 2 RX8 none) {μf : Mu}  : ∀ (n : Nat) (μ : Mu), f_X8_takeWord_L13 n μ = some μf → X G p l e 1 25 s0 m args below meth c 2 none μf μ 13 [(0, .ref (G.ad 82))] [] := by
  intro n
  induction n with
  | zero =>
    intro μ hF
    rw [f_X8_takeWord_L13] at hF
    cases hF
  | succ n ih =>
    intro μ hF
    rw [f_X8_takeWord_L13] at hF
    refine x_aload_n C 0 dX8_takeWord_13 rfl rfl ?_
    refine x_getI C fc_X8 fl_X8_270 sh_82 (by decide) rfl dX8_takeWord_14 ?_
    refine x_aload_n C 0 dX8_takeWord_17 rfl rfl ?_
    refine x_getI C fc_X8 fl_X8_263 sh_82 (by decide) rfl dX8_takeWord_18 ?_
    refine x_icmp_ge (tgt := 59) C dX8_takeWord_21 (by decide) (fun hc => ?_) (fun hc => ?_)
    · replace hF := f_t hc hF
      refine x_aload_n C 0 dX8_takeWord_59 rfl rfl ?_
      refine x_aload_n C 0 dX8_takeWord_60 rfl rfl ?_
      refine x_getI C fc_X8 fl_X8_270 sh_82 (by decide) rfl dX8_takeWord_61 ?_
      refine x_aload_n C 0 dX8_takeWord_64 rfl rfl ?_
      refine x_getI C fc_X8 fl_X8_279 sh_82 (by decide) rfl dX8_takeWord_65 ?_
      refine x_isub C dX8_takeWord_68 ?_
      refine x_putI C fc_X8 fl_X8_286 sh_82 (by decide) rfl rfl rfl ⟨rfl, rfl⟩ dX8_takeWord_69 ?_
      refine x_letM hF (fun μ1 hF => ?_)
      exact x_vret C dX8_takeWord_72 (Option.some.inj hF)
    · replace hF := f_f hc hF
      refine x_aload_n C 0 dX8_takeWord_24 rfl rfl ?_
      refine x_getR C fc_X8 fl_X8_102 sh_82 (by decide) rfl dX8_takeWord_25 ?_
      refine x_aload_n C 0 dX8_takeWord_28 rfl rfl ?_
      refine x_getI C fc_X8 fl_X8_270 sh_82 (by decide) rfl dX8_takeWord_29 ?_
      obtain ⟨hi2, hF⟩ := f_chk hF
      refine x_iald C sh_112 hi2 dX8_takeWord_32 ?_
      refine x_i2l C dX8_takeWord_33 ?_
      refine x_ldc2 C cl_X8_282 dX8_takeWord_34 ?_
      refine x_ldc2 C cl_X8_284 dX8_takeWord_37 ?_
      refine x_cSi (rest := []) C (c_X8_in l C.2.2.2.2.2.2.2.2 ((μ 112 (ix (μ 82 37)) : Int32).toInt64) 97 122 μ) cw_X8_127 ⟨by decide, by decide⟩ rfl rfl (Nat.le_of_ble_eq_true rfl) dX8_takeWord_40 ?_
      refine x_if_eq (tgt := 59) C dX8_takeWord_43 (by decide) (fun hc => ?_) (fun hc => ?_)
      · replace hF := f_t hc hF
        refine x_aload_n C 0 dX8_takeWord_59 rfl rfl ?_
        refine x_aload_n C 0 dX8_takeWord_60 rfl rfl ?_
        refine x_getI C fc_X8 fl_X8_270 sh_82 (by decide) rfl dX8_takeWord_61 ?_
        refine x_aload_n C 0 dX8_takeWord_64 rfl rfl ?_
        refine x_getI C fc_X8 fl_X8_279 sh_82 (by decide) rfl dX8_takeWord_65 ?_
        refine x_isub C dX8_takeWord_68 ?_
        refine x_putI C fc_X8 fl_X8_286 sh_82 (by decide) rfl rfl rfl ⟨rfl, rfl⟩ dX8_takeWord_69 ?_
        refine x_letM hF (fun μ3 hF => ?_)
        exact x_vret C dX8_takeWord_72 (Option.some.inj hF)
      · replace hF := f_f hc hF
        refine x_aload_n C 0 dX8_takeWord_46 rfl rfl ?_
        refine x_dup C dX8_takeWord_47 rfl ?_
        refine x_getI C fc_X8 fl_X8_270 sh_82 (by decide) rfl dX8_takeWord_48 ?_
        refine x_iconst (v := 1) C dX8_takeWord_51 (by decide) ?_
        refine x_iadd C dX8_takeWord_52 ?_
        refine x_putI C fc_X8 fl_X8_270 sh_82 (by decide) rfl rfl rfl ⟨rfl, rfl⟩ dX8_takeWord_53 ?_
        refine x_letM hF (fun μ4 hF => ?_)
        refine x_goto (tgt := 13) C dX8_takeWord_56 (by decide) ?_
        exact x_pick [(0, .ref (G.ad 82))] [0] rfl (ih μ4 hF)
set_option maxHeartbeats 4000000 in
theorem w_X8_takeWord {G : Gl} {p : Program} {l : Launch} {e : Env} {s0 : State} {m : MethodId} {args : Array Value} {below : List Frame} {meth : Method} {c : Code} (C : Cx G p s0 m args meth c cX8_takeWord 2 RX8 none) {μf : Mu}  (μ : Mu) (hF : f_X8_takeWord μ = some μf) : X G p l e 1 25 s0 m args below meth c 2 none μf μ 0 [(0, .ref (G.ad 82))] [] := by
  unfold f_X8_takeWord at hF
  refine x_aload_n C 0 dX8_takeWord_0 rfl rfl ?_
  obtain ⟨q1, hq1, hF⟩ := f_bind hF
  refine x_cVi (rest := []) C (c_X8_look l C.2.2.2.2.2.2.2.2 μ hq1) cw_X8_276 sh_82 rfl rfl ⟨by decide, by decide⟩ rfl rfl (Nat.le_of_ble_eq_true rfl) dX8_takeWord_1 ?_
  refine x_istore_n C [(1, .int q1.1), (0, .ref (G.ad 82))] dX8_takeWord_4 rfl (by decide) rfl ?_
  refine x_aload_n C 1 dX8_takeWord_5 rfl rfl ?_
  refine x_aload_n C 1 dX8_takeWord_6 rfl rfl ?_
  refine x_getI C fc_X8 fl_X8_270 sh_82 (by decide) rfl dX8_takeWord_7 ?_
  refine x_putI C fc_X8 fl_X8_279 sh_82 (by decide) rfl rfl rfl ⟨rfl, rfl⟩ dX8_takeWord_10 ?_
  refine x_letM hF (fun μ2 hF => ?_)
  exact x_pick [(0, .ref (G.ad 82))] [1] rfl (w_X8_takeWord_L13 C fu μ2 hF)
set_option maxHeartbeats 4000000 in
theorem c_X8_takeWord {G : Gl} (l : Launch) (hA : Ap G) {μf : Mu}  (μ : Mu) (hF : f_X8_takeWord μ = some μf) : Mth G l yX8_takeWord cX8_takeWord 2 none 1 25 [.ref (G.ad 82)] none μf μ := Mth.of hA (by decide) rfl (Nat.le_of_ble_eq_true rfl) (fun p e s0 m args below meth c C => w_X8_takeWord C μ hF)
set_option maxHeartbeats 4000000 in
theorem w_X8_want_b21 {G : Gl} {p : Program} {l : Launch} {e : Env} {s0 : State} {m : MethodId} {args : Array Value} {below : List Frame} {meth : Method} {c : Code} (C : Cx G p s0 m args meth c cX8_want 4 RX8 (some .boolean)) {r : Int32} {μf : Mu}  (μ : Mu) (hF : f_X8_want_b21 μ = some (r, μf)) : X G p l e 0 0 s0 m args below meth c 4 (some (.int r)) μf μ 21 [(0, .ref (G.ad 82))] [] := by
  unfold f_X8_want_b21 at hF
  refine x_aload_n C 0 dX8_want_21 rfl rfl ?_
  refine x_getI C fc_X8 fl_X8_273 sh_82 (by decide) rfl dX8_want_22 ?_
  refine x_if_ne (tgt := 32) C dX8_want_25 (by decide) (fun hc => ?_) (fun hc => ?_)
  · replace hF := f_f hc hF
    refine x_iconst (v := 0) C dX8_want_32 (by decide) ?_
    exact x_zret C dX8_want_33 (by decide) (Prod.mk.inj (Option.some.inj hF)).1 (Prod.mk.inj (Option.some.inj hF)).2
  · replace hF := f_t hc hF
    refine x_iconst (v := 1) C dX8_want_28 (by decide) ?_
    refine x_goto (tgt := 33) C dX8_want_29 (by decide) ?_
    exact x_zret C dX8_want_33 (by decide) (Prod.mk.inj (Option.some.inj hF)).1 (Prod.mk.inj (Option.some.inj hF)).2
set_option maxHeartbeats 4000000 in
theorem w_X8_want {G : Gl} {p : Program} {l : Launch} {e : Env} {s0 : State} {m : MethodId} {args : Array Value} {below : List Frame} {meth : Method} {c : Code} (C : Cx G p s0 m args meth c cX8_want 4 RX8 (some .boolean)) {r : Int32} {μf : Mu}  (x1 : Int32) (x2 : Int32) (x3 : Int32) (μ : Mu) (hF : f_X8_want x1 x2 x3 μ = some (r, μf)) : X G p l e 0 0 s0 m args below meth c 4 (some (.int r)) μf μ 0 [(0, .ref (G.ad 82)), (1, .int x1), (2, .int x2), (3, .int x3)] [] := by
  unfold f_X8_want at hF
  refine x_iload_n C 1 dX8_want_0 rfl rfl ?_
  refine x_if_ne (tgt := 21) C dX8_want_1 (by decide) (fun hc => ?_) (fun hc => ?_)
  · replace hF := f_f hc hF
    exact x_pick [(0, .ref (G.ad 82))] [0] rfl (w_X8_want_b21 C μ hF)
  · replace hF := f_t hc hF
    refine x_aload_n C 0 dX8_want_4 rfl rfl ?_
    refine x_getI C fc_X8 fl_X8_273 sh_82 (by decide) rfl dX8_want_5 ?_
    refine x_if_ne (tgt := 21) C dX8_want_8 (by decide) (fun hc => ?_) (fun hc => ?_)
    · replace hF := f_f hc hF
      exact x_pick [(0, .ref (G.ad 82))] [0] rfl (w_X8_want_b21 C μ hF)
    · replace hF := f_t hc hF
      refine x_aload_n C 0 dX8_want_11 rfl rfl ?_
      refine x_iload_n C 2 dX8_want_12 rfl rfl ?_
      refine x_putI C fc_X8 fl_X8_273 sh_82 (by decide) rfl rfl rfl ⟨rfl, rfl⟩ dX8_want_13 ?_
      refine x_letM hF (fun μ1 hF => ?_)
      refine x_aload_n C 0 dX8_want_16 rfl rfl ?_
      refine x_iload_n C 3 dX8_want_17 rfl rfl ?_
      refine x_putI C fc_X8 fl_X8_105 sh_82 (by decide) rfl rfl rfl ⟨rfl, rfl⟩ dX8_want_18 ?_
      refine x_letM hF (fun μ2 hF => ?_)
      exact x_pick [(0, .ref (G.ad 82))] [0] rfl (w_X8_want_b21 C μ2 hF)
set_option maxHeartbeats 4000000 in
theorem c_X8_want {G : Gl} (l : Launch) (hA : Ap G) {r : Int32} {μf : Mu}  (x1 : Int32) (x2 : Int32) (x3 : Int32) (μ : Mu) (hF : f_X8_want x1 x2 x3 μ = some (r, μf)) : Mth G l yX8_want cX8_want 4 (some .boolean) 0 0 [.ref (G.ad 82), .int x1, .int x2, .int x3] (some (.int r)) μf μ := Mth.of hA (by decide) rfl (Nat.le_of_ble_eq_true rfl) (fun p e s0 m args below meth c C => w_X8_want C x1 x2 x3 μ hF)
set_option maxHeartbeats 4000000 in
theorem w_X8_takeNumber_b163 {G : Gl} {p : Program} {l : Launch} {e : Env} {s0 : State} {m : MethodId} {args : Array Value} {below : List Frame} {meth : Method} {c : Code} (C : Cx G p s0 m args meth c cX8_takeNumber 8 RX8 (some .int)) {r : Int32} {μf : Mu}  (x5 : Int32) (x6 : Int32) (μ : Mu) (hF : f_X8_takeNumber_b163 x5 x6 μ = some (r, μf)) : X G p l e 1 25 s0 m args below meth c 8 (some (.int r)) μf μ 163 [(5, .int x5), (6, .int x6)] [.ref (G.ad 82)] := by
  unfold f_X8_takeNumber_b163 at hF
  refine x_iconst (v := 0) C dX8_takeNumber_163 (by decide) ?_
  refine x_iconst (v := 2) C dX8_takeNumber_164 (by decide) ?_
  refine x_iload C 0 dX8_takeNumber_165 rfl ?_
  obtain ⟨q1, hq1, hF⟩ := f_bind hF
  refine x_cVi (rest := []) C (c_X8_want l C.2.2.2.2.2.2.2.2 0 2 x5 μ hq1) cw_X8_293 sh_82 rfl rfl ⟨by decide, by decide⟩ rfl rfl (Nat.le_of_ble_eq_true rfl) dX8_takeNumber_167 ?_
  refine x_istore C [(7, .int q1.1), (5, .int x5), (6, .int x6)] dX8_takeNumber_170 (by decide) rfl ?_
  refine x_iload C 2 dX8_takeNumber_172 rfl ?_
  exact x_iret C dX8_takeNumber_174 (Prod.mk.inj (Option.some.inj hF)).1 (Prod.mk.inj (Option.some.inj hF)).2
set_option maxHeartbeats 4000000 in
theorem w_X8_takeNumber_b128 {G : Gl} {p : Program} {l : Launch} {e : Env} {s0 : State} {m : MethodId} {args : Array Value} {below : List Frame} {meth : Method} {c : Code} (C : Cx G p s0 m args meth c cX8_takeNumber 8 RX8 (some .int)) {r : Int32} {μf : Mu}  (x1 : Int32) (x2 : Int32) (x3 : Int32) (x5 : Int32) (x6 : Int32) (μ : Mu) (hF : f_X8_takeNumber_b128 x1 x2 x3 x5 x6 μ = some (r, μf)) : X G p l e 1 25 s0 m args below meth c 8 (some (.int r)) μf μ 128 [(0, .ref (G.ad 82)), (1, .int x1), (2, .int x2), (3, .int x3), (5, .int x5), (6, .int x6)] [] := by
  unfold f_X8_takeNumber_b128 at hF
  refine x_aload_n C 0 dX8_takeNumber_128 rfl rfl ?_
  refine x_aload_n C 0 dX8_takeNumber_129 rfl rfl ?_
  refine x_getI C fc_X8 fl_X8_270 sh_82 (by decide) rfl dX8_takeNumber_130 ?_
  refine x_iload C 4 dX8_takeNumber_133 rfl ?_
  refine x_isub C dX8_takeNumber_135 ?_
  refine x_iconst (v := 3) C dX8_takeNumber_136 (by decide) ?_
  refine x_icmp_ge (tgt := 163) C dX8_takeNumber_137 (by decide) (fun hc => ?_) (fun hc => ?_)
  · replace hF := f_t hc hF
    exact x_pick [(5, .int x5), (6, .int x6)] [4, 5] rfl (w_X8_takeNumber_b163 C x5 x6 μ hF)
  · replace hF := f_f hc hF
    refine x_iload C 5 dX8_takeNumber_140 rfl ?_
    refine x_i2l C dX8_takeNumber_142 ?_
    refine x_iload_n C 1 dX8_takeNumber_143 rfl rfl ?_
    refine x_i2l C dX8_takeNumber_144 ?_
    refine x_iload_n C 2 dX8_takeNumber_145 rfl rfl ?_
    refine x_i2l C dX8_takeNumber_146 ?_
    refine x_cSi (rest := [.ref (G.ad 82)]) C (c_X8_in l C.2.2.2.2.2.2.2.2 ((x6 : Int32).toInt64) ((x1 : Int32).toInt64) ((x2 : Int32).toInt64) μ) cw_X8_127 ⟨by decide, by decide⟩ rfl rfl (Nat.le_of_ble_eq_true rfl) dX8_takeNumber_147 ?_
    refine x_if_eq (tgt := 163) C dX8_takeNumber_150 (by decide) (fun hc => ?_) (fun hc => ?_)
    · replace hF := f_t hc hF
      exact x_pick [(5, .int x5), (6, .int x6)] [4, 5] rfl (w_X8_takeNumber_b163 C x5 x6 μ hF)
    · replace hF := f_f hc hF
      refine x_iload C 5 dX8_takeNumber_153 rfl ?_
      refine x_iload_n C 3 dX8_takeNumber_155 rfl rfl ?_
      refine x_icmp_eq (tgt := 163) C dX8_takeNumber_156 (by decide) (fun hc => ?_) (fun hc => ?_)
      · replace hF := f_t hc hF
        exact x_pick [(5, .int x5), (6, .int x6)] [4, 5] rfl (w_X8_takeNumber_b163 C x5 x6 μ hF)
      · replace hF := f_f hc hF
        refine x_iconst (v := 1) C dX8_takeNumber_159 (by decide) ?_
        refine x_goto (tgt := 164) C dX8_takeNumber_160 (by decide) ?_
        refine x_iconst (v := 2) C dX8_takeNumber_164 (by decide) ?_
        refine x_iload C 4 dX8_takeNumber_165 rfl ?_
        obtain ⟨q1, hq1, hF⟩ := f_bind hF
        refine x_cVi (rest := []) C (c_X8_want l C.2.2.2.2.2.2.2.2 1 2 x5 μ hq1) cw_X8_293 sh_82 rfl rfl ⟨by decide, by decide⟩ rfl rfl (Nat.le_of_ble_eq_true rfl) dX8_takeNumber_167 ?_
        refine x_istore C [(7, .int q1.1), (0, .ref (G.ad 82)), (1, .int x1), (2, .int x2), (3, .int x3), (5, .int x5), (6, .int x6)] dX8_takeNumber_170 (by decide) rfl ?_
        refine x_iload C 6 dX8_takeNumber_172 rfl ?_
        exact x_iret C dX8_takeNumber_174 (Prod.mk.inj (Option.some.inj hF)).1 (Prod.mk.inj (Option.some.inj hF)).2
set_option maxHeartbeats 4000000 in
theorem w_X8_takeNumber_L50 {G : Gl} {p : Program} {l : Launch} {e : Env} {s0 : State} {m : MethodId} {args : Array Value} {below : List Frame} {meth : Method} {c : Code} (C : Cx G p s0 m args meth c cX8_takeNumber 8 RX8 (some .int)) {r : Int32} {μf : Mu}  : ∀ (n : Nat) (x1 : Int32) (x2 : Int32) (x3 : Int32) (x5 : Int32) (x6 : Int32) (μ : Mu), f_X8_takeNumber_L50 n x1 x2 x3 x5 x6 μ = some (r, μf) → X G p l e 1 25 s0 m args below meth c 8 (some (.int r)) μf μ 50 [(0, .ref (G.ad 82)), (1, .int x1), (2, .int x2), (3, .int x3), (5, .int x5), (6, .int x6)] [] := by
  intro n
  induction n with
  | zero =>
    intro x1 x2 x3 x5 x6 μ hF
    rw [f_X8_takeNumber_L50] at hF
    cases hF
  | succ n ih =>
    intro x1 x2 x3 x5 x6 μ hF
    rw [f_X8_takeNumber_L50] at hF
    refine x_aload_n C 0 dX8_takeNumber_50 rfl rfl ?_
    refine x_getI C fc_X8 fl_X8_270 sh_82 (by decide) rfl dX8_takeNumber_51 ?_
    refine x_aload_n C 0 dX8_takeNumber_54 rfl rfl ?_
    refine x_getI C fc_X8 fl_X8_263 sh_82 (by decide) rfl dX8_takeNumber_55 ?_
    refine x_icmp_ge (tgt := 128) C dX8_takeNumber_58 (by decide) (fun hc => ?_) (fun hc => ?_)
    · replace hF := f_t hc hF
      exact x_pick [(0, .ref (G.ad 82)), (1, .int x1), (2, .int x2), (3, .int x3), (5, .int x5), (6, .int x6)] [0, 1, 2, 3, 4, 5] rfl (w_X8_takeNumber_b128 C x1 x2 x3 x5 x6 μ hF)
    · replace hF := f_f hc hF
      refine x_aload_n C 0 dX8_takeNumber_61 rfl rfl ?_
      refine x_getR C fc_X8 fl_X8_102 sh_82 (by decide) rfl dX8_takeNumber_62 ?_
      refine x_aload_n C 0 dX8_takeNumber_65 rfl rfl ?_
      refine x_getI C fc_X8 fl_X8_270 sh_82 (by decide) rfl dX8_takeNumber_66 ?_
      obtain ⟨hi1, hF⟩ := f_chk hF
      refine x_iald C sh_112 hi1 dX8_takeNumber_69 ?_
      refine x_i2l C dX8_takeNumber_70 ?_
      refine x_ldc2 C cl_X8_289 dX8_takeNumber_71 ?_
      refine x_ldc2 C cl_X8_291 dX8_takeNumber_74 ?_
      refine x_cSi (rest := []) C (c_X8_in l C.2.2.2.2.2.2.2.2 ((μ 112 (ix (μ 82 37)) : Int32).toInt64) 48 57 μ) cw_X8_127 ⟨by decide, by decide⟩ rfl rfl (Nat.le_of_ble_eq_true rfl) dX8_takeNumber_77 ?_
      refine x_if_eq (tgt := 128) C dX8_takeNumber_80 (by decide) (fun hc => ?_) (fun hc => ?_)
      · replace hF := f_t hc hF
        exact x_pick [(0, .ref (G.ad 82)), (1, .int x1), (2, .int x2), (3, .int x3), (5, .int x5), (6, .int x6)] [0, 1, 2, 3, 4, 5] rfl (w_X8_takeNumber_b128 C x1 x2 x3 x5 x6 μ hF)
      · replace hF := f_f hc hF
        refine x_iload C 5 dX8_takeNumber_83 rfl ?_
        refine x_bipush (v := 99) C dX8_takeNumber_85 (by decide) ?_
        refine x_icmp_le (tgt := 95) C dX8_takeNumber_87 (by decide) (fun hc => ?_) (fun hc => ?_)
        · replace hF := f_t hc hF
          refine x_bipush (v := 10) C dX8_takeNumber_95 (by decide) ?_
          refine x_iload C 5 dX8_takeNumber_97 rfl ?_
          refine x_imul C dX8_takeNumber_99 ?_
          refine x_aload_n C 0 dX8_takeNumber_100 rfl rfl ?_
          refine x_getR C fc_X8 fl_X8_102 sh_82 (by decide) rfl dX8_takeNumber_101 ?_
          refine x_aload_n C 0 dX8_takeNumber_104 rfl rfl ?_
          refine x_getI C fc_X8 fl_X8_270 sh_82 (by decide) rfl dX8_takeNumber_105 ?_
          refine x_iald C sh_112 hi1 dX8_takeNumber_108 ?_
          refine x_iadd C dX8_takeNumber_109 ?_
          refine x_bipush (v := 48) C dX8_takeNumber_110 (by decide) ?_
          refine x_isub C dX8_takeNumber_112 ?_
          refine x_letI hF (fun y2 hF => ?_)
          refine x_istore C [(6, .int y2), (0, .ref (G.ad 82)), (1, .int x1), (2, .int x2), (3, .int x3), (5, .int x5)] dX8_takeNumber_113 (by decide) rfl ?_
          refine x_aload_n C 1 dX8_takeNumber_115 rfl rfl ?_
          refine x_dup C dX8_takeNumber_116 rfl ?_
          refine x_getI C fc_X8 fl_X8_270 sh_82 (by decide) rfl dX8_takeNumber_117 ?_
          refine x_iconst (v := 1) C dX8_takeNumber_120 (by decide) ?_
          refine x_iadd C dX8_takeNumber_121 ?_
          refine x_putI C fc_X8 fl_X8_270 sh_82 (by decide) rfl rfl rfl ⟨rfl, rfl⟩ dX8_takeNumber_122 ?_
          refine x_letM hF (fun μ3 hF => ?_)
          refine x_goto (tgt := 50) C dX8_takeNumber_125 (by decide) ?_
          exact x_pick [(0, .ref (G.ad 82)), (1, .int x1), (2, .int x2), (3, .int x3), (5, .int x5), (6, .int y2)] [1, 2, 3, 4, 5, 0] rfl (ih x1 x2 x3 x5 y2 μ3 hF)
        · replace hF := f_f hc hF
          refine x_iload C 5 dX8_takeNumber_90 rfl ?_
          refine x_goto (tgt := 113) C dX8_takeNumber_92 (by decide) ?_
          refine x_istore C [(6, .int x6), (0, .ref (G.ad 82)), (1, .int x1), (2, .int x2), (3, .int x3), (5, .int x5)] dX8_takeNumber_113 (by decide) rfl ?_
          refine x_aload_n C 1 dX8_takeNumber_115 rfl rfl ?_
          refine x_dup C dX8_takeNumber_116 rfl ?_
          refine x_getI C fc_X8 fl_X8_270 sh_82 (by decide) rfl dX8_takeNumber_117 ?_
          refine x_iconst (v := 1) C dX8_takeNumber_120 (by decide) ?_
          refine x_iadd C dX8_takeNumber_121 ?_
          refine x_putI C fc_X8 fl_X8_270 sh_82 (by decide) rfl rfl rfl ⟨rfl, rfl⟩ dX8_takeNumber_122 ?_
          refine x_letM hF (fun μ4 hF => ?_)
          refine x_goto (tgt := 50) C dX8_takeNumber_125 (by decide) ?_
          exact x_pick [(0, .ref (G.ad 82)), (1, .int x1), (2, .int x2), (3, .int x3), (5, .int x5), (6, .int x6)] [1, 2, 3, 4, 5, 0] rfl (ih x1 x2 x3 x5 x6 μ4 hF)
set_option maxHeartbeats 4000000 in
theorem w_X8_takeNumber {G : Gl} {p : Program} {l : Launch} {e : Env} {s0 : State} {m : MethodId} {args : Array Value} {below : List Frame} {meth : Method} {c : Code} (C : Cx G p s0 m args meth c cX8_takeNumber 8 RX8 (some .int)) {r : Int32} {μf : Mu}  (x1 : Int32) (x2 : Int32) (x3 : Int32) (μ : Mu) (hF : f_X8_takeNumber x1 x2 x3 μ = some (r, μf)) : X G p l e 1 25 s0 m args below meth c 8 (some (.int r)) μf μ 0 [(0, .ref (G.ad 82)), (1, .int x1), (2, .int x2), (3, .int x3)] [] := by
  unfold f_X8_takeNumber at hF
  refine x_aload_n C 0 dX8_takeNumber_0 rfl rfl ?_
  refine x_getI C fc_X8 fl_X8_273 sh_82 (by decide) rfl dX8_takeNumber_1 ?_
  refine x_if_le (tgt := 9) C dX8_takeNumber_4 (by decide) (fun hc => ?_) (fun hc => ?_)
  · replace hF := f_t hc hF
    refine x_aload_n C 0 dX8_takeNumber_9 rfl rfl ?_
    obtain ⟨q1, hq1, hF⟩ := f_bind hF
    refine x_cVi (rest := []) C (c_X8_look l C.2.2.2.2.2.2.2.2 μ hq1) cw_X8_276 sh_82 rfl rfl ⟨by decide, by decide⟩ rfl rfl (Nat.le_of_ble_eq_true rfl) dX8_takeNumber_10 ?_
    refine x_istore C [(4, .int q1.1), (0, .ref (G.ad 82)), (1, .int x1), (2, .int x2), (3, .int x3)] dX8_takeNumber_13 (by decide) rfl ?_
    refine x_aload_n C 1 dX8_takeNumber_15 rfl rfl ?_
    refine x_getI C fc_X8 fl_X8_270 sh_82 (by decide) rfl dX8_takeNumber_16 ?_
    refine x_letI hF (fun y2 hF => ?_)
    refine x_istore C [(5, .int y2), (4, .int q1.1), (0, .ref (G.ad 82)), (1, .int x1), (2, .int x2), (3, .int x3)] dX8_takeNumber_19 (by decide) rfl ?_
    refine x_aload_n C 2 dX8_takeNumber_21 rfl rfl ?_
    refine x_iload C 1 dX8_takeNumber_22 rfl ?_
    refine x_i2l C dX8_takeNumber_24 ?_
    refine x_ldc2 C cl_X8_289 dX8_takeNumber_25 ?_
    refine x_ldc2 C cl_X8_291 dX8_takeNumber_28 ?_
    refine x_cSi (rest := [.ref (G.ad 82)]) C (c_X8_in l C.2.2.2.2.2.2.2.2 ((q1.1 : Int32).toInt64) 48 57 q1.2) cw_X8_127 ⟨by decide, by decide⟩ rfl rfl (Nat.le_of_ble_eq_true rfl) dX8_takeNumber_31 ?_
    refine x_iconst (v := 1) C dX8_takeNumber_34 (by decide) ?_
    refine x_aload_n C 2 dX8_takeNumber_35 rfl rfl ?_
    refine x_getI C fc_X8 fl_X8_270 sh_82 (by decide) rfl dX8_takeNumber_36 ?_
    obtain ⟨q3, hq3, hF⟩ := f_bind hF
    refine x_cVi (rest := []) C (c_X8_want l C.2.2.2.2.2.2.2.2 (f_X8_in ((q1.1 : Int32).toInt64) 48 57) 1 (q1.2 82 37) q1.2 hq3) cw_X8_293 sh_82 rfl rfl ⟨by decide, by decide⟩ rfl rfl (Nat.le_of_ble_eq_true rfl) dX8_takeNumber_39 ?_
    refine x_if_ne (tgt := 47) C dX8_takeNumber_42 (by decide) (fun hc => ?_) (fun hc => ?_)
    · replace hF := f_f hc hF
      refine x_iconst (v := 0) C dX8_takeNumber_47 (by decide) ?_
      refine x_istore C [(6, .int 0), (5, .int y2), (4, .int q1.1), (0, .ref (G.ad 82)), (1, .int x1), (2, .int x2), (3, .int x3)] dX8_takeNumber_48 (by decide) rfl ?_
      exact x_pick [(0, .ref (G.ad 82)), (1, .int x1), (2, .int x2), (3, .int x3), (5, .int y2), (6, .int 0)] [3, 4, 5, 6, 1, 0] rfl (w_X8_takeNumber_L50 C fu x1 x2 x3 y2 0 q3.2 hF)
    · replace hF := f_t hc hF
      refine x_iconst (v := 0) C dX8_takeNumber_45 (by decide) ?_
      exact x_iret C dX8_takeNumber_46 (Prod.mk.inj (Option.some.inj hF)).1 (Prod.mk.inj (Option.some.inj hF)).2
  · replace hF := f_f hc hF
    refine x_iconst (v := 0) C dX8_takeNumber_7 (by decide) ?_
    exact x_iret C dX8_takeNumber_8 (Prod.mk.inj (Option.some.inj hF)).1 (Prod.mk.inj (Option.some.inj hF)).2
set_option maxHeartbeats 4000000 in
theorem c_X8_takeNumber {G : Gl} (l : Launch) (hA : Ap G) {r : Int32} {μf : Mu}  (x1 : Int32) (x2 : Int32) (x3 : Int32) (μ : Mu) (hF : f_X8_takeNumber x1 x2 x3 μ = some (r, μf)) : Mth G l yX8_takeNumber cX8_takeNumber 8 (some .int) 1 25 [.ref (G.ad 82), .int x1, .int x2, .int x3] (some (.int r)) μf μ := Mth.of hA (by decide) rfl (Nat.le_of_ble_eq_true rfl) (fun p e s0 m args below meth c C => w_X8_takeNumber C x1 x2 x3 μ hF)
set_option maxHeartbeats 4000000 in
theorem w_X8_wordOf {G : Gl} {p : Program} {l : Launch} {e : Env} {s0 : State} {m : MethodId} {args : Array Value} {below : List Frame} {meth : Method} {c : Code} (C : Cx G p s0 m args meth c cX8_wordOf 2 RX8 (some .int)) {r : Int32}  (x1 : Int32) (μ : Mu) (hF : f_X8_wordOf x1 μ = some r) : X G p l e 1 29 s0 m args below meth c 2 (some (.int r)) μ μ 0 [(0, .ref (G.ad 82)), (1, .int x1)] [] := by
  unfold f_X8_wordOf at hF
  refine x_iload_n C 1 dX8_wordOf_0 rfl rfl ?_
  refine x_if_ne (tgt := 75) C dX8_wordOf_1 (by decide) (fun hc => ?_) (fun hc => ?_)
  · replace hF := f_f hc hF
    refine x_iload_n C 1 dX8_wordOf_75 rfl rfl ?_
    refine x_iconst (v := 1) C dX8_wordOf_76 (by decide) ?_
    refine x_icmp_ne (tgt := 149) C dX8_wordOf_77 (by decide) (fun hc => ?_) (fun hc => ?_)
    · replace hF := f_f hc hF
      refine x_iload_n C 1 dX8_wordOf_149 rfl rfl ?_
      refine x_bipush (v := 9) C dX8_wordOf_150 (by decide) ?_
      refine x_icmp_ne (tgt := 202) C dX8_wordOf_152 (by decide) (fun hc => ?_) (fun hc => ?_)
      · replace hF := f_f hc hF
        refine x_aload_n C 0 dX8_wordOf_202 rfl rfl ?_
        refine x_iconst (v := 2) C dX8_wordOf_203 (by decide) ?_
        refine x_bipush (v := 110) C dX8_wordOf_204 (by decide) ?_
        refine x_bipush (v := 111) C dX8_wordOf_206 (by decide) ?_
        refine x_iconst (v := 0) C dX8_wordOf_208 (by decide) ?_
        refine x_iconst (v := 0) C dX8_wordOf_209 (by decide) ?_
        refine x_iconst (v := 0) C dX8_wordOf_210 (by decide) ?_
        refine x_iconst (v := 0) C dX8_wordOf_211 (by decide) ?_
        obtain ⟨q1, hq1, hF⟩ := f_bind hF
        refine x_cVi (rest := []) C (c_X8_isWord l C.2.2.2.2.2.2.2.2 2 110 111 0 0 0 0 μ hq1) cw_X8_297 sh_82 rfl rfl ⟨by decide, by decide⟩ rfl rfl (Nat.le_of_ble_eq_true rfl) dX8_wordOf_212 ?_
        refine x_if_eq (tgt := 222) C dX8_wordOf_215 (by decide) (fun hc => ?_) (fun hc => ?_)
        · replace hF := f_t hc hF
          refine x_aload_n C 0 dX8_wordOf_222 rfl rfl ?_
          refine x_iconst (v := 3) C dX8_wordOf_223 (by decide) ?_
          refine x_bipush (v := 121) C dX8_wordOf_224 (by decide) ?_
          refine x_bipush (v := 101) C dX8_wordOf_226 (by decide) ?_
          refine x_bipush (v := 115) C dX8_wordOf_228 (by decide) ?_
          refine x_iconst (v := 0) C dX8_wordOf_230 (by decide) ?_
          refine x_iconst (v := 0) C dX8_wordOf_231 (by decide) ?_
          refine x_iconst (v := 0) C dX8_wordOf_232 (by decide) ?_
          obtain ⟨q2, hq2, hF⟩ := f_bind hF
          refine x_cVi (rest := []) C (c_X8_isWord l C.2.2.2.2.2.2.2.2 3 121 101 115 0 0 0 μ hq2) cw_X8_297 sh_82 rfl rfl ⟨by decide, by decide⟩ rfl rfl (Nat.le_of_ble_eq_true rfl) dX8_wordOf_233 ?_
          refine x_if_eq (tgt := 243) C dX8_wordOf_236 (by decide) (fun hc => ?_) (fun hc => ?_)
          · replace hF := f_t hc hF
            refine x_iconst (v := (-1)) C dX8_wordOf_243 (by decide) ?_
            exact x_iret C dX8_wordOf_244 (Option.some.inj hF) rfl
          · replace hF := f_f hc hF
            refine x_iconst (v := 1) C dX8_wordOf_239 (by decide) ?_
            refine x_goto (tgt := 244) C dX8_wordOf_240 (by decide) ?_
            exact x_iret C dX8_wordOf_244 (Option.some.inj hF) rfl
        · replace hF := f_f hc hF
          refine x_iconst (v := 0) C dX8_wordOf_218 (by decide) ?_
          refine x_goto (tgt := 244) C dX8_wordOf_219 (by decide) ?_
          exact x_iret C dX8_wordOf_244 (Option.some.inj hF) rfl
      · replace hF := f_t hc hF
        refine x_aload_n C 0 dX8_wordOf_155 rfl rfl ?_
        refine x_iconst (v := 4) C dX8_wordOf_156 (by decide) ?_
        refine x_bipush (v := 102) C dX8_wordOf_157 (by decide) ?_
        refine x_bipush (v := 117) C dX8_wordOf_159 (by decide) ?_
        refine x_bipush (v := 108) C dX8_wordOf_161 (by decide) ?_
        refine x_bipush (v := 108) C dX8_wordOf_163 (by decide) ?_
        refine x_iconst (v := 0) C dX8_wordOf_165 (by decide) ?_
        refine x_iconst (v := 0) C dX8_wordOf_166 (by decide) ?_
        obtain ⟨q3, hq3, hF⟩ := f_bind hF
        refine x_cVi (rest := []) C (c_X8_isWord l C.2.2.2.2.2.2.2.2 4 102 117 108 108 0 0 μ hq3) cw_X8_297 sh_82 rfl rfl ⟨by decide, by decide⟩ rfl rfl (Nat.le_of_ble_eq_true rfl) dX8_wordOf_167 ?_
        refine x_if_eq (tgt := 177) C dX8_wordOf_170 (by decide) (fun hc => ?_) (fun hc => ?_)
        · replace hF := f_t hc hF
          refine x_aload_n C 0 dX8_wordOf_177 rfl rfl ?_
          refine x_iconst (v := 5) C dX8_wordOf_178 (by decide) ?_
          refine x_bipush (v := 115) C dX8_wordOf_179 (by decide) ?_
          refine x_bipush (v := 104) C dX8_wordOf_181 (by decide) ?_
          refine x_bipush (v := 111) C dX8_wordOf_183 (by decide) ?_
          refine x_bipush (v := 114) C dX8_wordOf_185 (by decide) ?_
          refine x_bipush (v := 116) C dX8_wordOf_187 (by decide) ?_
          refine x_iconst (v := 0) C dX8_wordOf_189 (by decide) ?_
          obtain ⟨q4, hq4, hF⟩ := f_bind hF
          refine x_cVi (rest := []) C (c_X8_isWord l C.2.2.2.2.2.2.2.2 5 115 104 111 114 116 0 μ hq4) cw_X8_297 sh_82 rfl rfl ⟨by decide, by decide⟩ rfl rfl (Nat.le_of_ble_eq_true rfl) dX8_wordOf_190 ?_
          refine x_if_eq (tgt := 200) C dX8_wordOf_193 (by decide) (fun hc => ?_) (fun hc => ?_)
          · replace hF := f_t hc hF
            refine x_iconst (v := (-1)) C dX8_wordOf_200 (by decide) ?_
            exact x_iret C dX8_wordOf_201 (Option.some.inj hF) rfl
          · replace hF := f_f hc hF
            refine x_iconst (v := 1) C dX8_wordOf_196 (by decide) ?_
            refine x_goto (tgt := 201) C dX8_wordOf_197 (by decide) ?_
            exact x_iret C dX8_wordOf_201 (Option.some.inj hF) rfl
        · replace hF := f_f hc hF
          refine x_iconst (v := 0) C dX8_wordOf_173 (by decide) ?_
          refine x_goto (tgt := 201) C dX8_wordOf_174 (by decide) ?_
          exact x_iret C dX8_wordOf_201 (Option.some.inj hF) rfl
    · replace hF := f_t hc hF
      refine x_aload_n C 0 dX8_wordOf_80 rfl rfl ?_
      refine x_iconst (v := 5) C dX8_wordOf_81 (by decide) ?_
      refine x_bipush (v := 99) C dX8_wordOf_82 (by decide) ?_
      refine x_bipush (v := 105) C dX8_wordOf_84 (by decide) ?_
      refine x_bipush (v := 116) C dX8_wordOf_86 (by decide) ?_
      refine x_bipush (v := 101) C dX8_wordOf_88 (by decide) ?_
      refine x_bipush (v := 100) C dX8_wordOf_90 (by decide) ?_
      refine x_iconst (v := 0) C dX8_wordOf_92 (by decide) ?_
      obtain ⟨q5, hq5, hF⟩ := f_bind hF
      refine x_cVi (rest := []) C (c_X8_isWord l C.2.2.2.2.2.2.2.2 5 99 105 116 101 100 0 μ hq5) cw_X8_297 sh_82 rfl rfl ⟨by decide, by decide⟩ rfl rfl (Nat.le_of_ble_eq_true rfl) dX8_wordOf_93 ?_
      refine x_if_eq (tgt := 103) C dX8_wordOf_96 (by decide) (fun hc => ?_) (fun hc => ?_)
      · replace hF := f_t hc hF
        refine x_aload_n C 0 dX8_wordOf_103 rfl rfl ?_
        refine x_iconst (v := 4) C dX8_wordOf_104 (by decide) ?_
        refine x_bipush (v := 110) C dX8_wordOf_105 (by decide) ?_
        refine x_bipush (v := 97) C dX8_wordOf_107 (by decide) ?_
        refine x_bipush (v := 109) C dX8_wordOf_109 (by decide) ?_
        refine x_bipush (v := 101) C dX8_wordOf_111 (by decide) ?_
        refine x_iconst (v := 0) C dX8_wordOf_113 (by decide) ?_
        refine x_iconst (v := 0) C dX8_wordOf_114 (by decide) ?_
        obtain ⟨q6, hq6, hF⟩ := f_bind hF
        refine x_cVi (rest := []) C (c_X8_isWord l C.2.2.2.2.2.2.2.2 4 110 97 109 101 0 0 μ hq6) cw_X8_297 sh_82 rfl rfl ⟨by decide, by decide⟩ rfl rfl (Nat.le_of_ble_eq_true rfl) dX8_wordOf_115 ?_
        refine x_if_eq (tgt := 125) C dX8_wordOf_118 (by decide) (fun hc => ?_) (fun hc => ?_)
        · replace hF := f_t hc hF
          refine x_aload_n C 0 dX8_wordOf_125 rfl rfl ?_
          refine x_iconst (v := 4) C dX8_wordOf_126 (by decide) ?_
          refine x_bipush (v := 121) C dX8_wordOf_127 (by decide) ?_
          refine x_bipush (v := 101) C dX8_wordOf_129 (by decide) ?_
          refine x_bipush (v := 97) C dX8_wordOf_131 (by decide) ?_
          refine x_bipush (v := 114) C dX8_wordOf_133 (by decide) ?_
          refine x_iconst (v := 0) C dX8_wordOf_135 (by decide) ?_
          refine x_iconst (v := 0) C dX8_wordOf_136 (by decide) ?_
          obtain ⟨q7, hq7, hF⟩ := f_bind hF
          refine x_cVi (rest := []) C (c_X8_isWord l C.2.2.2.2.2.2.2.2 4 121 101 97 114 0 0 μ hq7) cw_X8_297 sh_82 rfl rfl ⟨by decide, by decide⟩ rfl rfl (Nat.le_of_ble_eq_true rfl) dX8_wordOf_137 ?_
          refine x_if_eq (tgt := 147) C dX8_wordOf_140 (by decide) (fun hc => ?_) (fun hc => ?_)
          · replace hF := f_t hc hF
            refine x_iconst (v := (-1)) C dX8_wordOf_147 (by decide) ?_
            exact x_iret C dX8_wordOf_148 (Option.some.inj hF) rfl
          · replace hF := f_f hc hF
            refine x_iconst (v := 2) C dX8_wordOf_143 (by decide) ?_
            refine x_goto (tgt := 148) C dX8_wordOf_144 (by decide) ?_
            exact x_iret C dX8_wordOf_148 (Option.some.inj hF) rfl
        · replace hF := f_f hc hF
          refine x_iconst (v := 1) C dX8_wordOf_121 (by decide) ?_
          refine x_goto (tgt := 148) C dX8_wordOf_122 (by decide) ?_
          exact x_iret C dX8_wordOf_148 (Option.some.inj hF) rfl
      · replace hF := f_f hc hF
        refine x_iconst (v := 0) C dX8_wordOf_99 (by decide) ?_
        refine x_goto (tgt := 148) C dX8_wordOf_100 (by decide) ?_
        exact x_iret C dX8_wordOf_148 (Option.some.inj hF) rfl
  · replace hF := f_t hc hF
    refine x_aload_n C 0 dX8_wordOf_4 rfl rfl ?_
    refine x_iconst (v := 4) C dX8_wordOf_5 (by decide) ?_
    refine x_bipush (v := 110) C dX8_wordOf_6 (by decide) ?_
    refine x_bipush (v := 111) C dX8_wordOf_8 (by decide) ?_
    refine x_bipush (v := 116) C dX8_wordOf_10 (by decide) ?_
    refine x_bipush (v := 101) C dX8_wordOf_12 (by decide) ?_
    refine x_iconst (v := 0) C dX8_wordOf_14 (by decide) ?_
    refine x_iconst (v := 0) C dX8_wordOf_15 (by decide) ?_
    obtain ⟨q8, hq8, hF⟩ := f_bind hF
    refine x_cVi (rest := []) C (c_X8_isWord l C.2.2.2.2.2.2.2.2 4 110 111 116 101 0 0 μ hq8) cw_X8_297 sh_82 rfl rfl ⟨by decide, by decide⟩ rfl rfl (Nat.le_of_ble_eq_true rfl) dX8_wordOf_16 ?_
    refine x_if_eq (tgt := 26) C dX8_wordOf_19 (by decide) (fun hc => ?_) (fun hc => ?_)
    · replace hF := f_t hc hF
      refine x_aload_n C 0 dX8_wordOf_26 rfl rfl ?_
      refine x_iconst (v := 4) C dX8_wordOf_27 (by decide) ?_
      refine x_bipush (v := 110) C dX8_wordOf_28 (by decide) ?_
      refine x_bipush (v := 97) C dX8_wordOf_30 (by decide) ?_
      refine x_bipush (v := 109) C dX8_wordOf_32 (by decide) ?_
      refine x_bipush (v := 101) C dX8_wordOf_34 (by decide) ?_
      refine x_iconst (v := 0) C dX8_wordOf_36 (by decide) ?_
      refine x_iconst (v := 0) C dX8_wordOf_37 (by decide) ?_
      obtain ⟨q9, hq9, hF⟩ := f_bind hF
      refine x_cVi (rest := []) C (c_X8_isWord l C.2.2.2.2.2.2.2.2 4 110 97 109 101 0 0 μ hq9) cw_X8_297 sh_82 rfl rfl ⟨by decide, by decide⟩ rfl rfl (Nat.le_of_ble_eq_true rfl) dX8_wordOf_38 ?_
      refine x_if_eq (tgt := 48) C dX8_wordOf_41 (by decide) (fun hc => ?_) (fun hc => ?_)
      · replace hF := f_t hc hF
        refine x_aload_n C 0 dX8_wordOf_48 rfl rfl ?_
        refine x_bipush (v := 6) C dX8_wordOf_49 (by decide) ?_
        refine x_bipush (v := 110) C dX8_wordOf_51 (by decide) ?_
        refine x_bipush (v := 117) C dX8_wordOf_53 (by decide) ?_
        refine x_bipush (v := 109) C dX8_wordOf_55 (by decide) ?_
        refine x_bipush (v := 98) C dX8_wordOf_57 (by decide) ?_
        refine x_bipush (v := 101) C dX8_wordOf_59 (by decide) ?_
        refine x_bipush (v := 114) C dX8_wordOf_61 (by decide) ?_
        obtain ⟨q10, hq10, hF⟩ := f_bind hF
        refine x_cVi (rest := []) C (c_X8_isWord l C.2.2.2.2.2.2.2.2 6 110 117 109 98 101 114 μ hq10) cw_X8_297 sh_82 rfl rfl ⟨by decide, by decide⟩ rfl rfl (Nat.le_of_ble_eq_true rfl) dX8_wordOf_63 ?_
        refine x_if_eq (tgt := 73) C dX8_wordOf_66 (by decide) (fun hc => ?_) (fun hc => ?_)
        · replace hF := f_t hc hF
          refine x_iconst (v := (-1)) C dX8_wordOf_73 (by decide) ?_
          exact x_iret C dX8_wordOf_74 (Option.some.inj hF) rfl
        · replace hF := f_f hc hF
          refine x_iconst (v := 2) C dX8_wordOf_69 (by decide) ?_
          refine x_goto (tgt := 74) C dX8_wordOf_70 (by decide) ?_
          exact x_iret C dX8_wordOf_74 (Option.some.inj hF) rfl
      · replace hF := f_f hc hF
        refine x_iconst (v := 1) C dX8_wordOf_44 (by decide) ?_
        refine x_goto (tgt := 74) C dX8_wordOf_45 (by decide) ?_
        exact x_iret C dX8_wordOf_74 (Option.some.inj hF) rfl
    · replace hF := f_f hc hF
      refine x_iconst (v := 0) C dX8_wordOf_22 (by decide) ?_
      refine x_goto (tgt := 74) C dX8_wordOf_23 (by decide) ?_
      exact x_iret C dX8_wordOf_74 (Option.some.inj hF) rfl
set_option maxHeartbeats 4000000 in
theorem c_X8_wordOf {G : Gl} (l : Launch) (hA : Ap G) {r : Int32}  (x1 : Int32) (μ : Mu) (hF : f_X8_wordOf x1 μ = some r) : Mth G l yX8_wordOf cX8_wordOf 2 (some .int) 1 29 [.ref (G.ad 82), .int x1] (some (.int r)) μ μ := Mth.of hA (by decide) rfl (Nat.le_of_ble_eq_true rfl) (fun p e s0 m args below meth c C => w_X8_wordOf C x1 μ hF)
set_option maxHeartbeats 4000000 in
theorem w_X8_readClause_b189 {G : Gl} {p : Program} {l : Launch} {e : Env} {s0 : State} {m : MethodId} {args : Array Value} {below : List Frame} {meth : Method} {c : Code} (C : Cx G p s0 m args meth c cX8_readClause 3 RX8 none) {μf : Mu}  (t1 : Int32) (t3 : Int32) (μ : Mu) (hF : f_X8_readClause_b189 t1 t3 μ = some μf) : X G p l e 2 52 s0 m args below meth c 3 none μf μ 189 [(0, .ref (G.ad 82))] [.int t3, .ref (G.ad 82), .int t1, .ref (G.ad 82)] := by
  unfold f_X8_readClause_b189 at hF
  refine x_iconst (v := 1) C dX8_readClause_189 (by decide) ?_
  refine x_aload_n C 0 dX8_readClause_190 rfl rfl ?_
  refine x_getI C fc_X8 fl_X8_270 sh_82 (by decide) rfl dX8_readClause_191 ?_
  obtain ⟨q1, hq1, hF⟩ := f_bind hF
  refine x_cVi (rest := [.int t1, .ref (G.ad 82)]) C (c_X8_want l C.2.2.2.2.2.2.2.2 t3 1 (μ 82 37) μ hq1) cw_X8_293 sh_82 rfl rfl ⟨by decide, by decide⟩ rfl rfl (Nat.le_of_ble_eq_true rfl) dX8_readClause_194 ?_
  refine x_cSi (rest := [.int t1, .ref (G.ad 82)]) C (c_X8_one l C.2.2.2.2.2.2.2.2 q1.1 q1.2) cw_X8_205 ⟨by decide, by decide⟩ rfl rfl (Nat.le_of_ble_eq_true rfl) dX8_readClause_197 ?_
  refine x_iadd C dX8_readClause_200 ?_
  refine x_putI C fc_X8 fl_X8_270 sh_82 (by decide) rfl rfl rfl ⟨rfl, rfl⟩ dX8_readClause_201 ?_
  refine x_letM hF (fun μ2 hF => ?_)
  exact x_vret C dX8_readClause_204 (Option.some.inj hF)
set_option maxHeartbeats 4000000 in
theorem w_X8_readClause_b160 {G : Gl} {p : Program} {l : Launch} {e : Env} {s0 : State} {m : MethodId} {args : Array Value} {below : List Frame} {meth : Method} {c : Code} (C : Cx G p s0 m args meth c cX8_readClause 3 RX8 none) {μf : Mu}  (μ : Mu) (hF : f_X8_readClause_b160 μ = some μf) : X G p l e 2 52 s0 m args below meth c 3 none μf μ 160 [(0, .ref (G.ad 82))] [] := by
  unfold f_X8_readClause_b160 at hF
  refine x_aload_n C 0 dX8_readClause_160 rfl rfl ?_
  refine x_getI C fc_X8 fl_X8_273 sh_82 (by decide) rfl dX8_readClause_161 ?_
  refine x_if_ne (tgt := 204) C dX8_readClause_164 (by decide) (fun hc => ?_) (fun hc => ?_)
  · replace hF := f_f hc hF
    exact x_vret C dX8_readClause_204 (Option.some.inj hF)
  · replace hF := f_t hc hF
    refine x_aload_n C 0 dX8_readClause_167 rfl rfl ?_
    obtain ⟨q1, hq1, hF⟩ := f_bind hF
    refine x_cVi (rest := []) C (c_X8_look l C.2.2.2.2.2.2.2.2 μ hq1) cw_X8_276 sh_82 rfl rfl ⟨by decide, by decide⟩ rfl rfl (Nat.le_of_ble_eq_true rfl) dX8_readClause_168 ?_
    refine x_istore_n C [(2, .int q1.1), (0, .ref (G.ad 82))] dX8_readClause_171 rfl (by decide) rfl ?_
    refine x_aload_n C 1 dX8_readClause_172 rfl rfl ?_
    refine x_dup C dX8_readClause_173 rfl ?_
    refine x_getI C fc_X8 fl_X8_270 sh_82 (by decide) rfl dX8_readClause_174 ?_
    refine x_aload_n C 1 dX8_readClause_177 rfl rfl ?_
    refine x_iload_n C 0 dX8_readClause_178 rfl rfl ?_
    refine x_bipush (v := 59) C dX8_readClause_179 (by decide) ?_
    refine x_icmp_ne (tgt := 188) C dX8_readClause_181 (by decide) (fun hc => ?_) (fun hc => ?_)
    · replace hF := f_f hc hF
      refine x_iconst (v := 0) C dX8_readClause_188 (by decide) ?_
      exact x_pick [(0, .ref (G.ad 82))] [1] rfl (w_X8_readClause_b189 C (q1.2 82 37) 0 q1.2 hF)
    · replace hF := f_t hc hF
      refine x_iconst (v := 1) C dX8_readClause_184 (by decide) ?_
      refine x_goto (tgt := 189) C dX8_readClause_185 (by decide) ?_
      exact x_pick [(0, .ref (G.ad 82))] [1] rfl (w_X8_readClause_b189 C (q1.2 82 37) 1 q1.2 hF)
set_option maxHeartbeats 4000000 in
theorem w_X8_readClause {G : Gl} {p : Program} {l : Launch} {e : Env} {s0 : State} {m : MethodId} {args : Array Value} {below : List Frame} {meth : Method} {c : Code} (C : Cx G p s0 m args meth c cX8_readClause 3 RX8 none) {μf : Mu}  (x1 : Int32) (μ : Mu) (hF : f_X8_readClause x1 μ = some μf) : X G p l e 2 52 s0 m args below meth c 3 none μf μ 0 [(0, .ref (G.ad 82)), (1, .int x1)] [] := by
  unfold f_X8_readClause at hF
  refine x_iload_n C 1 dX8_readClause_0 rfl rfl ?_
  refine x_iconst (v := 2) C dX8_readClause_1 (by decide) ?_
  refine x_icmp_ne (tgt := 75) C dX8_readClause_2 (by decide) (fun hc => ?_) (fun hc => ?_)
  · replace hF := f_f hc hF
    refine x_iload_n C 1 dX8_readClause_75 rfl rfl ?_
    refine x_iconst (v := 4) C dX8_readClause_76 (by decide) ?_
    refine x_icmp_ne (tgt := 97) C dX8_readClause_77 (by decide) (fun hc => ?_) (fun hc => ?_)
    · replace hF := f_f hc hF
      refine x_iload_n C 1 dX8_readClause_97 rfl rfl ?_
      refine x_bipush (v := 8) C dX8_readClause_98 (by decide) ?_
      refine x_icmp_ne (tgt := 121) C dX8_readClause_100 (by decide) (fun hc => ?_) (fun hc => ?_)
      · replace hF := f_f hc hF
        refine x_aload_n C 0 dX8_readClause_121 rfl rfl ?_
        obtain ⟨q1, hq1, hF⟩ := f_bind hF
        refine x_cVv (rest := []) C (c_X8_takeWord l C.2.2.2.2.2.2.2.2 μ hq1) cw_X8_305 sh_82 rfl rfl ⟨by decide, by decide⟩ rfl rfl (Nat.le_of_ble_eq_true rfl) dX8_readClause_122 ?_
        refine x_aload_n C 0 dX8_readClause_125 rfl rfl ?_
        refine x_getR C fc_X8 fl_X8_108 sh_82 (by decide) rfl dX8_readClause_126 ?_
        refine x_iload_n C 1 dX8_readClause_129 rfl rfl ?_
        refine x_aload_n C 0 dX8_readClause_130 rfl rfl ?_
        refine x_iload_n C 1 dX8_readClause_131 rfl rfl ?_
        obtain ⟨q2, hq2, hF⟩ := f_bind hF
        refine x_cVi (rest := [.int x1, .ref (G.ad 113)]) C (c_X8_wordOf l C.2.2.2.2.2.2.2.2 x1 q1 hq2) cw_X8_308 sh_82 rfl rfl ⟨by decide, by decide⟩ rfl rfl (Nat.le_of_ble_eq_true rfl) dX8_readClause_132 ?_
        obtain ⟨hi3, hF⟩ := f_chk hF
        refine x_iast C sh_113 hi3 dX8_readClause_135 ?_
        refine x_letM hF (fun μ4 hF => ?_)
        refine x_aload_n C 0 dX8_readClause_136 rfl rfl ?_
        refine x_aload_n C 0 dX8_readClause_137 rfl rfl ?_
        refine x_getR C fc_X8 fl_X8_108 sh_82 (by decide) rfl dX8_readClause_138 ?_
        refine x_iload_n C 1 dX8_readClause_141 rfl rfl ?_
        refine x_iald C sh_113 hi3 dX8_readClause_142 ?_
        refine x_if_lt (tgt := 150) C dX8_readClause_143 (by decide) (fun hc => ?_) (fun hc => ?_)
        · replace hF := f_t hc hF
          refine x_iconst (v := 0) C dX8_readClause_150 (by decide) ?_
          refine x_iconst (v := 1) C dX8_readClause_151 (by decide) ?_
          refine x_aload_n C 0 dX8_readClause_152 rfl rfl ?_
          refine x_getI C fc_X8 fl_X8_279 sh_82 (by decide) rfl dX8_readClause_153 ?_
          obtain ⟨q5, hq5, hF⟩ := f_bind hF
          refine x_cVi (rest := []) C (c_X8_want l C.2.2.2.2.2.2.2.2 0 1 (μ4 82 40) μ4 hq5) cw_X8_293 sh_82 rfl rfl ⟨by decide, by decide⟩ rfl rfl (Nat.le_of_ble_eq_true rfl) dX8_readClause_156 ?_
          refine x_istore_n C [(2, .int q5.1), (0, .ref (G.ad 82)), (1, .int x1)] dX8_readClause_159 rfl (by decide) rfl ?_
          exact x_pick [(0, .ref (G.ad 82))] [1] rfl (w_X8_readClause_b160 C q5.2 hF)
        · replace hF := f_f hc hF
          refine x_iconst (v := 1) C dX8_readClause_146 (by decide) ?_
          refine x_goto (tgt := 151) C dX8_readClause_147 (by decide) ?_
          refine x_iconst (v := 1) C dX8_readClause_151 (by decide) ?_
          refine x_aload_n C 0 dX8_readClause_152 rfl rfl ?_
          refine x_getI C fc_X8 fl_X8_279 sh_82 (by decide) rfl dX8_readClause_153 ?_
          obtain ⟨q6, hq6, hF⟩ := f_bind hF
          refine x_cVi (rest := []) C (c_X8_want l C.2.2.2.2.2.2.2.2 1 1 (μ4 82 40) μ4 hq6) cw_X8_293 sh_82 rfl rfl ⟨by decide, by decide⟩ rfl rfl (Nat.le_of_ble_eq_true rfl) dX8_readClause_156 ?_
          refine x_istore_n C [(2, .int q6.1), (0, .ref (G.ad 82)), (1, .int x1)] dX8_readClause_159 rfl (by decide) rfl ?_
          exact x_pick [(0, .ref (G.ad 82))] [1] rfl (w_X8_readClause_b160 C q6.2 hF)
      · replace hF := f_t hc hF
        refine x_aload_n C 0 dX8_readClause_103 rfl rfl ?_
        refine x_getR C fc_X8 fl_X8_108 sh_82 (by decide) rfl dX8_readClause_104 ?_
        refine x_bipush (v := 8) C dX8_readClause_107 (by decide) ?_
        refine x_aload_n C 0 dX8_readClause_109 rfl rfl ?_
        refine x_iconst (v := 0) C dX8_readClause_110 (by decide) ?_
        refine x_bipush (v := 9) C dX8_readClause_111 (by decide) ?_
        refine x_iconst (v := 1) C dX8_readClause_113 (by decide) ?_
        obtain ⟨q7, hq7, hF⟩ := f_bind hF
        refine x_cVi (rest := [.int 8, .ref (G.ad 113)]) C (c_X8_takeNumber l C.2.2.2.2.2.2.2.2 0 9 1 μ hq7) cw_X8_301 sh_82 rfl rfl ⟨by decide, by decide⟩ rfl rfl (Nat.le_of_ble_eq_true rfl) dX8_readClause_114 ?_
        refine x_iast C sh_113 (by decide) dX8_readClause_117 ?_
        refine x_letM hF (fun μ8 hF => ?_)
        refine x_goto (tgt := 160) C dX8_readClause_118 (by decide) ?_
        exact x_pick [(0, .ref (G.ad 82))] [0] rfl (w_X8_readClause_b160 C μ8 hF)
    · replace hF := f_t hc hF
      refine x_aload_n C 0 dX8_readClause_80 rfl rfl ?_
      refine x_getR C fc_X8 fl_X8_108 sh_82 (by decide) rfl dX8_readClause_81 ?_
      refine x_iconst (v := 4) C dX8_readClause_84 (by decide) ?_
      refine x_aload_n C 0 dX8_readClause_85 rfl rfl ?_
      refine x_iconst (v := 0) C dX8_readClause_86 (by decide) ?_
      refine x_bipush (v := 9) C dX8_readClause_87 (by decide) ?_
      refine x_iconst (v := (-1)) C dX8_readClause_89 (by decide) ?_
      obtain ⟨q9, hq9, hF⟩ := f_bind hF
      refine x_cVi (rest := [.int 4, .ref (G.ad 113)]) C (c_X8_takeNumber l C.2.2.2.2.2.2.2.2 0 9 (-1) μ hq9) cw_X8_301 sh_82 rfl rfl ⟨by decide, by decide⟩ rfl rfl (Nat.le_of_ble_eq_true rfl) dX8_readClause_90 ?_
      refine x_iast C sh_113 (by decide) dX8_readClause_93 ?_
      refine x_letM hF (fun μ10 hF => ?_)
      refine x_goto (tgt := 160) C dX8_readClause_94 (by decide) ?_
      exact x_pick [(0, .ref (G.ad 82))] [0] rfl (w_X8_readClause_b160 C μ10 hF)
  · replace hF := f_t hc hF
    refine x_aload_n C 0 dX8_readClause_5 rfl rfl ?_
    refine x_getR C fc_X8 fl_X8_108 sh_82 (by decide) rfl dX8_readClause_6 ?_
    refine x_iconst (v := 2) C dX8_readClause_9 (by decide) ?_
    refine x_aload_n C 0 dX8_readClause_10 rfl rfl ?_
    refine x_iconst (v := 1) C dX8_readClause_11 (by decide) ?_
    refine x_iconst (v := 4) C dX8_readClause_12 (by decide) ?_
    refine x_iconst (v := (-1)) C dX8_readClause_13 (by decide) ?_
    obtain ⟨q11, hq11, hF⟩ := f_bind hF
    refine x_cVi (rest := [.int 2, .ref (G.ad 113)]) C (c_X8_takeNumber l C.2.2.2.2.2.2.2.2 1 4 (-1) μ hq11) cw_X8_301 sh_82 rfl rfl ⟨by decide, by decide⟩ rfl rfl (Nat.le_of_ble_eq_true rfl) dX8_readClause_14 ?_
    refine x_iast C sh_113 (by decide) dX8_readClause_17 ?_
    refine x_letM hF (fun μ12 hF => ?_)
    refine x_aload_n C 0 dX8_readClause_18 rfl rfl ?_
    refine x_getI C fc_X8 fl_X8_273 sh_82 (by decide) rfl dX8_readClause_19 ?_
    refine x_if_ne (tgt := 160) C dX8_readClause_22 (by decide) (fun hc => ?_) (fun hc => ?_)
    · replace hF := f_f hc hF
      exact x_pick [(0, .ref (G.ad 82))] [0] rfl (w_X8_readClause_b160 C μ12 hF)
    · replace hF := f_t hc hF
      refine x_aload_n C 0 dX8_readClause_25 rfl rfl ?_
      obtain ⟨q13, hq13, hF⟩ := f_bind hF
      refine x_cVv (rest := []) C (c_X8_takeWord l C.2.2.2.2.2.2.2.2 μ12 hq13) cw_X8_305 sh_82 rfl rfl ⟨by decide, by decide⟩ rfl rfl (Nat.le_of_ble_eq_true rfl) dX8_readClause_26 ?_
      refine x_aload_n C 0 dX8_readClause_29 rfl rfl ?_
      refine x_aload_n C 0 dX8_readClause_30 rfl rfl ?_
      refine x_iconst (v := 4) C dX8_readClause_31 (by decide) ?_
      refine x_bipush (v := 115) C dX8_readClause_32 (by decide) ?_
      refine x_bipush (v := 104) C dX8_readClause_34 (by decide) ?_
      refine x_bipush (v := 111) C dX8_readClause_36 (by decide) ?_
      refine x_bipush (v := 119) C dX8_readClause_38 (by decide) ?_
      refine x_iconst (v := 0) C dX8_readClause_40 (by decide) ?_
      refine x_iconst (v := 0) C dX8_readClause_41 (by decide) ?_
      obtain ⟨q14, hq14, hF⟩ := f_bind hF
      refine x_cVi (rest := [.ref (G.ad 82)]) C (c_X8_isWord l C.2.2.2.2.2.2.2.2 4 115 104 111 119 0 0 q13 hq14) cw_X8_297 sh_82 rfl rfl ⟨by decide, by decide⟩ rfl rfl (Nat.le_of_ble_eq_true rfl) dX8_readClause_42 ?_
      refine x_iconst (v := 1) C dX8_readClause_45 (by decide) ?_
      refine x_aload_n C 0 dX8_readClause_46 rfl rfl ?_
      refine x_getI C fc_X8 fl_X8_279 sh_82 (by decide) rfl dX8_readClause_47 ?_
      obtain ⟨q15, hq15, hF⟩ := f_bind hF
      refine x_cVi (rest := []) C (c_X8_want l C.2.2.2.2.2.2.2.2 q14 1 (q13 82 40) q13 hq15) cw_X8_293 sh_82 rfl rfl ⟨by decide, by decide⟩ rfl rfl (Nat.le_of_ble_eq_true rfl) dX8_readClause_50 ?_
      refine x_istore_n C [(2, .int q15.1), (0, .ref (G.ad 82)), (1, .int x1)] dX8_readClause_53 rfl (by decide) rfl ?_
      refine x_aload_n C 1 dX8_readClause_54 rfl rfl ?_
      refine x_getR C fc_X8 fl_X8_108 sh_82 (by decide) rfl dX8_readClause_55 ?_
      refine x_iconst (v := 3) C dX8_readClause_58 (by decide) ?_
      refine x_aload_n C 1 dX8_readClause_59 rfl rfl ?_
      refine x_iconst (v := 1) C dX8_readClause_60 (by decide) ?_
      refine x_aload_n C 1 dX8_readClause_61 rfl rfl ?_
      refine x_getR C fc_X8 fl_X8_108 sh_82 (by decide) rfl dX8_readClause_62 ?_
      refine x_iconst (v := 2) C dX8_readClause_65 (by decide) ?_
      refine x_iald C sh_113 (by decide) dX8_readClause_66 ?_
      refine x_iconst (v := (-1)) C dX8_readClause_67 (by decide) ?_
      obtain ⟨q16, hq16, hF⟩ := f_bind hF
      refine x_cVi (rest := [.int 3, .ref (G.ad 113)]) C (c_X8_takeNumber l C.2.2.2.2.2.2.2.2 1 (q15.2 113 (ix 2)) (-1) q15.2 hq16) cw_X8_301 sh_82 rfl rfl ⟨by decide, by decide⟩ rfl rfl (Nat.le_of_ble_eq_true rfl) dX8_readClause_68 ?_
      refine x_iast C sh_113 (by decide) dX8_readClause_71 ?_
      refine x_letM hF (fun μ17 hF => ?_)
      refine x_goto (tgt := 160) C dX8_readClause_72 (by decide) ?_
      exact x_pick [(0, .ref (G.ad 82))] [1] rfl (w_X8_readClause_b160 C μ17 hF)
set_option maxHeartbeats 4000000 in
theorem c_X8_readClause {G : Gl} (l : Launch) (hA : Ap G) {μf : Mu}  (x1 : Int32) (μ : Mu) (hF : f_X8_readClause x1 μ = some μf) : Mth G l yX8_readClause cX8_readClause 3 none 2 52 [.ref (G.ad 82), .int x1] none μf μ := Mth.of hA (by decide) rfl (Nat.le_of_ble_eq_true rfl) (fun p e s0 m args below meth c C => w_X8_readClause C x1 μ hF)
set_option maxHeartbeats 4000000 in
theorem w_X8_read_L151 {G : Gl} {p : Program} {l : Launch} {e : Env} {s0 : State} {m : MethodId} {args : Array Value} {below : List Frame} {meth : Method} {c : Code} (C : Cx G p s0 m args meth c cX8_read 4 RX8 (some .int)) {r : Int32} {μf : Mu}  : ∀ (n : Nat) (x1 : Int32) (x3 : Int32) (μ : Mu), f_X8_read_L151 n x1 x3 μ = some (r, μf) → X G p l e 3 74 s0 m args below meth c 4 (some (.int r)) μf μ 151 [(0, .ref (G.ad 82)), (1, .int x1), (3, .int x3)] [] := by
  intro n
  induction n with
  | zero =>
    intro x1 x3 μ hF
    rw [f_X8_read_L151] at hF
    cases hF
  | succ n ih =>
    intro x1 x3 μ hF
    rw [f_X8_read_L151] at hF
    refine x_iload_n C 2 dX8_read_151 rfl rfl ?_
    refine x_bipush (v := 10) C dX8_read_152 (by decide) ?_
    refine x_icmp_ge (tgt := 178) C dX8_read_154 (by decide) (fun hc => ?_) (fun hc => ?_)
    · replace hF := f_t hc hF
      refine x_iload_n C 1 dX8_read_178 rfl rfl ?_
      exact x_iret C dX8_read_179 (Prod.mk.inj (Option.some.inj hF)).1 (Prod.mk.inj (Option.some.inj hF)).2
    · replace hF := f_f hc hF
      refine x_aload_n C 0 dX8_read_157 rfl rfl ?_
      refine x_getR C fc_X8 fl_X8_46 sh_82 (by decide) rfl dX8_read_158 ?_
      refine x_bipush (v := 40) C dX8_read_161 (by decide) ?_
      refine x_iload_n C 2 dX8_read_163 rfl rfl ?_
      refine x_iadd C dX8_read_164 ?_
      refine x_aload_n C 0 dX8_read_165 rfl rfl ?_
      refine x_getR C fc_X8 fl_X8_108 sh_82 (by decide) rfl dX8_read_166 ?_
      refine x_iload_n C 2 dX8_read_169 rfl rfl ?_
      obtain ⟨hi1, hF⟩ := f_chk hF
      refine x_iald C sh_113 hi1 dX8_read_170 ?_
      obtain ⟨hi2, hF⟩ := f_chk hF
      refine x_iast C sh_95 hi2 dX8_read_171 ?_
      refine x_letM hF (fun μ3 hF => ?_)
      refine x_iinc C [(3, .int (x3 + 1)), (0, .ref (G.ad 82)), (1, .int x1)] 2 dX8_read_172 rfl rfl (by decide) rfl ?_
      refine x_goto (tgt := 151) C dX8_read_175 (by decide) ?_
      exact x_pick [(0, .ref (G.ad 82)), (1, .int x1), (3, .int (x3 + 1))] [1, 2, 0] rfl (ih x1 (x3 + 1) μ3 hF)
set_option maxHeartbeats 4000000 in
theorem w_X8_read_b129 {G : Gl} {p : Program} {l : Launch} {e : Env} {s0 : State} {m : MethodId} {args : Array Value} {below : List Frame} {meth : Method} {c : Code} (C : Cx G p s0 m args meth c cX8_read 4 RX8 (some .int)) {r : Int32} {μf : Mu}  (x1 : Int32) (μ : Mu) (hF : f_X8_read_b129 x1 μ = some (r, μf)) : X G p l e 3 74 s0 m args below meth c 4 (some (.int r)) μf μ 129 [(0, .ref (G.ad 82)), (1, .int x1)] [] := by
  unfold f_X8_read_b129 at hF
  refine x_aload_n C 0 dX8_read_129 rfl rfl ?_
  refine x_iconst (v := 0) C dX8_read_130 (by decide) ?_
  refine x_putI C fc_X8 fl_X8_263 sh_82 (by decide) rfl rfl rfl ⟨rfl, rfl⟩ dX8_read_131 ?_
  refine x_letM hF (fun μ1 hF => ?_)
  refine x_aload_n C 0 dX8_read_134 rfl rfl ?_
  refine x_getI C fc_X8 fl_X8_273 sh_82 (by decide) rfl dX8_read_135 ?_
  refine x_if_le (tgt := 149) C dX8_read_138 (by decide) (fun hc => ?_) (fun hc => ?_)
  · replace hF := f_t hc hF
    refine x_iconst (v := 0) C dX8_read_149 (by decide) ?_
    refine x_istore_n C [(3, .int 0), (0, .ref (G.ad 82)), (1, .int x1)] dX8_read_150 rfl (by decide) rfl ?_
    exact x_pick [(0, .ref (G.ad 82)), (1, .int x1), (3, .int 0)] [1, 2, 0] rfl (w_X8_read_L151 C fu x1 0 μ1 hF)
  · replace hF := f_f hc hF
    refine x_bipush (v := (-10)) C dX8_read_141 (by decide) ?_
    refine x_aload_n C 0 dX8_read_143 rfl rfl ?_
    refine x_getI C fc_X8 fl_X8_273 sh_82 (by decide) rfl dX8_read_144 ?_
    refine x_isub C dX8_read_147 ?_
    exact x_iret C dX8_read_148 (Prod.mk.inj (Option.some.inj hF)).1 (Prod.mk.inj (Option.some.inj hF)).2
set_option maxHeartbeats 4000000 in
theorem w_X8_read_b101 {G : Gl} {p : Program} {l : Launch} {e : Env} {s0 : State} {m : MethodId} {args : Array Value} {below : List Frame} {meth : Method} {c : Code} (C : Cx G p s0 m args meth c cX8_read 4 RX8 (some .int)) {r : Int32} {μf : Mu}  {k43 : Int32 → Int32 → Mu → Option (Int32 × Mu)} (hk43 : ∀ (x1 : Int32) (x2 : Int32) (μ : Mu), k43 x1 x2 μ = some (r, μf) → X G p l e 3 74 s0 m args below meth c 4 (some (.int r)) μf μ 43 [(0, .ref (G.ad 82)), (1, .int x1), (2, .int x2)] []) (x1 : Int32) (x2 : Int32) (x3 : Int32) (t1 : Int32) (μ : Mu) (hF : f_X8_read_b101 k43 x1 x2 x3 t1 μ = some (r, μf)) : X G p l e 3 74 s0 m args below meth c 4 (some (.int r)) μf μ 101 [(0, .ref (G.ad 82)), (1, .int x1), (2, .int x2), (3, .int x3)] [.int t1, .ref (G.ad 82)] := by
  unfold f_X8_read_b101 at hF
  refine x_iconst (v := 3) C dX8_read_101 (by decide) ?_
  refine x_aload_n C 0 dX8_read_102 rfl rfl ?_
  refine x_getI C fc_X8 fl_X8_279 sh_82 (by decide) rfl dX8_read_103 ?_
  obtain ⟨q1, hq1, hF⟩ := f_bind hF
  refine x_cVi (rest := []) C (c_X8_want l C.2.2.2.2.2.2.2.2 t1 3 (μ 82 40) μ hq1) cw_X8_293 sh_82 rfl rfl ⟨by decide, by decide⟩ rfl rfl (Nat.le_of_ble_eq_true rfl) dX8_read_106 ?_
  refine x_if_eq (tgt := 126) C dX8_read_109 (by decide) (fun hc => ?_) (fun hc => ?_)
  · replace hF := f_t hc hF
    refine x_goto (tgt := 43) C dX8_read_126 (by decide) ?_
    exact x_pick [(0, .ref (G.ad 82)), (1, .int x1), (2, .int x2)] [0, 1, 2] rfl (hk43 x1 x2 q1.2 hF)
  · replace hF := f_f hc hF
    refine x_iload_n C 2 dX8_read_112 rfl rfl ?_
    refine x_iconst (v := 1) C dX8_read_113 (by decide) ?_
    refine x_iload_n C 3 dX8_read_114 rfl rfl ?_
    refine x_ishl C dX8_read_115 ?_
    refine x_ior C dX8_read_116 ?_
    refine x_letI hF (fun y2 hF => ?_)
    refine x_istore_n C [(2, .int y2), (0, .ref (G.ad 82)), (1, .int x1), (3, .int x3)] dX8_read_117 rfl (by decide) rfl ?_
    refine x_aload_n C 1 dX8_read_118 rfl rfl ?_
    refine x_iload_n C 3 dX8_read_119 rfl rfl ?_
    obtain ⟨q3, hq3, hF⟩ := f_bind hF
    refine x_cVv (rest := []) C (c_X8_readClause l C.2.2.2.2.2.2.2.2 x3 q1.2 hq3) cw_X8_314 sh_82 rfl rfl ⟨by decide, by decide⟩ rfl rfl (Nat.le_of_ble_eq_true rfl) dX8_read_120 ?_
    refine x_iinc C [(1, .int (x1 + 1)), (2, .int y2), (0, .ref (G.ad 82)), (3, .int x3)] 2 dX8_read_123 rfl rfl (by decide) rfl ?_
    refine x_goto (tgt := 43) C dX8_read_126 (by decide) ?_
    exact x_pick [(0, .ref (G.ad 82)), (1, .int (x1 + 1)), (2, .int y2)] [2, 0, 1] rfl (hk43 (x1 + 1) y2 q3 hF)
set_option maxHeartbeats 4000000 in
theorem w_X8_read_b76 {G : Gl} {p : Program} {l : Launch} {e : Env} {s0 : State} {m : MethodId} {args : Array Value} {below : List Frame} {meth : Method} {c : Code} (C : Cx G p s0 m args meth c cX8_read 4 RX8 (some .int)) {r : Int32} {μf : Mu}  {k43 : Int32 → Int32 → Mu → Option (Int32 × Mu)} (hk43 : ∀ (x1 : Int32) (x2 : Int32) (μ : Mu), k43 x1 x2 μ = some (r, μf) → X G p l e 3 74 s0 m args below meth c 4 (some (.int r)) μf μ 43 [(0, .ref (G.ad 82)), (1, .int x1), (2, .int x2)] []) (x1 : Int32) (x2 : Int32) (x3 : Int32) (t1 : Int32) (μ : Mu) (hF : f_X8_read_b76 k43 x1 x2 x3 t1 μ = some (r, μf)) : X G p l e 3 74 s0 m args below meth c 4 (some (.int r)) μf μ 76 [(0, .ref (G.ad 82)), (1, .int x1), (2, .int x2), (3, .int x3)] [.int t1, .ref (G.ad 82)] := by
  unfold f_X8_read_b76 at hF
  refine x_iconst (v := 1) C dX8_read_76 (by decide) ?_
  refine x_aload_n C 0 dX8_read_77 rfl rfl ?_
  refine x_getI C fc_X8 fl_X8_279 sh_82 (by decide) rfl dX8_read_78 ?_
  obtain ⟨q1, hq1, hF⟩ := f_bind hF
  refine x_cVi (rest := []) C (c_X8_want l C.2.2.2.2.2.2.2.2 t1 1 (μ 82 40) μ hq1) cw_X8_293 sh_82 rfl rfl ⟨by decide, by decide⟩ rfl rfl (Nat.le_of_ble_eq_true rfl) dX8_read_81 ?_
  refine x_if_eq (tgt := 126) C dX8_read_84 (by decide) (fun hc => ?_) (fun hc => ?_)
  · replace hF := f_t hc hF
    refine x_goto (tgt := 43) C dX8_read_126 (by decide) ?_
    exact x_pick [(0, .ref (G.ad 82)), (1, .int x1), (2, .int x2)] [0, 1, 2] rfl (hk43 x1 x2 q1.2 hF)
  · replace hF := f_f hc hF
    refine x_aload_n C 0 dX8_read_87 rfl rfl ?_
    refine x_iload_n C 2 dX8_read_88 rfl rfl ?_
    refine x_iload_n C 3 dX8_read_89 rfl rfl ?_
    refine x_ishr C dX8_read_90 ?_
    refine x_iconst (v := 1) C dX8_read_91 (by decide) ?_
    refine x_iand C dX8_read_92 ?_
    refine x_if_ne (tgt := 100) C dX8_read_93 (by decide) (fun hc => ?_) (fun hc => ?_)
    · replace hF := f_f hc hF
      refine x_iconst (v := 0) C dX8_read_100 (by decide) ?_
      exact x_pick [(0, .ref (G.ad 82)), (1, .int x1), (2, .int x2), (3, .int x3)] [0, 1, 2, 3] rfl (w_X8_read_b101 C hk43 x1 x2 x3 0 q1.2 hF)
    · replace hF := f_t hc hF
      refine x_iconst (v := 1) C dX8_read_96 (by decide) ?_
      refine x_goto (tgt := 101) C dX8_read_97 (by decide) ?_
      exact x_pick [(0, .ref (G.ad 82)), (1, .int x1), (2, .int x2), (3, .int x3)] [0, 1, 2, 3] rfl (w_X8_read_b101 C hk43 x1 x2 x3 1 q1.2 hF)
set_option maxHeartbeats 4000000 in
theorem w_X8_read_L43 {G : Gl} {p : Program} {l : Launch} {e : Env} {s0 : State} {m : MethodId} {args : Array Value} {below : List Frame} {meth : Method} {c : Code} (C : Cx G p s0 m args meth c cX8_read 4 RX8 (some .int)) {r : Int32} {μf : Mu}  : ∀ (n : Nat) (x1 : Int32) (x2 : Int32) (μ : Mu), f_X8_read_L43 n x1 x2 μ = some (r, μf) → X G p l e 3 74 s0 m args below meth c 4 (some (.int r)) μf μ 43 [(0, .ref (G.ad 82)), (1, .int x1), (2, .int x2)] [] := by
  intro n
  induction n with
  | zero =>
    intro x1 x2 μ hF
    rw [f_X8_read_L43] at hF
    cases hF
  | succ n ih =>
    intro x1 x2 μ hF
    rw [f_X8_read_L43] at hF
    refine x_aload_n C 0 dX8_read_43 rfl rfl ?_
    refine x_getI C fc_X8 fl_X8_273 sh_82 (by decide) rfl dX8_read_44 ?_
    refine x_if_ne (tgt := 129) C dX8_read_47 (by decide) (fun hc => ?_) (fun hc => ?_)
    · replace hF := f_f hc hF
      exact x_pick [(0, .ref (G.ad 82)), (1, .int x1)] [0, 1] rfl (w_X8_read_b129 C x1 μ hF)
    · replace hF := f_t hc hF
      refine x_aload_n C 0 dX8_read_50 rfl rfl ?_
      obtain ⟨q1, hq1, hF⟩ := f_bind hF
      refine x_cVi (rest := []) C (c_X8_look l C.2.2.2.2.2.2.2.2 μ hq1) cw_X8_276 sh_82 rfl rfl ⟨by decide, by decide⟩ rfl rfl (Nat.le_of_ble_eq_true rfl) dX8_read_51 ?_
      refine x_if_lt (tgt := 129) C dX8_read_54 (by decide) (fun hc => ?_) (fun hc => ?_)
      · replace hF := f_t hc hF
        exact x_pick [(0, .ref (G.ad 82)), (1, .int x1)] [0, 1] rfl (w_X8_read_b129 C x1 q1.2 hF)
      · replace hF := f_f hc hF
        refine x_aload_n C 0 dX8_read_57 rfl rfl ?_
        obtain ⟨q2, hq2, hF⟩ := f_bind hF
        refine x_cVv (rest := []) C (c_X8_takeWord l C.2.2.2.2.2.2.2.2 q1.2 hq2) cw_X8_305 sh_82 rfl rfl ⟨by decide, by decide⟩ rfl rfl (Nat.le_of_ble_eq_true rfl) dX8_read_58 ?_
        refine x_aload_n C 0 dX8_read_61 rfl rfl ?_
        obtain ⟨q3, hq3, hF⟩ := f_bind hF
        refine x_cVi (rest := []) C (c_X8_kindOf l C.2.2.2.2.2.2.2.2 q2 hq3) cw_X8_311 sh_82 rfl rfl ⟨by decide, by decide⟩ rfl rfl (Nat.le_of_ble_eq_true rfl) dX8_read_62 ?_
        refine x_istore_n C [(3, .int q3), (0, .ref (G.ad 82)), (1, .int x1), (2, .int x2)] dX8_read_65 rfl (by decide) rfl ?_
        refine x_aload_n C 1 dX8_read_66 rfl rfl ?_
        refine x_iload_n C 0 dX8_read_67 rfl rfl ?_
        refine x_if_lt (tgt := 75) C dX8_read_68 (by decide) (fun hc => ?_) (fun hc => ?_)
        · replace hF := f_t hc hF
          refine x_iconst (v := 0) C dX8_read_75 (by decide) ?_
          exact x_pick [(0, .ref (G.ad 82)), (1, .int x1), (2, .int x2), (3, .int q3)] [1, 2, 3, 0] rfl (w_X8_read_b76 C ih x1 x2 q3 0 q2 hF)
        · replace hF := f_f hc hF
          refine x_iconst (v := 1) C dX8_read_71 (by decide) ?_
          refine x_goto (tgt := 76) C dX8_read_72 (by decide) ?_
          exact x_pick [(0, .ref (G.ad 82)), (1, .int x1), (2, .int x2), (3, .int q3)] [1, 2, 3, 0] rfl (w_X8_read_b76 C ih x1 x2 q3 1 q2 hF)
set_option maxHeartbeats 4000000 in
theorem w_X8_read_L17 {G : Gl} {p : Program} {l : Launch} {e : Env} {s0 : State} {m : MethodId} {args : Array Value} {below : List Frame} {meth : Method} {c : Code} (C : Cx G p s0 m args meth c cX8_read 4 RX8 (some .int)) {r : Int32} {μf : Mu}  : ∀ (n : Nat) (x1 : Int32) (μ : Mu), f_X8_read_L17 n x1 μ = some (r, μf) → X G p l e 3 74 s0 m args below meth c 4 (some (.int r)) μf μ 17 [(0, .ref (G.ad 82)), (1, .int x1)] [] := by
  intro n
  induction n with
  | zero =>
    intro x1 μ hF
    rw [f_X8_read_L17] at hF
    cases hF
  | succ n ih =>
    intro x1 μ hF
    rw [f_X8_read_L17] at hF
    refine x_iload_n C 1 dX8_read_17 rfl rfl ?_
    refine x_bipush (v := 10) C dX8_read_18 (by decide) ?_
    refine x_icmp_ge (tgt := 39) C dX8_read_20 (by decide) (fun hc => ?_) (fun hc => ?_)
    · replace hF := f_t hc hF
      refine x_iconst (v := 0) C dX8_read_39 (by decide) ?_
      refine x_istore_n C [(1, .int 0), (0, .ref (G.ad 82))] dX8_read_40 rfl (by decide) rfl ?_
      refine x_iconst (v := 0) C dX8_read_41 (by decide) ?_
      refine x_istore_n C [(2, .int 0), (1, .int 0), (0, .ref (G.ad 82))] dX8_read_42 rfl (by decide) rfl ?_
      exact x_pick [(0, .ref (G.ad 82)), (1, .int 0), (2, .int 0)] [2, 1, 0] rfl (w_X8_read_L43 C fu 0 0 μ hF)
    · replace hF := f_f hc hF
      refine x_aload_n C 0 dX8_read_23 rfl rfl ?_
      refine x_getR C fc_X8 fl_X8_108 sh_82 (by decide) rfl dX8_read_24 ?_
      refine x_iload_n C 1 dX8_read_27 rfl rfl ?_
      refine x_iload_n C 1 dX8_read_28 rfl rfl ?_
      refine x_cSi (rest := [.int x1, .ref (G.ad 113)]) C (c_X8_atFirst l C.2.2.2.2.2.2.2.2 x1 μ) cw_X8_120 ⟨by decide, by decide⟩ rfl rfl (Nat.le_of_ble_eq_true rfl) dX8_read_29 ?_
      obtain ⟨hi1, hF⟩ := f_chk hF
      refine x_iast C sh_113 hi1 dX8_read_32 ?_
      refine x_letM hF (fun μ2 hF => ?_)
      refine x_iinc C [(1, .int (x1 + 1)), (0, .ref (G.ad 82))] 1 dX8_read_33 rfl rfl (by decide) rfl ?_
      refine x_goto (tgt := 17) C dX8_read_36 (by decide) ?_
      exact x_pick [(0, .ref (G.ad 82)), (1, .int (x1 + 1))] [1, 0] rfl (ih (x1 + 1) μ2 hF)
set_option maxHeartbeats 4000000 in
theorem w_X8_read {G : Gl} {p : Program} {l : Launch} {e : Env} {s0 : State} {m : MethodId} {args : Array Value} {below : List Frame} {meth : Method} {c : Code} (C : Cx G p s0 m args meth c cX8_read 4 RX8 (some .int)) {r : Int32} {μf : Mu}  (μ : Mu) (hF : f_X8_read μ = some (r, μf)) : X G p l e 3 74 s0 m args below meth c 4 (some (.int r)) μf μ 0 [(0, .ref (G.ad 82))] [] := by
  unfold f_X8_read at hF
  refine x_aload_n C 0 dX8_read_0 rfl rfl ?_
  refine x_iconst (v := 0) C dX8_read_1 (by decide) ?_
  refine x_putI C fc_X8 fl_X8_270 sh_82 (by decide) rfl rfl rfl ⟨rfl, rfl⟩ dX8_read_2 ?_
  refine x_letM hF (fun μ1 hF => ?_)
  refine x_aload_n C 0 dX8_read_5 rfl rfl ?_
  refine x_iconst (v := 0) C dX8_read_6 (by decide) ?_
  refine x_putI C fc_X8 fl_X8_273 sh_82 (by decide) rfl rfl rfl ⟨rfl, rfl⟩ dX8_read_7 ?_
  refine x_letM hF (fun μ2 hF => ?_)
  refine x_aload_n C 0 dX8_read_10 rfl rfl ?_
  refine x_iconst (v := (-1)) C dX8_read_11 (by decide) ?_
  refine x_putI C fc_X8 fl_X8_105 sh_82 (by decide) rfl rfl rfl ⟨rfl, rfl⟩ dX8_read_12 ?_
  refine x_letM hF (fun μ3 hF => ?_)
  refine x_iconst (v := 0) C dX8_read_15 (by decide) ?_
  refine x_istore_n C [(1, .int 0), (0, .ref (G.ad 82))] dX8_read_16 rfl (by decide) rfl ?_
  exact x_pick [(0, .ref (G.ad 82)), (1, .int 0)] [1, 0] rfl (w_X8_read_L17 C fu 0 μ3 hF)
set_option maxHeartbeats 4000000 in
theorem c_X8_read {G : Gl} (l : Launch) (hA : Ap G) {r : Int32} {μf : Mu}  (μ : Mu) (hF : f_X8_read μ = some (r, μf)) : Mth G l yX8_read cX8_read 4 (some .int) 3 74 [.ref (G.ad 82)] (some (.int r)) μf μ := Mth.of hA (by decide) rfl (Nat.le_of_ble_eq_true rfl) (fun p e s0 m args below meth c C => w_X8_read C μ hF)
set_option maxHeartbeats 4000000 in
theorem w_X8_style {G : Gl} {p : Program} {l : Launch} {e : Env} {s0 : State} {m : MethodId} {args : Array Value} {below : List Frame} {meth : Method} {c : Code} (C : Cx G p s0 m args meth c cX8_style 2 RX8 (some .int)) {r : Int32}  (x1 : Int32) (μ : Mu) (hF : f_X8_style x1 μ = some r) : X G p l e 1 25 s0 m args below meth c 2 (some (.int r)) μ μ 0 [(0, .ref (G.ad 82)), (1, .int x1)] [] := by
  unfold f_X8_style at hF
  refine x_iload_n C 1 dX8_style_0 rfl rfl ?_
  refine x_i2l C dX8_style_1 ?_
  refine x_lconst (v := 0) C dX8_style_2 (by decide) ?_
  refine x_ldc2 C cl_X8_317 dX8_style_3 ?_
  refine x_cSi (rest := []) C (c_X8_in l C.2.2.2.2.2.2.2.2 ((x1 : Int32).toInt64) 0 9 μ) cw_X8_127 ⟨by decide, by decide⟩ rfl rfl (Nat.le_of_ble_eq_true rfl) dX8_style_6 ?_
  refine x_if_eq (tgt := 24) C dX8_style_9 (by decide) (fun hc => ?_) (fun hc => ?_)
  · replace hF := f_t hc hF
    refine x_sipush (v := (-1002)) C dX8_style_24 (by decide) ?_
    exact x_iret C dX8_style_27 (Option.some.inj hF) rfl
  · replace hF := f_f hc hF
    refine x_aload_n C 0 dX8_style_12 rfl rfl ?_
    refine x_getR C fc_X8 fl_X8_46 sh_82 (by decide) rfl dX8_style_13 ?_
    refine x_bipush (v := 40) C dX8_style_16 (by decide) ?_
    refine x_iload_n C 1 dX8_style_18 rfl rfl ?_
    refine x_iadd C dX8_style_19 ?_
    obtain ⟨hi1, hF⟩ := f_chk hF
    refine x_iald C sh_95 hi1 dX8_style_20 ?_
    refine x_goto (tgt := 27) C dX8_style_21 (by decide) ?_
    exact x_iret C dX8_style_27 (Option.some.inj hF) rfl
set_option maxHeartbeats 4000000 in
theorem c_X8_style {G : Gl} (l : Launch) (hA : Ap G) {r : Int32}  (x1 : Int32) (μ : Mu) (hF : f_X8_style x1 μ = some r) : Mth G l yX8_style cX8_style 2 (some .int) 1 25 [.ref (G.ad 82), .int x1] (some (.int r)) μ μ := Mth.of hA (by decide) rfl (Nat.le_of_ble_eq_true rfl) (fun p e s0 m args below meth c C => w_X8_style C x1 μ hF)
set_option maxHeartbeats 4000000 in
theorem w_X8_together_b110 {G : Gl} {p : Program} {l : Launch} {e : Env} {s0 : State} {m : MethodId} {args : Array Value} {below : List Frame} {meth : Method} {c : Code} (C : Cx G p s0 m args meth c cX8_together 11 RX8 (some .int)) {r : Int32} {μf : Mu}  {k44 : Int32 → Int32 → Int32 → Int32 → Mu → Option (Int32 × Mu)} (hk44 : ∀ (x3 : Int32) (x4 : Int32) (x5 : Int32) (x6 : Int32) (μ : Mu), k44 x3 x4 x5 x6 μ = some (r, μf) → X G p l e 2 46 s0 m args below meth c 11 (some (.int r)) μf μ 44 [(0, .ref (G.ad 82)), (3, .int x3), (4, .int x4), (5, .int x5), (6, .int x6)] []) {k64 : Int32 → Int32 → Int32 → Int32 → Int32 → Int32 → Int32 → Mu → Option (Int32 × Mu)} (hk64 : ∀ (x3 : Int32) (x4 : Int32) (x5 : Int32) (x6 : Int32) (x7 : Int32) (x8 : Int32) (x9 : Int32) (μ : Mu), k64 x3 x4 x5 x6 x7 x8 x9 μ = some (r, μf) → X G p l e 2 46 s0 m args below meth c 11 (some (.int r)) μf μ 64 [(0, .ref (G.ad 82)), (3, .int x3), (4, .int x4), (5, .int x5), (6, .int x6), (7, .int x7), (8, .int x8), (9, .int x9)] []) (x3 : Int32) (x4 : Int32) (x5 : Int32) (x6 : Int32) (x8 : Int32) (x9 : Int32) (x10 : Int32) (t0 : Int32) (μ : Mu) (hF : f_X8_together_b110 k44 k64 x3 x4 x5 x6 x8 x9 x10 t0 μ = some (r, μf)) : X G p l e 2 46 s0 m args below meth c 11 (some (.int r)) μf μ 110 [(0, .ref (G.ad 82)), (3, .int x3), (4, .int x4), (5, .int x5), (6, .int x6), (8, .int x8), (9, .int x9), (10, .int x10)] [.int t0] := by
  unfold f_X8_together_b110 at hF
  refine x_istore C [(7, .int t0), (0, .ref (G.ad 82)), (3, .int x3), (4, .int x4), (5, .int x5), (6, .int x6), (8, .int x8), (9, .int x9), (10, .int x10)] dX8_together_110 (by decide) rfl ?_
  refine x_iload C 6 dX8_together_112 rfl ?_
  refine x_if_ne (tgt := 124) C dX8_together_114 (by decide) (fun hc => ?_) (fun hc => ?_)
  · replace hF := f_f hc hF
    refine x_iconst (v := 1) C dX8_together_124 (by decide) ?_
    refine x_goto (tgt := 129) C dX8_together_125 (by decide) ?_
    refine x_istore C [(8, .int 1), (7, .int t0), (0, .ref (G.ad 82)), (3, .int x3), (4, .int x4), (5, .int x5), (6, .int x6), (9, .int x9), (10, .int x10)] dX8_together_129 (by decide) rfl ?_
    refine x_iinc C [(9, .int (x9 + 1)), (8, .int 1), (7, .int t0), (0, .ref (G.ad 82)), (3, .int x3), (4, .int x4), (5, .int x5), (6, .int x6), (10, .int x10)] 7 dX8_together_131 rfl rfl (by decide) rfl ?_
    refine x_goto (tgt := 64) C dX8_together_134 (by decide) ?_
    exact x_pick [(0, .ref (G.ad 82)), (3, .int x3), (4, .int x4), (5, .int x5), (6, .int x6), (7, .int t0), (8, .int 1), (9, .int (x9 + 1))] [3, 4, 5, 6, 7, 2, 1, 0] rfl (hk64 x3 x4 x5 x6 t0 1 (x9 + 1) μ hF)
  · replace hF := f_t hc hF
    refine x_iload C 8 dX8_together_117 rfl ?_
    refine x_iload C 3 dX8_together_119 rfl ?_
    refine x_icmp_ne (tgt := 128) C dX8_together_121 (by decide) (fun hc => ?_) (fun hc => ?_)
    · replace hF := f_f hc hF
      refine x_iconst (v := 0) C dX8_together_128 (by decide) ?_
      refine x_istore C [(8, .int 0), (7, .int t0), (0, .ref (G.ad 82)), (3, .int x3), (4, .int x4), (5, .int x5), (6, .int x6), (9, .int x9), (10, .int x10)] dX8_together_129 (by decide) rfl ?_
      refine x_iinc C [(9, .int (x9 + 1)), (8, .int 0), (7, .int t0), (0, .ref (G.ad 82)), (3, .int x3), (4, .int x4), (5, .int x5), (6, .int x6), (10, .int x10)] 7 dX8_together_131 rfl rfl (by decide) rfl ?_
      refine x_goto (tgt := 64) C dX8_together_134 (by decide) ?_
      exact x_pick [(0, .ref (G.ad 82)), (3, .int x3), (4, .int x4), (5, .int x5), (6, .int x6), (7, .int t0), (8, .int 0), (9, .int (x9 + 1))] [3, 4, 5, 6, 7, 2, 1, 0] rfl (hk64 x3 x4 x5 x6 t0 0 (x9 + 1) μ hF)
    · replace hF := f_t hc hF
      refine x_iconst (v := 1) C dX8_together_124 (by decide) ?_
      refine x_goto (tgt := 129) C dX8_together_125 (by decide) ?_
      refine x_istore C [(8, .int 1), (7, .int t0), (0, .ref (G.ad 82)), (3, .int x3), (4, .int x4), (5, .int x5), (6, .int x6), (9, .int x9), (10, .int x10)] dX8_together_129 (by decide) rfl ?_
      refine x_iinc C [(9, .int (x9 + 1)), (8, .int 1), (7, .int t0), (0, .ref (G.ad 82)), (3, .int x3), (4, .int x4), (5, .int x5), (6, .int x6), (10, .int x10)] 7 dX8_together_131 rfl rfl (by decide) rfl ?_
      refine x_goto (tgt := 64) C dX8_together_134 (by decide) ?_
      exact x_pick [(0, .ref (G.ad 82)), (3, .int x3), (4, .int x4), (5, .int x5), (6, .int x6), (7, .int t0), (8, .int 1), (9, .int (x9 + 1))] [3, 4, 5, 6, 7, 2, 1, 0] rfl (hk64 x3 x4 x5 x6 t0 1 (x9 + 1) μ hF)
set_option maxHeartbeats 4000000 in
theorem w_X8_together_L64 {G : Gl} {p : Program} {l : Launch} {e : Env} {s0 : State} {m : MethodId} {args : Array Value} {below : List Frame} {meth : Method} {c : Code} (C : Cx G p s0 m args meth c cX8_together 11 RX8 (some .int)) {r : Int32} {μf : Mu}  {k44 : Int32 → Int32 → Int32 → Int32 → Mu → Option (Int32 × Mu)} (hk44 : ∀ (x3 : Int32) (x4 : Int32) (x5 : Int32) (x6 : Int32) (μ : Mu), k44 x3 x4 x5 x6 μ = some (r, μf) → X G p l e 2 46 s0 m args below meth c 11 (some (.int r)) μf μ 44 [(0, .ref (G.ad 82)), (3, .int x3), (4, .int x4), (5, .int x5), (6, .int x6)] []) : ∀ (n : Nat) (x3 : Int32) (x4 : Int32) (x5 : Int32) (x6 : Int32) (x7 : Int32) (x8 : Int32) (x9 : Int32) (μ : Mu), f_X8_together_L64 k44 n x3 x4 x5 x6 x7 x8 x9 μ = some (r, μf) → X G p l e 2 46 s0 m args below meth c 11 (some (.int r)) μf μ 64 [(0, .ref (G.ad 82)), (3, .int x3), (4, .int x4), (5, .int x5), (6, .int x6), (7, .int x7), (8, .int x8), (9, .int x9)] [] := by
  intro n
  induction n with
  | zero =>
    intro x3 x4 x5 x6 x7 x8 x9 μ hF
    rw [f_X8_together_L64] at hF
    cases hF
  | succ n ih =>
    intro x3 x4 x5 x6 x7 x8 x9 μ hF
    rw [f_X8_together_L64] at hF
    refine x_iload C 7 dX8_together_64 rfl ?_
    refine x_aload_n C 0 dX8_together_66 rfl rfl ?_
    refine x_iload C 4 dX8_together_67 rfl ?_
    obtain ⟨q1, hq1, hF⟩ := f_bind hF
    refine x_cVi (rest := [.int x9]) C (c_X8_sizeOf l C.2.2.2.2.2.2.2.2 x6 μ hq1) cw_X8_164 sh_82 rfl rfl ⟨by decide, by decide⟩ rfl rfl (Nat.le_of_ble_eq_true rfl) dX8_together_69 ?_
    refine x_icmp_ge (tgt := 137) C dX8_together_72 (by decide) (fun hc => ?_) (fun hc => ?_)
    · replace hF := f_t hc hF
      refine x_iload C 3 dX8_together_137 rfl ?_
      refine x_iload C 5 dX8_together_139 rfl ?_
      refine x_if_eq (tgt := 153) C dX8_together_141 (by decide) (fun hc => ?_) (fun hc => ?_)
      · replace hF := f_t hc hF
        refine x_iconst (v := 0) C dX8_together_153 (by decide) ?_
        refine x_iadd C dX8_together_154 ?_
        refine x_letI hF (fun y2 hF => ?_)
        refine x_istore C [(5, .int y2), (0, .ref (G.ad 82)), (3, .int x3), (4, .int x4), (6, .int x6), (7, .int x7), (8, .int x8), (9, .int x9)] dX8_together_155 (by decide) rfl ?_
        refine x_iinc C [(6, .int (x6 + 1)), (5, .int y2), (0, .ref (G.ad 82)), (3, .int x3), (4, .int x4), (7, .int x7), (8, .int x8), (9, .int x9)] 4 dX8_together_157 rfl rfl (by decide) rfl ?_
        refine x_goto (tgt := 44) C dX8_together_160 (by decide) ?_
        exact x_pick [(0, .ref (G.ad 82)), (3, .int x3), (4, .int x4), (5, .int y2), (6, .int (x6 + 1))] [2, 3, 4, 1, 0] rfl (hk44 x3 x4 y2 (x6 + 1) μ hF)
      · replace hF := f_f hc hF
        refine x_iload C 6 dX8_together_144 rfl ?_
        refine x_if_eq (tgt := 153) C dX8_together_146 (by decide) (fun hc => ?_) (fun hc => ?_)
        · replace hF := f_t hc hF
          refine x_iconst (v := 0) C dX8_together_153 (by decide) ?_
          refine x_iadd C dX8_together_154 ?_
          refine x_letI hF (fun y3 hF => ?_)
          refine x_istore C [(5, .int y3), (0, .ref (G.ad 82)), (3, .int x3), (4, .int x4), (6, .int x6), (7, .int x7), (8, .int x8), (9, .int x9)] dX8_together_155 (by decide) rfl ?_
          refine x_iinc C [(6, .int (x6 + 1)), (5, .int y3), (0, .ref (G.ad 82)), (3, .int x3), (4, .int x4), (7, .int x7), (8, .int x8), (9, .int x9)] 4 dX8_together_157 rfl rfl (by decide) rfl ?_
          refine x_goto (tgt := 44) C dX8_together_160 (by decide) ?_
          exact x_pick [(0, .ref (G.ad 82)), (3, .int x3), (4, .int x4), (5, .int y3), (6, .int (x6 + 1))] [2, 3, 4, 1, 0] rfl (hk44 x3 x4 y3 (x6 + 1) μ hF)
        · replace hF := f_f hc hF
          refine x_iconst (v := 1) C dX8_together_149 (by decide) ?_
          refine x_goto (tgt := 154) C dX8_together_150 (by decide) ?_
          refine x_iadd C dX8_together_154 ?_
          refine x_letI hF (fun y4 hF => ?_)
          refine x_istore C [(5, .int y4), (0, .ref (G.ad 82)), (3, .int x3), (4, .int x4), (6, .int x6), (7, .int x7), (8, .int x8), (9, .int x9)] dX8_together_155 (by decide) rfl ?_
          refine x_iinc C [(6, .int (x6 + 1)), (5, .int y4), (0, .ref (G.ad 82)), (3, .int x3), (4, .int x4), (7, .int x7), (8, .int x8), (9, .int x9)] 4 dX8_together_157 rfl rfl (by decide) rfl ?_
          refine x_goto (tgt := 44) C dX8_together_160 (by decide) ?_
          exact x_pick [(0, .ref (G.ad 82)), (3, .int x3), (4, .int x4), (5, .int y4), (6, .int (x6 + 1))] [2, 3, 4, 1, 0] rfl (hk44 x3 x4 y4 (x6 + 1) μ hF)
    · replace hF := f_f hc hF
      refine x_aload_n C 0 dX8_together_75 rfl rfl ?_
      refine x_aload_n C 0 dX8_together_76 rfl rfl ?_
      refine x_getR C fc_X8 fl_X8_57 sh_82 (by decide) rfl dX8_together_77 ?_
      refine x_aload_n C 0 dX8_together_80 rfl rfl ?_
      refine x_iload C 4 dX8_together_81 rfl ?_
      refine x_iload C 7 dX8_together_83 rfl ?_
      obtain ⟨q5, hq5, hF⟩ := f_bind hF
      refine x_cVi (rest := [.ref (G.ad 97), .ref (G.ad 82)]) C (c_X8_callAt l C.2.2.2.2.2.2.2.2 x6 x9 μ hq5) cw_X8_167 sh_82 rfl rfl ⟨by decide, by decide⟩ rfl rfl (Nat.le_of_ble_eq_true rfl) dX8_together_85 ?_
      obtain ⟨hi6, hF⟩ := f_chk hF
      refine x_iald C sh_97 hi6 dX8_together_88 ?_
      obtain ⟨q7, hq7, hF⟩ := f_bind hF
      refine x_cVi (rest := []) C (c_X8_meant l C.2.2.2.2.2.2.2.2 (μ 97 (ix q5)) μ hq7) cw_X8_153 sh_82 rfl rfl ⟨by decide, by decide⟩ rfl rfl (Nat.le_of_ble_eq_true rfl) dX8_together_89 ?_
      refine x_istore C [(10, .int q7), (0, .ref (G.ad 82)), (3, .int x3), (4, .int x4), (5, .int x5), (6, .int x6), (7, .int x7), (8, .int x8), (9, .int x9)] dX8_together_92 (by decide) rfl ?_
      refine x_iload C 6 dX8_together_94 rfl ?_
      refine x_if_ne (tgt := 105) C dX8_together_96 (by decide) (fun hc => ?_) (fun hc => ?_)
      · replace hF := f_f hc hF
        refine x_iconst (v := 1) C dX8_together_105 (by decide) ?_
        refine x_goto (tgt := 110) C dX8_together_106 (by decide) ?_
        exact x_pick [(0, .ref (G.ad 82)), (3, .int x3), (4, .int x4), (5, .int x5), (6, .int x6), (8, .int x8), (9, .int x9), (10, .int q7)] [1, 2, 3, 4, 5, 7, 8, 0] rfl (w_X8_together_b110 C hk44 ih x3 x4 x5 x6 x8 x9 q7 1 μ hF)
      · replace hF := f_t hc hF
        refine x_iload C 0 dX8_together_99 rfl ?_
        refine x_iload_n C 2 dX8_together_101 rfl rfl ?_
        refine x_icmp_ne (tgt := 109) C dX8_together_102 (by decide) (fun hc => ?_) (fun hc => ?_)
        · replace hF := f_f hc hF
          refine x_iconst (v := 0) C dX8_together_109 (by decide) ?_
          exact x_pick [(0, .ref (G.ad 82)), (3, .int x3), (4, .int x4), (5, .int x5), (6, .int x6), (8, .int x8), (9, .int x9), (10, .int q7)] [1, 2, 3, 4, 5, 7, 8, 0] rfl (w_X8_together_b110 C hk44 ih x3 x4 x5 x6 x8 x9 q7 0 μ hF)
        · replace hF := f_t hc hF
          refine x_iconst (v := 1) C dX8_together_105 (by decide) ?_
          refine x_goto (tgt := 110) C dX8_together_106 (by decide) ?_
          exact x_pick [(0, .ref (G.ad 82)), (3, .int x3), (4, .int x4), (5, .int x5), (6, .int x6), (8, .int x8), (9, .int x9), (10, .int q7)] [1, 2, 3, 4, 5, 7, 8, 0] rfl (w_X8_together_b110 C hk44 ih x3 x4 x5 x6 x8 x9 q7 1 μ hF)
set_option maxHeartbeats 4000000 in
theorem w_X8_together_L44 {G : Gl} {p : Program} {l : Launch} {e : Env} {s0 : State} {m : MethodId} {args : Array Value} {below : List Frame} {meth : Method} {c : Code} (C : Cx G p s0 m args meth c cX8_together 11 RX8 (some .int)) {r : Int32} {μf : Mu}  : ∀ (n : Nat) (x3 : Int32) (x4 : Int32) (x5 : Int32) (x6 : Int32) (μ : Mu), f_X8_together_L44 n x3 x4 x5 x6 μ = some (r, μf) → X G p l e 2 46 s0 m args below meth c 11 (some (.int r)) μf μ 44 [(0, .ref (G.ad 82)), (3, .int x3), (4, .int x4), (5, .int x5), (6, .int x6)] [] := by
  intro n
  induction n with
  | zero =>
    intro x3 x4 x5 x6 μ hF
    rw [f_X8_together_L44] at hF
    cases hF
  | succ n ih =>
    intro x3 x4 x5 x6 μ hF
    rw [f_X8_together_L44] at hF
    refine x_iload C 4 dX8_together_44 rfl ?_
    refine x_aload_n C 0 dX8_together_46 rfl rfl ?_
    refine x_getR C fc_X8 fl_X8_37 sh_82 (by decide) rfl dX8_together_47 ?_
    refine x_iconst (v := 4) C dX8_together_50 (by decide) ?_
    refine x_iald C sh_92 (by decide) dX8_together_51 ?_
    refine x_icmp_ge (tgt := 163) C dX8_together_52 (by decide) (fun hc => ?_) (fun hc => ?_)
    · replace hF := f_t hc hF
      refine x_iload C 3 dX8_together_163 rfl ?_
      exact x_iret C dX8_together_165 (Prod.mk.inj (Option.some.inj hF)).1 (Prod.mk.inj (Option.some.inj hF)).2
    · replace hF := f_f hc hF
      refine x_iconst (v := 0) C dX8_together_55 (by decide) ?_
      refine x_istore C [(7, .int 0), (0, .ref (G.ad 82)), (3, .int x3), (4, .int x4), (5, .int x5), (6, .int x6)] dX8_together_56 (by decide) rfl ?_
      refine x_iconst (v := 0) C dX8_together_58 (by decide) ?_
      refine x_istore C [(8, .int 0), (7, .int 0), (0, .ref (G.ad 82)), (3, .int x3), (4, .int x4), (5, .int x5), (6, .int x6)] dX8_together_59 (by decide) rfl ?_
      refine x_iconst (v := 0) C dX8_together_61 (by decide) ?_
      refine x_istore C [(9, .int 0), (8, .int 0), (7, .int 0), (0, .ref (G.ad 82)), (3, .int x3), (4, .int x4), (5, .int x5), (6, .int x6)] dX8_together_62 (by decide) rfl ?_
      exact x_pick [(0, .ref (G.ad 82)), (3, .int x3), (4, .int x4), (5, .int x5), (6, .int x6), (7, .int 0), (8, .int 0), (9, .int 0)] [3, 4, 5, 6, 7, 2, 1, 0] rfl (w_X8_together_L64 C ih fu x3 x4 x5 x6 0 0 0 μ hF)
set_option maxHeartbeats 4000000 in
theorem w_X8_together {G : Gl} {p : Program} {l : Launch} {e : Env} {s0 : State} {m : MethodId} {args : Array Value} {below : List Frame} {meth : Method} {c : Code} (C : Cx G p s0 m args meth c cX8_together 11 RX8 (some .int)) {r : Int32} {μf : Mu}  (x1 : Int32) (x2 : Int32) (μ : Mu) (hF : f_X8_together x1 x2 μ = some (r, μf)) : X G p l e 2 46 s0 m args below meth c 11 (some (.int r)) μf μ 0 [(0, .ref (G.ad 82)), (1, .int x1), (2, .int x2)] [] := by
  unfold f_X8_together at hF
  refine x_aload_n C 0 dX8_together_0 rfl rfl ?_
  refine x_iload_n C 1 dX8_together_1 rfl rfl ?_
  refine x_cVi (rest := []) C (c_X8_noWork l C.2.2.2.2.2.2.2.2 x1 μ) cw_X8_147 sh_82 rfl rfl ⟨by decide, by decide⟩ rfl rfl (Nat.le_of_ble_eq_true rfl) dX8_together_2 ?_
  refine x_if_ne (tgt := 16) C dX8_together_5 (by decide) (fun hc => ?_) (fun hc => ?_)
  · replace hF := f_f hc hF
    refine x_sipush (v := (-1001)) C dX8_together_16 (by decide) ?_
    exact x_iret C dX8_together_19 (Prod.mk.inj (Option.some.inj hF)).1 (Prod.mk.inj (Option.some.inj hF)).2
  · replace hF := f_t hc hF
    refine x_aload_n C 0 dX8_together_8 rfl rfl ?_
    refine x_iload_n C 2 dX8_together_9 rfl rfl ?_
    refine x_cVi (rest := []) C (c_X8_noWork l C.2.2.2.2.2.2.2.2 x2 μ) cw_X8_147 sh_82 rfl rfl ⟨by decide, by decide⟩ rfl rfl (Nat.le_of_ble_eq_true rfl) dX8_together_10 ?_
    refine x_if_eq (tgt := 20) C dX8_together_13 (by decide) (fun hc => ?_) (fun hc => ?_)
    · replace hF := f_t hc hF
      refine x_aload_n C 0 dX8_together_20 rfl rfl ?_
      refine x_iconst (v := 4) C dX8_together_21 (by decide) ?_
      refine x_putI C fc_X8 fl_X8_53 sh_82 (by decide) rfl rfl rfl ⟨rfl, rfl⟩ dX8_together_22 ?_
      refine x_letM hF (fun μ1 hF => ?_)
      refine x_aload_n C 0 dX8_together_25 rfl rfl ?_
      refine x_iload_n C 1 dX8_together_26 rfl rfl ?_
      obtain ⟨q2, hq2, hF⟩ := f_bind hF
      refine x_cVi (rest := []) C (c_X8_meant l C.2.2.2.2.2.2.2.2 x1 μ1 hq2) cw_X8_153 sh_82 rfl rfl ⟨by decide, by decide⟩ rfl rfl (Nat.le_of_ble_eq_true rfl) dX8_together_27 ?_
      refine x_istore_n C [(3, .int q2), (0, .ref (G.ad 82)), (1, .int x1), (2, .int x2)] dX8_together_30 rfl (by decide) rfl ?_
      refine x_aload_n C 1 dX8_together_31 rfl rfl ?_
      refine x_iload_n C 3 dX8_together_32 rfl rfl ?_
      obtain ⟨q3, hq3, hF⟩ := f_bind hF
      refine x_cVi (rest := []) C (c_X8_meant l C.2.2.2.2.2.2.2.2 x2 μ1 hq3) cw_X8_153 sh_82 rfl rfl ⟨by decide, by decide⟩ rfl rfl (Nat.le_of_ble_eq_true rfl) dX8_together_33 ?_
      refine x_istore C [(4, .int q3), (3, .int q2), (0, .ref (G.ad 82)), (1, .int x1), (2, .int x2)] dX8_together_36 (by decide) rfl ?_
      refine x_iconst (v := 0) C dX8_together_38 (by decide) ?_
      refine x_istore C [(5, .int 0), (4, .int q3), (3, .int q2), (0, .ref (G.ad 82)), (1, .int x1), (2, .int x2)] dX8_together_39 (by decide) rfl ?_
      refine x_iconst (v := 0) C dX8_together_41 (by decide) ?_
      refine x_istore C [(6, .int 0), (5, .int 0), (4, .int q3), (3, .int q2), (0, .ref (G.ad 82)), (1, .int x1), (2, .int x2)] dX8_together_42 (by decide) rfl ?_
      exact x_pick [(0, .ref (G.ad 82)), (3, .int q2), (4, .int q3), (5, .int 0), (6, .int 0)] [4, 3, 2, 1, 0] rfl (w_X8_together_L44 C fu q2 q3 0 0 μ1 hF)
    · replace hF := f_f hc hF
      refine x_sipush (v := (-1001)) C dX8_together_16 (by decide) ?_
      exact x_iret C dX8_together_19 (Prod.mk.inj (Option.some.inj hF)).1 (Prod.mk.inj (Option.some.inj hF)).2
set_option maxHeartbeats 4000000 in
theorem c_X8_together {G : Gl} (l : Launch) (hA : Ap G) {r : Int32} {μf : Mu}  (x1 : Int32) (x2 : Int32) (μ : Mu) (hF : f_X8_together x1 x2 μ = some (r, μf)) : Mth G l yX8_together cX8_together 11 (some .int) 2 46 [.ref (G.ad 82), .int x1, .int x2] (some (.int r)) μf μ := Mth.of hA (by decide) rfl (Nat.le_of_ble_eq_true rfl) (fun p e s0 m args below meth c C => w_X8_together C x1 x2 μ hF)
set_option maxHeartbeats 4000000 in
theorem w_X8_told_b13 {G : Gl} {p : Program} {l : Launch} {e : Env} {s0 : State} {m : MethodId} {args : Array Value} {below : List Frame} {meth : Method} {c : Code} (C : Cx G p s0 m args meth c cX8_told 4 RX8 (some .int)) {r : Int32} {μf : Mu}  (x1 : Int32) (x2 : Int32) (t0 : Int32) (μ : Mu) (hF : f_X8_told_b13 x1 x2 t0 μ = some (r, μf)) : X G p l e 5 117 s0 m args below meth c 4 (some (.int r)) μf μ 13 [(0, .ref (G.ad 82)), (1, .int x1), (2, .int x2)] [.int t0] := by
  unfold f_X8_told_b13 at hF
  refine x_istore_n C [(3, .int t0), (0, .ref (G.ad 82)), (1, .int x1), (2, .int x2)] dX8_told_13 rfl (by decide) rfl ?_
  refine x_iload_n C 0 dX8_told_14 rfl rfl ?_
  refine x_if_ge (tgt := 22) C dX8_told_15 (by decide) (fun hc => ?_) (fun hc => ?_)
  · replace hF := f_t hc hF
    refine x_aload_n C 1 dX8_told_22 rfl rfl ?_
    refine x_iconst (v := 4) C dX8_told_23 (by decide) ?_
    obtain ⟨q1, hq1, hF⟩ := f_bind hF
    refine x_cVv (rest := []) C (c_X8_findAll l C.2.2.2.2.2.2.2.2 4 μ hq1) cw_X8_221 sh_82 rfl rfl ⟨by decide, by decide⟩ rfl rfl (Nat.le_of_ble_eq_true rfl) dX8_told_24 ?_
    refine x_iload_n C 3 dX8_told_27 rfl rfl ?_
    by_cases hs0 : x2 = 0
    · replace hF := f_t hs0 hF
      refine x_tableIn (tgt := 72) (off := 44) C dX8_told_28 (by rw [hs0]; decide) (by rw [hs0]; decide) (by rw [hs0]; decide +kernel) (by decide) ?_
      refine x_iload_n C 0 dX8_told_72 rfl rfl ?_
      refine x_iconst (v := 5) C dX8_told_73 (by decide) ?_
      refine x_idiv C dX8_told_74 (by decide) ?_
      exact x_iret C dX8_told_75 (Prod.mk.inj (Option.some.inj hF)).1 (Prod.mk.inj (Option.some.inj hF)).2
    · replace hF := f_f hs0 hF
      by_cases hs1 : x2 = 1
      · replace hF := f_t hs1 hF
        refine x_tableIn (tgt := 76) (off := 48) C dX8_told_28 (by rw [hs1]; decide) (by rw [hs1]; decide) (by rw [hs1]; decide +kernel) (by decide) ?_
        refine x_iload_n C 0 dX8_told_76 rfl rfl ?_
        refine x_iconst (v := 5) C dX8_told_77 (by decide) ?_
        refine x_irem C dX8_told_78 (by decide) ?_
        exact x_iret C dX8_told_79 (Prod.mk.inj (Option.some.inj hF)).1 (Prod.mk.inj (Option.some.inj hF)).2
      · replace hF := f_f hs1 hF
        by_cases hs2 : x2 = 2
        · replace hF := f_t hs2 hF
          refine x_tableIn (tgt := 80) (off := 52) C dX8_told_28 (by rw [hs2]; decide) (by rw [hs2]; decide) (by rw [hs2]; decide +kernel) (by decide) ?_
          refine x_aload_n C 1 dX8_told_80 rfl rfl ?_
          refine x_getR C fc_X8 fl_X8_57 sh_82 (by decide) rfl dX8_told_81 ?_
          refine x_iload_n C 2 dX8_told_84 rfl rfl ?_
          obtain ⟨hi2, hF⟩ := f_chk hF
          refine x_iald C sh_97 hi2 dX8_told_85 ?_
          exact x_iret C dX8_told_86 (Prod.mk.inj (Option.some.inj hF)).1 (Prod.mk.inj (Option.some.inj hF)).2
        · replace hF := f_f hs2 hF
          by_cases hs3 : x2 = 3
          · replace hF := f_t hs3 hF
            refine x_tableIn (tgt := 87) (off := 59) C dX8_told_28 (by rw [hs3]; decide) (by rw [hs3]; decide) (by rw [hs3]; decide +kernel) (by decide) ?_
            refine x_aload_n C 1 dX8_told_87 rfl rfl ?_
            refine x_aload_n C 1 dX8_told_88 rfl rfl ?_
            refine x_getR C fc_X8 fl_X8_57 sh_82 (by decide) rfl dX8_told_89 ?_
            refine x_iload_n C 2 dX8_told_92 rfl rfl ?_
            obtain ⟨hi3, hF⟩ := f_chk hF
            refine x_iald C sh_97 hi3 dX8_told_93 ?_
            obtain ⟨q4, hq4, hF⟩ := f_bind hF
            refine x_cVi (rest := []) C (c_X8_meant l C.2.2.2.2.2.2.2.2 (q1 97 (ix x1)) q1 hq4) cw_X8_153 sh_82 rfl rfl ⟨by decide, by decide⟩ rfl rfl (Nat.le_of_ble_eq_true rfl) dX8_told_94 ?_
            exact x_iret C dX8_told_97 (Prod.mk.inj (Option.some.inj hF)).1 (Prod.mk.inj (Option.some.inj hF)).2
          · replace hF := f_f hs3 hF
            by_cases hs4 : x2 = 4
            · replace hF := f_t hs4 hF
              refine x_tableIn (tgt := 98) (off := 70) C dX8_told_28 (by rw [hs4]; decide) (by rw [hs4]; decide) (by rw [hs4]; decide +kernel) (by decide) ?_
              refine x_aload_n C 1 dX8_told_98 rfl rfl ?_
              refine x_getR C fc_X8 fl_X8_60 sh_82 (by decide) rfl dX8_told_99 ?_
              refine x_iload_n C 2 dX8_told_102 rfl rfl ?_
              obtain ⟨hi5, hF⟩ := f_chk hF
              refine x_iald C sh_98 hi5 dX8_told_103 ?_
              exact x_iret C dX8_told_104 (Prod.mk.inj (Option.some.inj hF)).1 (Prod.mk.inj (Option.some.inj hF)).2
            · replace hF := f_f hs4 hF
              by_cases hs5 : x2 = 5
              · replace hF := f_t hs5 hF
                refine x_tableIn (tgt := 105) (off := 77) C dX8_told_28 (by rw [hs5]; decide) (by rw [hs5]; decide) (by rw [hs5]; decide +kernel) (by decide) ?_
                refine x_aload_n C 1 dX8_told_105 rfl rfl ?_
                refine x_getR C fc_X8 fl_X8_69 sh_82 (by decide) rfl dX8_told_106 ?_
                refine x_iload_n C 2 dX8_told_109 rfl rfl ?_
                obtain ⟨hi6, hF⟩ := f_chk hF
                refine x_iald C sh_101 hi6 dX8_told_110 ?_
                exact x_iret C dX8_told_111 (Prod.mk.inj (Option.some.inj hF)).1 (Prod.mk.inj (Option.some.inj hF)).2
              · replace hF := f_f hs5 hF
                by_cases hs6 : x2 = 6
                · replace hF := f_t hs6 hF
                  refine x_tableIn (tgt := 112) (off := 84) C dX8_told_28 (by rw [hs6]; decide) (by rw [hs6]; decide) (by rw [hs6]; decide +kernel) (by decide) ?_
                  refine x_aload_n C 1 dX8_told_112 rfl rfl ?_
                  refine x_aload_n C 1 dX8_told_113 rfl rfl ?_
                  refine x_getR C fc_X8 fl_X8_69 sh_82 (by decide) rfl dX8_told_114 ?_
                  refine x_iload_n C 2 dX8_told_117 rfl rfl ?_
                  obtain ⟨hi7, hF⟩ := f_chk hF
                  refine x_iald C sh_101 hi7 dX8_told_118 ?_
                  obtain ⟨q8, hq8, hF⟩ := f_bind hF
                  refine x_cVi (rest := []) C (c_X8_formOf l C.2.2.2.2.2.2.2.2 (q1 101 (ix x1)) q1 hq8) cw_X8_247 sh_82 rfl rfl ⟨by decide, by decide⟩ rfl rfl (Nat.le_of_ble_eq_true rfl) dX8_told_119 ?_
                  exact x_iret C dX8_told_122 (Prod.mk.inj (Option.some.inj hF)).1 (Prod.mk.inj (Option.some.inj hF)).2
                · replace hF := f_f hs6 hF
                  refine x_tableOut (tgt := 123) C dX8_told_28 (sw_out_0_6 hs0 hs1 hs2 hs3 hs4 hs5 hs6) (by decide) ?_
                  refine x_sipush (v := (-1002)) C dX8_told_123 (by decide) ?_
                  exact x_iret C dX8_told_126 (Prod.mk.inj (Option.some.inj hF)).1 (Prod.mk.inj (Option.some.inj hF)).2
  · replace hF := f_f hc hF
    refine x_sipush (v := (-1001)) C dX8_told_18 (by decide) ?_
    exact x_iret C dX8_told_21 (Prod.mk.inj (Option.some.inj hF)).1 (Prod.mk.inj (Option.some.inj hF)).2
set_option maxHeartbeats 4000000 in
theorem w_X8_told {G : Gl} {p : Program} {l : Launch} {e : Env} {s0 : State} {m : MethodId} {args : Array Value} {below : List Frame} {meth : Method} {c : Code} (C : Cx G p s0 m args meth c cX8_told 4 RX8 (some .int)) {r : Int32} {μf : Mu}  (x1 : Int32) (x2 : Int32) (μ : Mu) (hF : f_X8_told x1 x2 μ = some (r, μf)) : X G p l e 5 117 s0 m args below meth c 4 (some (.int r)) μf μ 0 [(0, .ref (G.ad 82)), (1, .int x1), (2, .int x2)] [] := by
  unfold f_X8_told at hF
  refine x_iload_n C 1 dX8_told_0 rfl rfl ?_
  refine x_if_ge (tgt := 8) C dX8_told_1 (by decide) (fun hc => ?_) (fun hc => ?_)
  · replace hF := f_t hc hF
    refine x_aload_n C 0 dX8_told_8 rfl rfl ?_
    refine x_iload_n C 1 dX8_told_9 rfl rfl ?_
    obtain ⟨q1, hq1, hF⟩ := f_bind hF
    refine x_cVi (rest := []) C (c_X8_standing l C.2.2.2.2.2.2.2.2 x1 μ hq1) cw_X8_244 sh_82 rfl rfl ⟨by decide, by decide⟩ rfl rfl (Nat.le_of_ble_eq_true rfl) dX8_told_10 ?_
    exact x_pick [(0, .ref (G.ad 82)), (1, .int x1), (2, .int x2)] [0, 1, 2] rfl (w_X8_told_b13 C x1 x2 q1 μ hF)
  · replace hF := f_f hc hF
    refine x_iconst (v := (-1)) C dX8_told_4 (by decide) ?_
    refine x_goto (tgt := 13) C dX8_told_5 (by decide) ?_
    exact x_pick [(0, .ref (G.ad 82)), (1, .int x1), (2, .int x2)] [0, 1, 2] rfl (w_X8_told_b13 C x1 x2 (-1) μ hF)
set_option maxHeartbeats 4000000 in
theorem c_X8_told {G : Gl} (l : Launch) (hA : Ap G) {r : Int32} {μf : Mu}  (x1 : Int32) (x2 : Int32) (μ : Mu) (hF : f_X8_told x1 x2 μ = some (r, μf)) : Mth G l yX8_told cX8_told 4 (some .int) 5 117 [.ref (G.ad 82), .int x1, .int x2] (some (.int r)) μf μ := Mth.of hA (by decide) rfl (Nat.le_of_ble_eq_true rfl) (fun p e s0 m args below meth c C => w_X8_told C x1 x2 μ hF)
set_option maxHeartbeats 4000000 in
theorem w_X8_work {G : Gl} {p : Program} {l : Launch} {e : Env} {s0 : State} {m : MethodId} {args : Array Value} {below : List Frame} {meth : Method} {c : Code} (C : Cx G p s0 m args meth c cX8_work 6 RX8 (some .int)) {r : Int32} {μf : Mu}  (x1 : Int32) (x2 : Int32) (x3 : Int32) (x4 : Int32) (x5 : Int32) (μ : Mu) (hF : f_X8_work x1 x2 x3 x4 x5 μ = some (r, μf)) : X G p l e 2 47 s0 m args below meth c 6 (some (.int r)) μf μ 0 [(0, .ref (G.ad 82)), (1, .int x1), (2, .int x2), (3, .int x3), (4, .int x4), (5, .int x5)] [] := by
  unfold f_X8_work at hF
  refine x_iload_n C 1 dX8_work_0 rfl rfl ?_
  refine x_iload_n C 2 dX8_work_1 rfl rfl ?_
  refine x_iload_n C 3 dX8_work_2 rfl rfl ?_
  refine x_cSi (rest := []) C (c_X8_isName l C.2.2.2.2.2.2.2.2 x1 x2 x3 μ) cw_X8_135 ⟨by decide, by decide⟩ rfl rfl (Nat.le_of_ble_eq_true rfl) dX8_work_3 ?_
  refine x_if_eq (tgt := 35) C dX8_work_6 (by decide) (fun hc => ?_) (fun hc => ?_)
  · replace hF := f_t hc hF
    refine x_sipush (v := (-1002)) C dX8_work_35 (by decide) ?_
    exact x_iret C dX8_work_38 (Prod.mk.inj (Option.some.inj hF)).1 (Prod.mk.inj (Option.some.inj hF)).2
  · replace hF := f_f hc hF
    refine x_iload C 4 dX8_work_9 rfl ?_
    refine x_i2l C dX8_work_11 ?_
    refine x_lconst (v := 0) C dX8_work_12 (by decide) ?_
    refine x_ldc2 C cl_X8_139 dX8_work_13 ?_
    refine x_cSi (rest := []) C (c_X8_in l C.2.2.2.2.2.2.2.2 ((x4 : Int32).toInt64) 0 2100 μ) cw_X8_127 ⟨by decide, by decide⟩ rfl rfl (Nat.le_of_ble_eq_true rfl) dX8_work_16 ?_
    refine x_if_eq (tgt := 35) C dX8_work_19 (by decide) (fun hc => ?_) (fun hc => ?_)
    · replace hF := f_t hc hF
      refine x_sipush (v := (-1002)) C dX8_work_35 (by decide) ?_
      exact x_iret C dX8_work_38 (Prod.mk.inj (Option.some.inj hF)).1 (Prod.mk.inj (Option.some.inj hF)).2
    · replace hF := f_f hc hF
      refine x_iload C 5 dX8_work_22 rfl ?_
      refine x_i2l C dX8_work_24 ?_
      refine x_lconst (v := 0) C dX8_work_25 (by decide) ?_
      refine x_ldc2 C cl_X8_141 dX8_work_26 ?_
      refine x_cSi (rest := []) C (c_X8_in l C.2.2.2.2.2.2.2.2 ((x5 : Int32).toInt64) 0 999 μ) cw_X8_127 ⟨by decide, by decide⟩ rfl rfl (Nat.le_of_ble_eq_true rfl) dX8_work_29 ?_
      refine x_if_ne (tgt := 39) C dX8_work_32 (by decide) (fun hc => ?_) (fun hc => ?_)
      · replace hF := f_f hc hF
        refine x_aload_n C 0 dX8_work_39 rfl rfl ?_
        refine x_getI C fc_X8 fl_X8_124 sh_82 (by decide) rfl dX8_work_40 ?_
        refine x_bipush (v := 24) C dX8_work_43 (by decide) ?_
        refine x_icmp_ne (tgt := 52) C dX8_work_45 (by decide) (fun hc => ?_) (fun hc => ?_)
        · replace hF := f_f hc hF
          refine x_aload_n C 0 dX8_work_52 rfl rfl ?_
          refine x_getR C fc_X8 fl_X8_7 sh_82 (by decide) rfl dX8_work_53 ?_
          refine x_aload_n C 0 dX8_work_56 rfl rfl ?_
          refine x_getI C fc_X8 fl_X8_124 sh_82 (by decide) rfl dX8_work_57 ?_
          refine x_iconst (v := 0) C dX8_work_60 (by decide) ?_
          obtain ⟨hi1, hF⟩ := f_chk hF
          refine x_iast C sh_83 hi1 dX8_work_61 ?_
          refine x_letM hF (fun μ2 hF => ?_)
          refine x_aload_n C 0 dX8_work_62 rfl rfl ?_
          refine x_aload_n C 0 dX8_work_63 rfl rfl ?_
          refine x_getI C fc_X8 fl_X8_124 sh_82 (by decide) rfl dX8_work_64 ?_
          refine x_iload_n C 1 dX8_work_67 rfl rfl ?_
          refine x_iload_n C 2 dX8_work_68 rfl rfl ?_
          refine x_iload_n C 3 dX8_work_69 rfl rfl ?_
          obtain ⟨q3, hq3, hF⟩ := f_bind hF
          refine x_cVv (rest := []) C (c_X8_name l C.2.2.2.2.2.2.2.2 (μ2 82 0) x1 x2 x3 μ2 hq3) cw_X8_143 sh_82 rfl rfl ⟨by decide, by decide⟩ rfl rfl (Nat.le_of_ble_eq_true rfl) dX8_work_70 ?_
          refine x_aload_n C 0 dX8_work_73 rfl rfl ?_
          refine x_getR C fc_X8 fl_X8_22 sh_82 (by decide) rfl dX8_work_74 ?_
          refine x_aload_n C 0 dX8_work_77 rfl rfl ?_
          refine x_getI C fc_X8 fl_X8_124 sh_82 (by decide) rfl dX8_work_78 ?_
          refine x_iload C 4 dX8_work_81 rfl ?_
          obtain ⟨hi4, hF⟩ := f_chk hF
          refine x_iast C sh_87 hi4 dX8_work_83 ?_
          refine x_letM hF (fun μ5 hF => ?_)
          refine x_aload_n C 0 dX8_work_84 rfl rfl ?_
          refine x_getR C fc_X8 fl_X8_25 sh_82 (by decide) rfl dX8_work_85 ?_
          refine x_aload_n C 0 dX8_work_88 rfl rfl ?_
          refine x_getI C fc_X8 fl_X8_124 sh_82 (by decide) rfl dX8_work_89 ?_
          refine x_iload C 5 dX8_work_92 rfl ?_
          obtain ⟨hi6, hF⟩ := f_chk hF
          refine x_iast C sh_88 hi6 dX8_work_94 ?_
          refine x_letM hF (fun μ7 hF => ?_)
          refine x_aload_n C 0 dX8_work_95 rfl rfl ?_
          refine x_getR C fc_X8 fl_X8_28 sh_82 (by decide) rfl dX8_work_96 ?_
          refine x_aload_n C 0 dX8_work_99 rfl rfl ?_
          refine x_getI C fc_X8 fl_X8_124 sh_82 (by decide) rfl dX8_work_100 ?_
          refine x_iconst (v := (-1)) C dX8_work_103 (by decide) ?_
          obtain ⟨hi8, hF⟩ := f_chk hF
          refine x_iast C sh_89 hi8 dX8_work_104 ?_
          refine x_letM hF (fun μ9 hF => ?_)
          refine x_aload_n C 0 dX8_work_105 rfl rfl ?_
          refine x_getR C fc_X8 fl_X8_31 sh_82 (by decide) rfl dX8_work_106 ?_
          refine x_aload_n C 0 dX8_work_109 rfl rfl ?_
          refine x_getI C fc_X8 fl_X8_124 sh_82 (by decide) rfl dX8_work_110 ?_
          refine x_iconst (v := (-1)) C dX8_work_113 (by decide) ?_
          obtain ⟨hi10, hF⟩ := f_chk hF
          refine x_iast C sh_90 hi10 dX8_work_114 ?_
          refine x_letM hF (fun μ11 hF => ?_)
          refine x_aload_n C 0 dX8_work_115 rfl rfl ?_
          refine x_dup C dX8_work_116 rfl ?_
          refine x_getI C fc_X8 fl_X8_124 sh_82 (by decide) rfl dX8_work_117 ?_
          refine x_iconst (v := 1) C dX8_work_120 (by decide) ?_
          refine x_iadd C dX8_work_121 ?_
          refine x_putI C fc_X8 fl_X8_124 sh_82 (by decide) rfl rfl rfl ⟨rfl, rfl⟩ dX8_work_122 ?_
          refine x_letM hF (fun μ12 hF => ?_)
          refine x_aload_n C 0 dX8_work_125 rfl rfl ?_
          refine x_getI C fc_X8 fl_X8_124 sh_82 (by decide) rfl dX8_work_126 ?_
          refine x_iconst (v := 1) C dX8_work_129 (by decide) ?_
          refine x_isub C dX8_work_130 ?_
          exact x_iret C dX8_work_131 (Prod.mk.inj (Option.some.inj hF)).1 (Prod.mk.inj (Option.some.inj hF)).2
        · replace hF := f_t hc hF
          refine x_sipush (v := (-1004)) C dX8_work_48 (by decide) ?_
          exact x_iret C dX8_work_51 (Prod.mk.inj (Option.some.inj hF)).1 (Prod.mk.inj (Option.some.inj hF)).2
      · replace hF := f_t hc hF
        refine x_sipush (v := (-1002)) C dX8_work_35 (by decide) ?_
        exact x_iret C dX8_work_38 (Prod.mk.inj (Option.some.inj hF)).1 (Prod.mk.inj (Option.some.inj hF)).2
set_option maxHeartbeats 4000000 in
theorem c_X8_work {G : Gl} (l : Launch) (hA : Ap G) {r : Int32} {μf : Mu}  (x1 : Int32) (x2 : Int32) (x3 : Int32) (x4 : Int32) (x5 : Int32) (μ : Mu) (hF : f_X8_work x1 x2 x3 x4 x5 μ = some (r, μf)) : Mth G l yX8_work cX8_work 6 (some .int) 2 47 [.ref (G.ad 82), .int x1, .int x2, .int x3, .int x4, .int x5] (some (.int r)) μf μ := Mth.of hA (by decide) rfl (Nat.le_of_ble_eq_true rfl) (fun p e s0 m args below meth c C => w_X8_work C x1 x2 x3 x4 x5 μ hF)
