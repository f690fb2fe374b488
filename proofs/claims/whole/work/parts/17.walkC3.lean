set_option maxHeartbeats 4000000 in
theorem w_X6_roomOfAll_L4 {G : Gl} {p : Program} {l : Launch} {e : Env} {s0 : State} {m : MethodId} {args : Array Value} {below : List Frame} {meth : Method} {c : Code} (C : Cx G p s0 m args meth c cX6_roomOfAll 3 RX6 (some .int)) {d : Nat} (hv : isV d) {r : Int32}  (μ : Mu) : ∀ (n : Nat) (x1 : Int32) (x2 : Int32), f_X6_roomOfAll_L4 d μ n x1 x2 = some r → X G p l e 2 44 s0 m args below meth c 3 (some (.int r)) μ μ 4 [(0, .ref (G.ad (d + 5))), (1, .int x1), (2, .int x2)] [] := by
  intro n
  induction n with
  | zero =>
    intro x1 x2 hF
    rw [f_X6_roomOfAll_L4] at hF
    cases hF
  | succ n ih =>
    intro x1 x2 hF
    rw [f_X6_roomOfAll_L4] at hF
    refine x_iload_n C 2 dX6_roomOfAll_4 rfl rfl ?_
    refine x_aload_n C 0 dX6_roomOfAll_5 rfl rfl ?_
    refine x_getI C fc_X6 fl_X6_118 (shV5 hv) (by decide) rfl dX6_roomOfAll_6 ?_
    refine x_icmp_ge (tgt := 31) C dX6_roomOfAll_9 (by decide) (fun hc => ?_) (fun hc => ?_)
    · replace hF := f_t hc hF
      refine x_iload_n C 1 dX6_roomOfAll_31 rfl rfl ?_
      exact x_iret C dX6_roomOfAll_32 (Option.some.inj hF) rfl
    · replace hF := f_f hc hF
      refine x_iload_n C 1 dX6_roomOfAll_12 rfl rfl ?_
      refine x_aload_n C 0 dX6_roomOfAll_13 rfl rfl ?_
      refine x_aload_n C 0 dX6_roomOfAll_14 rfl rfl ?_
      refine x_getR C fc_X6 fl_X6_30 (shV5 hv) (by decide) rfl dX6_roomOfAll_15 ?_
      refine x_iload_n C 2 dX6_roomOfAll_18 rfl rfl ?_
      obtain ⟨hi1, hF⟩ := f_chk hF
      refine x_iald C (shV12 hv) hi1 dX6_roomOfAll_19 ?_
      obtain ⟨q2, hq2, hF⟩ := f_bind hF
      refine x_cVi (rest := [.int x1]) C (c_X6_roomOf l C.2.2.2.2.2.2.2.2 hv (μ (d + 12) (ix x2)) μ hq2) cw_X6_121 (shV5 hv) rfl rfl ⟨by decide, by decide⟩ rfl rfl (Nat.le_of_ble_eq_true rfl) dX6_roomOfAll_20 ?_
      refine x_iadd C dX6_roomOfAll_23 ?_
      refine x_letI hF (fun y3 hF => ?_)
      refine x_istore_n C [(1, .int y3), (0, .ref (G.ad (d + 5))), (2, .int x2)] dX6_roomOfAll_24 rfl (by decide) rfl ?_
      refine x_iinc C [(2, .int (x2 + 1)), (1, .int y3), (0, .ref (G.ad (d + 5)))] 2 dX6_roomOfAll_25 rfl rfl (by decide) rfl ?_
      refine x_goto (tgt := 4) C dX6_roomOfAll_28 (by decide) ?_
      exact x_pick [(0, .ref (G.ad (d + 5))), (1, .int y3), (2, .int (x2 + 1))] [2, 1, 0] rfl (ih y3 (x2 + 1) hF)
set_option maxHeartbeats 4000000 in
theorem w_X6_roomOfAll {G : Gl} {p : Program} {l : Launch} {e : Env} {s0 : State} {m : MethodId} {args : Array Value} {below : List Frame} {meth : Method} {c : Code} (C : Cx G p s0 m args meth c cX6_roomOfAll 3 RX6 (some .int)) {d : Nat} (hv : isV d) {r : Int32}  (μ : Mu) (hF : f_X6_roomOfAll d μ = some r) : X G p l e 2 44 s0 m args below meth c 3 (some (.int r)) μ μ 0 [(0, .ref (G.ad (d + 5)))] [] := by
  unfold f_X6_roomOfAll at hF
  refine x_iconst (v := 0) C dX6_roomOfAll_0 (by decide) ?_
  refine x_istore_n C [(1, .int 0), (0, .ref (G.ad (d + 5)))] dX6_roomOfAll_1 rfl (by decide) rfl ?_
  refine x_iconst (v := 0) C dX6_roomOfAll_2 (by decide) ?_
  refine x_istore_n C [(2, .int 0), (1, .int 0), (0, .ref (G.ad (d + 5)))] dX6_roomOfAll_3 rfl (by decide) rfl ?_
  exact x_pick [(0, .ref (G.ad (d + 5))), (1, .int 0), (2, .int 0)] [2, 1, 0] rfl (w_X6_roomOfAll_L4 C hv μ fu 0 0 hF)
set_option maxHeartbeats 4000000 in
theorem c_X6_roomOfAll {G : Gl} (l : Launch) (hA : Ap G) {d : Nat} (hv : isV d) {r : Int32}  (μ : Mu) (hF : f_X6_roomOfAll d μ = some r) : Mth G l yX6_roomOfAll cX6_roomOfAll 3 (some .int) 2 44 [.ref (G.ad (d + 5))] (some (.int r)) μ μ := Mth.of hA (by decide) rfl (Nat.le_of_ble_eq_true rfl) (fun p e s0 m args below meth c C => w_X6_roomOfAll C hv μ hF)
set_option maxHeartbeats 4000000 in
theorem w_X5_weigh_b28 {G : Gl} {p : Program} {l : Launch} {e : Env} {s0 : State} {m : MethodId} {args : Array Value} {below : List Frame} {meth : Method} {c : Code} (C : Cx G p s0 m args meth c cX5_weigh 3 RX5 none) {d : Nat} (hv : isV d) {μf : Mu}  (x2 : Int32) (μ : Mu) (hF : f_X5_weigh_b28 d x2 μ = some μf) : X G p l e 3 66 s0 m args below meth c 3 none μf μ 28 [(0, .ref (G.ad 79)), (2, .int x2)] [] := by
  unfold f_X5_weigh_b28 at hF
  refine x_aload_n C 0 dX5_weigh_28 rfl rfl ?_
  refine x_iconst (v := 1) C dX5_weigh_29 (by decide) ?_
  refine x_putI C fc_X5 fl_X5_35 sh_79 (by decide) rfl rfl rfl ⟨rfl, rfl⟩ dX5_weigh_30 ?_
  refine x_letM hF (fun μ1 hF => ?_)
  refine x_aload_n C 0 dX5_weigh_33 rfl rfl ?_
  refine x_iload_n C 1 dX5_weigh_34 rfl rfl ?_
  refine x_putI C fc_X5 fl_X5_58 sh_79 (by decide) rfl rfl rfl ⟨rfl, rfl⟩ dX5_weigh_35 ?_
  refine x_letM hF (fun μ2 hF => ?_)
  refine x_aload_n C 0 dX5_weigh_38 rfl rfl ?_
  refine x_getR C fc_X5 fl_X5_15 sh_79 (by decide) rfl dX5_weigh_39 ?_
  refine x_iconst (v := 0) C dX5_weigh_42 (by decide) ?_
  refine x_aload_n C 0 dX5_weigh_43 rfl rfl ?_
  refine x_getR C fc_X5 fl_X5_9 sh_79 (by decide) rfl dX5_weigh_44 ?_
  refine x_iconst (v := 0) C dX5_weigh_47 (by decide) ?_
  refine x_bipush (v := 10) C dX5_weigh_48 (by decide) ?_
  obtain ⟨hi3, hF⟩ := f_chk hF
  refine x_copy C cwA_X5_29 sh_81 sh_80 hi3 ⟨by decide, Nat.le_of_ble_eq_true rfl⟩ dX5_weigh_50 ?_
  refine x_letM hF (fun μ4 hF => ?_)
  exact x_vret C dX5_weigh_53 (Option.some.inj hF)
set_option maxHeartbeats 4000000 in
theorem w_X5_weigh {G : Gl} {p : Program} {l : Launch} {e : Env} {s0 : State} {m : MethodId} {args : Array Value} {below : List Frame} {meth : Method} {c : Code} (C : Cx G p s0 m args meth c cX5_weigh 3 RX5 none) {d : Nat} (hv : isV d) {μf : Mu}  (μ : Mu) (hF : f_X5_weigh d μ = some μf) : X G p l e 3 66 s0 m args below meth c 3 none μf μ 0 [(0, .ref (G.ad 79)), (1, .ref (G.ad (d + 5)))] [] := by
  unfold f_X5_weigh at hF
  refine x_aload_n C 1 dX5_weigh_0 rfl rfl ?_
  obtain ⟨q1, hq1, hF⟩ := f_bind hF
  refine x_cVi (rest := []) C (c_X6_unclearWorks l C.2.2.2.2.2.2.2.2 hv μ hq1) cw_X5_51 (shV5 hv) rfl rfl ⟨by decide, by decide⟩ rfl rfl (Nat.le_of_ble_eq_true rfl) dX5_weigh_1 ?_
  refine x_if_le (tgt := 8) C dX5_weigh_4 (by decide) (fun hc => ?_) (fun hc => ?_)
  · replace hF := f_t hc hF
    refine x_aload_n C 1 dX5_weigh_8 rfl rfl ?_
    obtain ⟨q2, hq2, hF⟩ := f_bind hF
    refine x_cVi (rest := []) C (c_X6_roomOfAll l C.2.2.2.2.2.2.2.2 hv μ hq2) cw_X5_55 (shV5 hv) rfl rfl ⟨by decide, by decide⟩ rfl rfl (Nat.le_of_ble_eq_true rfl) dX5_weigh_9 ?_
    refine x_istore_n C [(2, .int q2), (0, .ref (G.ad 79)), (1, .ref (G.ad (d + 5)))] dX5_weigh_12 rfl (by decide) rfl ?_
    refine x_aload_n C 1 dX5_weigh_13 rfl rfl ?_
    refine x_getI C fc_X5 fl_X5_35 sh_79 (by decide) rfl dX5_weigh_14 ?_
    refine x_if_eq (tgt := 28) C dX5_weigh_17 (by decide) (fun hc => ?_) (fun hc => ?_)
    · replace hF := f_t hc hF
      exact x_pick [(0, .ref (G.ad 79)), (2, .int q2)] [1, 0] rfl (w_X5_weigh_b28 C hv q2 μ hF)
    · replace hF := f_f hc hF
      refine x_iload_n C 0 dX5_weigh_20 rfl rfl ?_
      refine x_aload_n C 1 dX5_weigh_21 rfl rfl ?_
      refine x_getI C fc_X5 fl_X5_58 sh_79 (by decide) rfl dX5_weigh_22 ?_
      refine x_icmp_ge (tgt := 53) C dX5_weigh_25 (by decide) (fun hc => ?_) (fun hc => ?_)
      · replace hF := f_t hc hF
        exact x_vret C dX5_weigh_53 (Option.some.inj hF)
      · replace hF := f_f hc hF
        exact x_pick [(0, .ref (G.ad 79)), (2, .int q2)] [1, 0] rfl (w_X5_weigh_b28 C hv q2 μ hF)
  · replace hF := f_f hc hF
    exact x_vret C dX5_weigh_7 (Option.some.inj hF)
set_option maxHeartbeats 4000000 in
theorem c_X5_weigh {G : Gl} (l : Launch) (hA : Ap G) {d : Nat} (hv : isV d) {μf : Mu}  (μ : Mu) (hF : f_X5_weigh d μ = some μf) : Mth G l yX5_weigh cX5_weigh 3 none 3 66 [.ref (G.ad 79), .ref (G.ad (d + 5))] none μf μ := Mth.of hA (by decide) rfl (Nat.le_of_ble_eq_true rfl) (fun p e s0 m args below meth c C => w_X5_weigh C hv μ hF)
set_option maxHeartbeats 4000000 in
theorem w_X5_search_L40 {G : Gl} {p : Program} {l : Launch} {e : Env} {s0 : State} {m : MethodId} {args : Array Value} {below : List Frame} {meth : Method} {c : Code} (C : Cx G p s0 m args meth c cX5_search 5 RX5 none) {d : Nat} (hv : isV d) {μf : Mu}  {k25 : Int32 → Mu → Option (Mu)} (hk25 : ∀ (x2 : Int32) (μ : Mu), k25 x2 μ = some μf → X G p l e 4 97 s0 m args below meth c 5 none μf μ 25 [(0, .ref (G.ad 79)), (1, .ref (G.ad (d + 5))), (2, .int x2)] []) {k32 : Int32 → Int32 → Mu → Option (Mu)} (hk32 : ∀ (x2 : Int32) (x3 : Int32) (μ : Mu), k32 x2 x3 μ = some μf → X G p l e 4 97 s0 m args below meth c 5 none μf μ 32 [(0, .ref (G.ad 79)), (1, .ref (G.ad (d + 5))), (2, .int x2), (3, .int x3)] []) : ∀ (n : Nat) (x2 : Int32) (x3 : Int32) (x4 : Int32) (μ : Mu), f_X5_search_L40 k25 k32 d n x2 x3 x4 μ = some μf → X G p l e 4 97 s0 m args below meth c 5 none μf μ 40 [(0, .ref (G.ad 79)), (1, .ref (G.ad (d + 5))), (2, .int x2), (3, .int x3), (4, .int x4)] [] := by
  intro n
  induction n with
  | zero =>
    intro x2 x3 x4 μ hF
    rw [f_X5_search_L40] at hF
    cases hF
  | succ n ih =>
    intro x2 x3 x4 μ hF
    rw [f_X5_search_L40] at hF
    refine x_iload C 4 dX5_search_40 rfl ?_
    refine x_bipush (v := 8) C dX5_search_42 (by decide) ?_
    refine x_icmp_ge (tgt := 74) C dX5_search_44 (by decide) (fun hc => ?_) (fun hc => ?_)
    · replace hF := f_t hc hF
      refine x_iinc C [(3, .int (x3 + 1)), (0, .ref (G.ad 79)), (1, .ref (G.ad (d + 5))), (2, .int x2), (4, .int x4)] 3 dX5_search_74 rfl rfl (by decide) rfl ?_
      refine x_goto (tgt := 32) C dX5_search_77 (by decide) ?_
      exact x_pick [(0, .ref (G.ad 79)), (1, .ref (G.ad (d + 5))), (2, .int x2), (3, .int (x3 + 1))] [1, 2, 3, 0] rfl (hk32 x2 (x3 + 1) μ hF)
    · replace hF := f_f hc hF
      refine x_aload_n C 0 dX5_search_47 rfl rfl ?_
      refine x_iload_n C 2 dX5_search_48 rfl rfl ?_
      refine x_iload_n C 3 dX5_search_49 rfl rfl ?_
      refine x_iload C 4 dX5_search_50 rfl ?_
      obtain ⟨q1, hq1, hF⟩ := f_bind hF
      refine x_cVv (rest := []) C (c_X5_setTrial l C.2.2.2.2.2.2.2.2 x2 x3 x4 μ hq1) cw_X5_39 sh_79 rfl rfl ⟨by decide, by decide⟩ rfl rfl (Nat.le_of_ble_eq_true rfl) dX5_search_52 ?_
      refine x_aload_n C 1 dX5_search_55 rfl rfl ?_
      refine x_aload_n C 0 dX5_search_56 rfl rfl ?_
      refine x_getR C fc_X5 fl_X5_15 sh_79 (by decide) rfl dX5_search_57 ?_
      obtain ⟨q2, hq2, hF⟩ := f_bind hF
      refine x_cVv (rest := []) C (c_X6_present l C.2.2.2.2.2.2.2.2 hv sh_81 q1 hq2) cw_X5_43 (shV5 hv) rfl rfl ⟨by decide, by decide⟩ rfl rfl (Nat.le_of_ble_eq_true rfl) dX5_search_60 ?_
      refine x_aload_n C 0 dX5_search_63 rfl rfl ?_
      refine x_aload_n C 1 dX5_search_64 rfl rfl ?_
      obtain ⟨q3, hq3, hF⟩ := f_bind hF
      refine x_cVv (rest := []) C (c_X5_weigh l C.2.2.2.2.2.2.2.2 hv q2 hq3) cw_X5_47 sh_79 rfl rfl ⟨by decide, by decide⟩ rfl rfl (Nat.le_of_ble_eq_true rfl) dX5_search_65 ?_
      refine x_iinc C [(4, .int (x4 + 1)), (0, .ref (G.ad 79)), (1, .ref (G.ad (d + 5))), (2, .int x2), (3, .int x3)] 4 dX5_search_68 rfl rfl (by decide) rfl ?_
      refine x_goto (tgt := 40) C dX5_search_71 (by decide) ?_
      exact x_pick [(0, .ref (G.ad 79)), (1, .ref (G.ad (d + 5))), (2, .int x2), (3, .int x3), (4, .int (x4 + 1))] [1, 2, 3, 4, 0] rfl (ih x2 x3 (x4 + 1) q3 hF)
set_option maxHeartbeats 4000000 in
theorem w_X5_search_L32 {G : Gl} {p : Program} {l : Launch} {e : Env} {s0 : State} {m : MethodId} {args : Array Value} {below : List Frame} {meth : Method} {c : Code} (C : Cx G p s0 m args meth c cX5_search 5 RX5 none) {d : Nat} (hv : isV d) {μf : Mu}  {k25 : Int32 → Mu → Option (Mu)} (hk25 : ∀ (x2 : Int32) (μ : Mu), k25 x2 μ = some μf → X G p l e 4 97 s0 m args below meth c 5 none μf μ 25 [(0, .ref (G.ad 79)), (1, .ref (G.ad (d + 5))), (2, .int x2)] []) : ∀ (n : Nat) (x2 : Int32) (x3 : Int32) (μ : Mu), f_X5_search_L32 k25 d n x2 x3 μ = some μf → X G p l e 4 97 s0 m args below meth c 5 none μf μ 32 [(0, .ref (G.ad 79)), (1, .ref (G.ad (d + 5))), (2, .int x2), (3, .int x3)] [] := by
  intro n
  induction n with
  | zero =>
    intro x2 x3 μ hF
    rw [f_X5_search_L32] at hF
    cases hF
  | succ n ih =>
    intro x2 x3 μ hF
    rw [f_X5_search_L32] at hF
    refine x_iload_n C 3 dX5_search_32 rfl rfl ?_
    refine x_iload_n C 2 dX5_search_33 rfl rfl ?_
    refine x_icmp_gt (tgt := 80) C dX5_search_34 (by decide) (fun hc => ?_) (fun hc => ?_)
    · replace hF := f_t hc hF
      refine x_iinc C [(2, .int (x2 + 1)), (0, .ref (G.ad 79)), (1, .ref (G.ad (d + 5))), (3, .int x3)] 2 dX5_search_80 rfl rfl (by decide) rfl ?_
      refine x_goto (tgt := 25) C dX5_search_83 (by decide) ?_
      exact x_pick [(0, .ref (G.ad 79)), (1, .ref (G.ad (d + 5))), (2, .int (x2 + 1))] [1, 2, 0] rfl (hk25 (x2 + 1) μ hF)
    · replace hF := f_f hc hF
      refine x_iconst (v := 0) C dX5_search_37 (by decide) ?_
      refine x_istore C [(4, .int 0), (0, .ref (G.ad 79)), (1, .ref (G.ad (d + 5))), (2, .int x2), (3, .int x3)] dX5_search_38 (by decide) rfl ?_
      exact x_pick [(0, .ref (G.ad 79)), (1, .ref (G.ad (d + 5))), (2, .int x2), (3, .int x3), (4, .int 0)] [1, 2, 3, 4, 0] rfl (w_X5_search_L40 C hv hk25 ih fu x2 x3 0 μ hF)
set_option maxHeartbeats 4000000 in
theorem w_X5_search_L25 {G : Gl} {p : Program} {l : Launch} {e : Env} {s0 : State} {m : MethodId} {args : Array Value} {below : List Frame} {meth : Method} {c : Code} (C : Cx G p s0 m args meth c cX5_search 5 RX5 none) {d : Nat} (hv : isV d) {μf : Mu}  : ∀ (n : Nat) (x2 : Int32) (μ : Mu), f_X5_search_L25 d n x2 μ = some μf → X G p l e 4 97 s0 m args below meth c 5 none μf μ 25 [(0, .ref (G.ad 79)), (1, .ref (G.ad (d + 5))), (2, .int x2)] [] := by
  intro n
  induction n with
  | zero =>
    intro x2 μ hF
    rw [f_X5_search_L25] at hF
    cases hF
  | succ n ih =>
    intro x2 μ hF
    rw [f_X5_search_L25] at hF
    refine x_iload_n C 2 dX5_search_25 rfl rfl ?_
    refine x_iconst (v := 4) C dX5_search_26 (by decide) ?_
    refine x_icmp_gt (tgt := 86) C dX5_search_27 (by decide) (fun hc => ?_) (fun hc => ?_)
    · replace hF := f_t hc hF
      refine x_aload_n C 1 dX5_search_86 rfl rfl ?_
      refine x_aload_n C 1 dX5_search_87 rfl rfl ?_
      refine x_getR C fc_X6 fl_X5_18 (shV5 hv) (by decide) rfl dX5_search_88 ?_
      refine x_getR C fc_X1 fl_X5_24 (shD0 (isV_D hv)) (by decide) rfl dX5_search_91 ?_
      obtain ⟨q1, hq1, hF⟩ := f_bind hF
      refine x_cVv (rest := []) C (c_X6_present l C.2.2.2.2.2.2.2.2 hv (shD4 (isV_D hv)) μ hq1) cw_X5_43 (shV5 hv) rfl rfl ⟨by decide, by decide⟩ rfl rfl (Nat.le_of_ble_eq_true rfl) dX5_search_94 ?_
      exact x_vret C dX5_search_97 (Option.some.inj hF)
    · replace hF := f_f hc hF
      refine x_iconst (v := 1) C dX5_search_30 (by decide) ?_
      refine x_istore_n C [(3, .int 1), (0, .ref (G.ad 79)), (1, .ref (G.ad (d + 5))), (2, .int x2)] dX5_search_31 rfl (by decide) rfl ?_
      exact x_pick [(0, .ref (G.ad 79)), (1, .ref (G.ad (d + 5))), (2, .int x2), (3, .int 1)] [1, 2, 3, 0] rfl (w_X5_search_L32 C hv ih fu x2 1 μ hF)
set_option maxHeartbeats 4000000 in
theorem w_X5_search {G : Gl} {p : Program} {l : Launch} {e : Env} {s0 : State} {m : MethodId} {args : Array Value} {below : List Frame} {meth : Method} {c : Code} (C : Cx G p s0 m args meth c cX5_search 5 RX5 none) {d : Nat} (hv : isV d) {μf : Mu}  (μ : Mu) (hF : f_X5_search d μ = some μf) : X G p l e 4 97 s0 m args below meth c 5 none μf μ 0 [(0, .ref (G.ad 79)), (1, .ref (G.ad (d + 5)))] [] := by
  unfold f_X5_search at hF
  refine x_aload_n C 1 dX5_search_0 rfl rfl ?_
  refine x_getR C fc_X6 fl_X5_18 (shV5 hv) (by decide) rfl dX5_search_1 ?_
  refine x_getR C fc_X1 fl_X5_24 (shD0 (isV_D hv)) (by decide) rfl dX5_search_4 ?_
  refine x_iconst (v := 0) C dX5_search_7 (by decide) ?_
  refine x_aload_n C 0 dX5_search_8 rfl rfl ?_
  refine x_getR C fc_X5 fl_X5_15 sh_79 (by decide) rfl dX5_search_9 ?_
  refine x_iconst (v := 0) C dX5_search_12 (by decide) ?_
  refine x_bipush (v := 10) C dX5_search_13 (by decide) ?_
  obtain ⟨hi1, hF⟩ := f_chk hF
  refine x_copy C cwA_X5_29 (shD4 (isV_D hv)) sh_81 hi1 ⟨by decide, Nat.le_of_ble_eq_true rfl⟩ dX5_search_15 ?_
  refine x_letM hF (fun μ2 hF => ?_)
  refine x_aload_n C 0 dX5_search_18 rfl rfl ?_
  refine x_iconst (v := 0) C dX5_search_19 (by decide) ?_
  refine x_putI C fc_X5 fl_X5_35 sh_79 (by decide) rfl rfl rfl ⟨rfl, rfl⟩ dX5_search_20 ?_
  refine x_letM hF (fun μ3 hF => ?_)
  refine x_iconst (v := 1) C dX5_search_23 (by decide) ?_
  refine x_istore_n C [(2, .int 1), (0, .ref (G.ad 79)), (1, .ref (G.ad (d + 5)))] dX5_search_24 rfl (by decide) rfl ?_
  exact x_pick [(0, .ref (G.ad 79)), (1, .ref (G.ad (d + 5))), (2, .int 1)] [1, 2, 0] rfl (w_X5_search_L25 C hv fu 1 μ3 hF)
set_option maxHeartbeats 4000000 in
theorem c_X5_search {G : Gl} (l : Launch) (hA : Ap G) {d : Nat} (hv : isV d) {μf : Mu}  (μ : Mu) (hF : f_X5_search d μ = some μf) : Mth G l yX5_search cX5_search 5 none 4 97 [.ref (G.ad 79), .ref (G.ad (d + 5))] none μf μ := Mth.of hA (by decide) rfl (Nat.le_of_ble_eq_true rfl) (fun p e s0 m args below meth c C => w_X5_search C hv μ hF)
set_option maxHeartbeats 4000000 in
theorem w_X6_meantAt {G : Gl} {p : Program} {l : Launch} {e : Env} {s0 : State} {m : MethodId} {args : Array Value} {below : List Frame} {meth : Method} {c : Code} (C : Cx G p s0 m args meth c cX6_meantAt 2 RX6 (some .int)) {d : Nat} (hv : isV d) {r : Int32}  (x1 : Int32) (μ : Mu) (hF : f_X6_meantAt d x1 μ = some r) : X G p l e 0 0 s0 m args below meth c 2 (some (.int r)) μ μ 0 [(0, .ref (G.ad (d + 5))), (1, .int x1)] [] := by
  unfold f_X6_meantAt at hF
  refine x_aload_n C 0 dX6_meantAt_0 rfl rfl ?_
  refine x_getR C fc_X6 fl_X6_9 (shV5 hv) (by decide) rfl dX6_meantAt_1 ?_
  refine x_aload_n C 0 dX6_meantAt_4 rfl rfl ?_
  refine x_getR C fc_X6 fl_X6_53 (shV5 hv) (by decide) rfl dX6_meantAt_5 ?_
  refine x_getR C fc_X0 fl_X6_92 sh_10 (by decide) rfl dX6_meantAt_8 ?_
  refine x_aload_n C 0 dX6_meantAt_11 rfl rfl ?_
  refine x_getR C fc_X6 fl_X6_18 (shV5 hv) (by decide) rfl dX6_meantAt_12 ?_
  refine x_iload_n C 1 dX6_meantAt_15 rfl rfl ?_
  obtain ⟨hi1, hF⟩ := f_chk hF
  refine x_iald C (shV8 hv) hi1 dX6_meantAt_16 ?_
  obtain ⟨hi2, hF⟩ := f_chk hF
  refine x_iald C sh_11 hi2 dX6_meantAt_17 ?_
  obtain ⟨hi3, hF⟩ := f_chk hF
  refine x_iald C (shV6 hv) hi3 dX6_meantAt_18 ?_
  exact x_iret C dX6_meantAt_19 (Option.some.inj hF) rfl
set_option maxHeartbeats 4000000 in
theorem c_X6_meantAt {G : Gl} (l : Launch) (hA : Ap G) {d : Nat} (hv : isV d) {r : Int32}  (x1 : Int32) (μ : Mu) (hF : f_X6_meantAt d x1 μ = some r) : Mth G l yX6_meantAt cX6_meantAt 2 (some .int) 0 0 [.ref (G.ad (d + 5)), .int x1] (some (.int r)) μ μ := Mth.of hA (by decide) rfl (Nat.le_of_ble_eq_true rfl) (fun p e s0 m args below meth c C => w_X6_meantAt C hv x1 μ hF)
set_option maxHeartbeats 4000000 in
theorem w_X6_findCited_L7 {G : Gl} {p : Program} {l : Launch} {e : Env} {s0 : State} {m : MethodId} {args : Array Value} {below : List Frame} {meth : Method} {c : Code} (C : Cx G p s0 m args meth c cX6_findCited 3 RX6 none) {d : Nat} (hv : isV d) {μf : Mu}  : ∀ (n : Nat) (x1 : Int32) (μ : Mu), f_X6_findCited_L7 d n x1 μ = some μf → X G p l e 1 21 s0 m args below meth c 3 none μf μ 7 [(0, .ref (G.ad (d + 5))), (1, .int x1)] [] := by
  intro n
  induction n with
  | zero =>
    intro x1 μ hF
    rw [f_X6_findCited_L7] at hF
    cases hF
  | succ n ih =>
    intro x1 μ hF
    rw [f_X6_findCited_L7] at hF
    refine x_iload_n C 1 dX6_findCited_7 rfl rfl ?_
    refine x_aload_n C 0 dX6_findCited_8 rfl rfl ?_
    refine x_getI C fc_X6 fl_X6_148 (shV5 hv) (by decide) rfl dX6_findCited_9 ?_
    refine x_icmp_ge (tgt := 66) C dX6_findCited_12 (by decide) (fun hc => ?_) (fun hc => ?_)
    · replace hF := f_t hc hF
      exact x_vret C dX6_findCited_66 (Option.some.inj hF)
    · replace hF := f_f hc hF
      refine x_aload_n C 0 dX6_findCited_15 rfl rfl ?_
      refine x_iload_n C 1 dX6_findCited_16 rfl rfl ?_
      obtain ⟨q1, hq1, hF⟩ := f_bind hF
      refine x_cVi (rest := []) C (c_X6_meantAt l C.2.2.2.2.2.2.2.2 hv x1 μ hq1) cw_X6_99 (shV5 hv) rfl rfl ⟨by decide, by decide⟩ rfl rfl (Nat.le_of_ble_eq_true rfl) dX6_findCited_17 ?_
      refine x_istore_n C [(2, .int q1), (0, .ref (G.ad (d + 5))), (1, .int x1)] dX6_findCited_20 rfl (by decide) rfl ?_
      refine x_aload_n C 1 dX6_findCited_21 rfl rfl ?_
      refine x_getR C fc_X6 fl_X6_15 (shV5 hv) (by decide) rfl dX6_findCited_22 ?_
      refine x_iload_n C 0 dX6_findCited_25 rfl rfl ?_
      obtain ⟨hi2, hF⟩ := f_chk hF
      refine x_iald C (shV7 hv) hi2 dX6_findCited_26 ?_
      refine x_if_ne (tgt := 50) C dX6_findCited_27 (by decide) (fun hc => ?_) (fun hc => ?_)
      · replace hF := f_f hc hF
        refine x_aload_n C 1 dX6_findCited_50 rfl rfl ?_
        refine x_getR C fc_X6 fl_X6_15 (shV5 hv) (by decide) rfl dX6_findCited_51 ?_
        refine x_iload_n C 0 dX6_findCited_54 rfl rfl ?_
        refine x_dup2 C dX6_findCited_55 rfl rfl ?_
        refine x_iald C (shV7 hv) hi2 dX6_findCited_56 ?_
        refine x_iconst (v := 1) C dX6_findCited_57 (by decide) ?_
        refine x_iadd C dX6_findCited_58 ?_
        refine x_iast C (shV7 hv) hi2 dX6_findCited_59 ?_
        refine x_letM hF (fun μ3 hF => ?_)
        refine x_iinc C [(1, .int (x1 + 1)), (2, .int q1), (0, .ref (G.ad (d + 5)))] 2 dX6_findCited_60 rfl rfl (by decide) rfl ?_
        refine x_goto (tgt := 7) C dX6_findCited_63 (by decide) ?_
        exact x_pick [(0, .ref (G.ad (d + 5))), (1, .int (x1 + 1))] [2, 0] rfl (ih (x1 + 1) μ3 hF)
      · replace hF := f_t hc hF
        refine x_aload_n C 1 dX6_findCited_30 rfl rfl ?_
        refine x_getR C fc_X6 fl_X6_30 (shV5 hv) (by decide) rfl dX6_findCited_31 ?_
        refine x_aload_n C 1 dX6_findCited_34 rfl rfl ?_
        refine x_getI C fc_X6 fl_X6_118 (shV5 hv) (by decide) rfl dX6_findCited_35 ?_
        refine x_iload_n C 0 dX6_findCited_38 rfl rfl ?_
        obtain ⟨hi4, hF⟩ := f_chk hF
        refine x_iast C (shV12 hv) hi4 dX6_findCited_39 ?_
        refine x_letM hF (fun μ5 hF => ?_)
        refine x_aload_n C 1 dX6_findCited_40 rfl rfl ?_
        refine x_dup C dX6_findCited_41 rfl ?_
        refine x_getI C fc_X6 fl_X6_118 (shV5 hv) (by decide) rfl dX6_findCited_42 ?_
        refine x_iconst (v := 1) C dX6_findCited_45 (by decide) ?_
        refine x_iadd C dX6_findCited_46 ?_
        refine x_putI C fc_X6 fl_X6_118 (shV5 hv) (by decide) rfl rfl rfl ⟨rfl, rfl⟩ dX6_findCited_47 ?_
        refine x_letM hF (fun μ6 hF => ?_)
        refine x_aload_n C 1 dX6_findCited_50 rfl rfl ?_
        refine x_getR C fc_X6 fl_X6_15 (shV5 hv) (by decide) rfl dX6_findCited_51 ?_
        refine x_iload_n C 0 dX6_findCited_54 rfl rfl ?_
        refine x_dup2 C dX6_findCited_55 rfl rfl ?_
        refine x_iald C (shV7 hv) hi2 dX6_findCited_56 ?_
        refine x_iconst (v := 1) C dX6_findCited_57 (by decide) ?_
        refine x_iadd C dX6_findCited_58 ?_
        refine x_iast C (shV7 hv) hi2 dX6_findCited_59 ?_
        refine x_letM hF (fun μ7 hF => ?_)
        refine x_iinc C [(1, .int (x1 + 1)), (2, .int q1), (0, .ref (G.ad (d + 5)))] 2 dX6_findCited_60 rfl rfl (by decide) rfl ?_
        refine x_goto (tgt := 7) C dX6_findCited_63 (by decide) ?_
        exact x_pick [(0, .ref (G.ad (d + 5))), (1, .int (x1 + 1))] [2, 0] rfl (ih (x1 + 1) μ7 hF)
set_option maxHeartbeats 4000000 in
theorem w_X6_findCited {G : Gl} {p : Program} {l : Launch} {e : Env} {s0 : State} {m : MethodId} {args : Array Value} {below : List Frame} {meth : Method} {c : Code} (C : Cx G p s0 m args meth c cX6_findCited 3 RX6 none) {d : Nat} (hv : isV d) {μf : Mu}  (μ : Mu) (hF : f_X6_findCited d μ = some μf) : X G p l e 1 21 s0 m args below meth c 3 none μf μ 0 [(0, .ref (G.ad (d + 5)))] [] := by
  unfold f_X6_findCited at hF
  refine x_aload_n C 0 dX6_findCited_0 rfl rfl ?_
  refine x_iconst (v := 0) C dX6_findCited_1 (by decide) ?_
  refine x_putI C fc_X6 fl_X6_118 (shV5 hv) (by decide) rfl rfl rfl ⟨rfl, rfl⟩ dX6_findCited_2 ?_
  refine x_letM hF (fun μ1 hF => ?_)
  refine x_iconst (v := 0) C dX6_findCited_5 (by decide) ?_
  refine x_istore_n C [(1, .int 0), (0, .ref (G.ad (d + 5)))] dX6_findCited_6 rfl (by decide) rfl ?_
  exact x_pick [(0, .ref (G.ad (d + 5))), (1, .int 0)] [1, 0] rfl (w_X6_findCited_L7 C hv fu 0 μ1 hF)
set_option maxHeartbeats 4000000 in
theorem c_X6_findCited {G : Gl} (l : Launch) (hA : Ap G) {d : Nat} (hv : isV d) {μf : Mu}  (μ : Mu) (hF : f_X6_findCited d μ = some μf) : Mth G l yX6_findCited cX6_findCited 3 none 1 21 [.ref (G.ad (d + 5))] none μf μ := Mth.of hA (by decide) rfl (Nat.le_of_ble_eq_true rfl) (fun p e s0 m args below meth c C => w_X6_findCited C hv μ hF)
set_option maxHeartbeats 4000000 in
theorem w_X6_isMeantAhead_L2 {G : Gl} {p : Program} {l : Launch} {e : Env} {s0 : State} {m : MethodId} {args : Array Value} {below : List Frame} {meth : Method} {c : Code} (C : Cx G p s0 m args meth c cX6_isMeantAhead 4 RX6 (some .boolean)) {d : Nat} (hv : isV d) {r : Int32}  (μ : Mu) : ∀ (n : Nat) (x1 : Int32) (x2 : Int32) (x3 : Int32), f_X6_isMeantAhead_L2 d μ n x1 x2 x3 = some r → X G p l e 1 21 s0 m args below meth c 4 (some (.int r)) μ μ 2 [(0, .ref (G.ad (d + 5))), (1, .int x1), (2, .int x2), (3, .int x3)] [] := by
  intro n
  induction n with
  | zero =>
    intro x1 x2 x3 hF
    rw [f_X6_isMeantAhead_L2] at hF
    cases hF
  | succ n ih =>
    intro x1 x2 x3 hF
    rw [f_X6_isMeantAhead_L2] at hF
    refine x_iload_n C 3 dX6_isMeantAhead_2 rfl rfl ?_
    refine x_iload_n C 1 dX6_isMeantAhead_3 rfl rfl ?_
    refine x_icmp_ge (tgt := 24) C dX6_isMeantAhead_4 (by decide) (fun hc => ?_) (fun hc => ?_)
    · replace hF := f_t hc hF
      refine x_iconst (v := 0) C dX6_isMeantAhead_24 (by decide) ?_
      exact x_zret C dX6_isMeantAhead_25 (by decide) (Option.some.inj hF) rfl
    · replace hF := f_f hc hF
      refine x_aload_n C 0 dX6_isMeantAhead_7 rfl rfl ?_
      refine x_iload_n C 3 dX6_isMeantAhead_8 rfl rfl ?_
      obtain ⟨q1, hq1, hF⟩ := f_bind hF
      refine x_cVi (rest := []) C (c_X6_meantAt l C.2.2.2.2.2.2.2.2 hv x3 μ hq1) cw_X6_99 (shV5 hv) rfl rfl ⟨by decide, by decide⟩ rfl rfl (Nat.le_of_ble_eq_true rfl) dX6_isMeantAhead_9 ?_
      refine x_iload_n C 2 dX6_isMeantAhead_12 rfl rfl ?_
      refine x_icmp_ne (tgt := 18) C dX6_isMeantAhead_13 (by decide) (fun hc => ?_) (fun hc => ?_)
      · replace hF := f_f hc hF
        refine x_iinc C [(3, .int (x3 + 1)), (0, .ref (G.ad (d + 5))), (1, .int x1), (2, .int x2)] 3 dX6_isMeantAhead_18 rfl rfl (by decide) rfl ?_
        refine x_goto (tgt := 2) C dX6_isMeantAhead_21 (by decide) ?_
        exact x_pick [(0, .ref (G.ad (d + 5))), (1, .int x1), (2, .int x2), (3, .int (x3 + 1))] [1, 2, 3, 0] rfl (ih x1 x2 (x3 + 1) hF)
      · replace hF := f_t hc hF
        refine x_iconst (v := 1) C dX6_isMeantAhead_16 (by decide) ?_
        exact x_zret C dX6_isMeantAhead_17 (by decide) (Option.some.inj hF) rfl
set_option maxHeartbeats 4000000 in
theorem w_X6_isMeantAhead {G : Gl} {p : Program} {l : Launch} {e : Env} {s0 : State} {m : MethodId} {args : Array Value} {below : List Frame} {meth : Method} {c : Code} (C : Cx G p s0 m args meth c cX6_isMeantAhead 4 RX6 (some .boolean)) {d : Nat} (hv : isV d) {r : Int32}  (x1 : Int32) (x2 : Int32) (μ : Mu) (hF : f_X6_isMeantAhead d x1 x2 μ = some r) : X G p l e 1 21 s0 m args below meth c 4 (some (.int r)) μ μ 0 [(0, .ref (G.ad (d + 5))), (1, .int x1), (2, .int x2)] [] := by
  unfold f_X6_isMeantAhead at hF
  refine x_iconst (v := 0) C dX6_isMeantAhead_0 (by decide) ?_
  refine x_istore_n C [(3, .int 0), (0, .ref (G.ad (d + 5))), (1, .int x1), (2, .int x2)] dX6_isMeantAhead_1 rfl (by decide) rfl ?_
  exact x_pick [(0, .ref (G.ad (d + 5))), (1, .int x1), (2, .int x2), (3, .int 0)] [1, 2, 3, 0] rfl (w_X6_isMeantAhead_L2 C hv μ fu x1 x2 0 hF)
set_option maxHeartbeats 4000000 in
theorem c_X6_isMeantAhead {G : Gl} (l : Launch) (hA : Ap G) {d : Nat} (hv : isV d) {r : Int32}  (x1 : Int32) (x2 : Int32) (μ : Mu) (hF : f_X6_isMeantAhead d x1 x2 μ = some r) : Mth G l yX6_isMeantAhead cX6_isMeantAhead 4 (some .boolean) 1 21 [.ref (G.ad (d + 5)), .int x1, .int x2] (some (.int r)) μ μ := Mth.of hA (by decide) rfl (Nat.le_of_ble_eq_true rfl) (fun p e s0 m args below meth c C => w_X6_isMeantAhead C hv x1 x2 μ hF)
set_option maxHeartbeats 4000000 in
theorem w_X6_isNear {G : Gl} {p : Program} {l : Launch} {e : Env} {s0 : State} {m : MethodId} {args : Array Value} {below : List Frame} {meth : Method} {c : Code} (C : Cx G p s0 m args meth c cX6_isNear 4 RX6 (some .boolean)) {d : Nat} (hv : isV d) {r : Int32}  (x1 : Int32) (x2 : Int32) (μ : Mu) (hF : f_X6_isNear d x1 x2 μ = some r) : X G p l e 0 0 s0 m args below meth c 4 (some (.int r)) μ μ 0 [(0, .ref (G.ad (d + 5))), (1, .int x1), (2, .int x2)] [] := by
  unfold f_X6_isNear at hF
  refine x_aload_n C 0 dX6_isNear_0 rfl rfl ?_
  refine x_getR C fc_X6 fl_X6_21 (shV5 hv) (by decide) rfl dX6_isNear_1 ?_
  refine x_iload_n C 2 dX6_isNear_4 rfl rfl ?_
  obtain ⟨hi1, hF⟩ := f_chk hF
  refine x_iald C (shV9 hv) hi1 dX6_isNear_5 ?_
  refine x_aload_n C 0 dX6_isNear_6 rfl rfl ?_
  refine x_getR C fc_X6 fl_X6_21 (shV5 hv) (by decide) rfl dX6_isNear_7 ?_
  refine x_iload_n C 1 dX6_isNear_10 rfl rfl ?_
  obtain ⟨hi2, hF⟩ := f_chk hF
  refine x_iald C (shV9 hv) hi2 dX6_isNear_11 ?_
  refine x_isub C dX6_isNear_12 ?_
  refine x_letI hF (fun y3 hF => ?_)
  refine x_istore_n C [(3, .int y3), (0, .ref (G.ad (d + 5))), (1, .int x1), (2, .int x2)] dX6_isNear_13 rfl (by decide) rfl ?_
  refine x_iload_n C 0 dX6_isNear_14 rfl rfl ?_
  refine x_if_eq (tgt := 49) C dX6_isNear_15 (by decide) (fun hc => ?_) (fun hc => ?_)
  · replace hF := f_t hc hF
    refine x_iconst (v := 1) C dX6_isNear_49 (by decide) ?_
    refine x_goto (tgt := 54) C dX6_isNear_50 (by decide) ?_
    exact x_zret C dX6_isNear_54 (by decide) (Option.some.inj hF) rfl
  · replace hF := f_f hc hF
    refine x_iload_n C 0 dX6_isNear_18 rfl rfl ?_
    refine x_aload_n C 1 dX6_isNear_19 rfl rfl ?_
    refine x_getR C fc_X6 fl_X6_57 (shV5 hv) (by decide) rfl dX6_isNear_20 ?_
    refine x_getR C fc_X1 fl_X6_82 (shD0 (isV_D hv)) (by decide) rfl dX6_isNear_23 ?_
    refine x_iconst (v := 4) C dX6_isNear_26 (by decide) ?_
    refine x_iald C (shD4 (isV_D hv)) (by decide) dX6_isNear_27 ?_
    refine x_icmp_gt (tgt := 53) C dX6_isNear_28 (by decide) (fun hc => ?_) (fun hc => ?_)
    · replace hF := f_t hc hF
      refine x_iconst (v := 0) C dX6_isNear_53 (by decide) ?_
      exact x_zret C dX6_isNear_54 (by decide) (Option.some.inj hF) rfl
    · replace hF := f_f hc hF
      refine x_aload_n C 1 dX6_isNear_31 rfl rfl ?_
      refine x_getR C fc_X6 fl_X6_57 (shV5 hv) (by decide) rfl dX6_isNear_32 ?_
      refine x_getR C fc_X1 fl_X6_112 (shD0 (isV_D hv)) (by decide) rfl dX6_isNear_35 ?_
      refine x_aload_n C 1 dX6_isNear_38 rfl rfl ?_
      refine x_getR C fc_X6 fl_X6_21 (shV5 hv) (by decide) rfl dX6_isNear_39 ?_
      refine x_iload_n C 2 dX6_isNear_42 rfl rfl ?_
      refine x_iald C (shV9 hv) hi2 dX6_isNear_43 ?_
      obtain ⟨hi4, hF⟩ := f_chk hF
      refine x_iald C (shD2 (isV_D hv)) hi4 dX6_isNear_44 ?_
      refine x_iconst (v := 1) C dX6_isNear_45 (by decide) ?_
      refine x_icmp_ne (tgt := 53) C dX6_isNear_46 (by decide) (fun hc => ?_) (fun hc => ?_)
      · replace hF := f_f hc hF
        refine x_iconst (v := 0) C dX6_isNear_53 (by decide) ?_
        exact x_zret C dX6_isNear_54 (by decide) (Option.some.inj hF) rfl
      · replace hF := f_t hc hF
        refine x_iconst (v := 1) C dX6_isNear_49 (by decide) ?_
        refine x_goto (tgt := 54) C dX6_isNear_50 (by decide) ?_
        exact x_zret C dX6_isNear_54 (by decide) (Option.some.inj hF) rfl
set_option maxHeartbeats 4000000 in
theorem c_X6_isNear {G : Gl} (l : Launch) (hA : Ap G) {d : Nat} (hv : isV d) {r : Int32}  (x1 : Int32) (x2 : Int32) (μ : Mu) (hF : f_X6_isNear d x1 x2 μ = some r) : Mth G l yX6_isNear cX6_isNear 4 (some .boolean) 0 0 [.ref (G.ad (d + 5)), .int x1, .int x2] (some (.int r)) μ μ := Mth.of hA (by decide) rfl (Nat.le_of_ble_eq_true rfl) (fun p e s0 m args below meth c C => w_X6_isNear C hv x1 x2 μ hF)
set_option maxHeartbeats 4000000 in
theorem w_X6_formAt {G : Gl} {p : Program} {l : Launch} {e : Env} {s0 : State} {m : MethodId} {args : Array Value} {below : List Frame} {meth : Method} {c : Code} (C : Cx G p s0 m args meth c cX6_formAt 4 RX6 (some .int)) {d : Nat} (hv : isV d) {r : Int32}  (x1 : Int32) (μ : Mu) (hF : f_X6_formAt d x1 μ = some r) : X G p l e 2 44 s0 m args below meth c 4 (some (.int r)) μ μ 0 [(0, .ref (G.ad (d + 5))), (1, .int x1)] [] := by
  unfold f_X6_formAt at hF
  refine x_aload_n C 0 dX6_formAt_0 rfl rfl ?_
  refine x_getR C fc_X6 fl_X6_57 (shV5 hv) (by decide) rfl dX6_formAt_1 ?_
  refine x_getR C fc_X1 fl_X6_82 (shD0 (isV_D hv)) (by decide) rfl dX6_formAt_4 ?_
  refine x_iconst (v := 0) C dX6_formAt_7 (by decide) ?_
  refine x_iald C (shD4 (isV_D hv)) (by decide) dX6_formAt_8 ?_
  refine x_letI hF (fun y1 hF => ?_)
  refine x_istore_n C [(2, .int y1), (0, .ref (G.ad (d + 5))), (1, .int x1)] dX6_formAt_9 rfl (by decide) rfl ?_
  refine x_iload_n C 0 dX6_formAt_10 rfl rfl ?_
  refine x_if_eq (tgt := 25) C dX6_formAt_11 (by decide) (fun hc => ?_) (fun hc => ?_)
  · replace hF := f_t hc hF
    refine x_aload_n C 1 dX6_formAt_25 rfl rfl ?_
    refine x_iload_n C 2 dX6_formAt_26 rfl rfl ?_
    obtain ⟨q2, hq2, hF⟩ := f_bind hF
    refine x_cVi (rest := []) C (c_X6_meantAt l C.2.2.2.2.2.2.2.2 hv x1 μ hq2) cw_X6_99 (shV5 hv) rfl rfl ⟨by decide, by decide⟩ rfl rfl (Nat.le_of_ble_eq_true rfl) dX6_formAt_27 ?_
    refine x_istore_n C [(3, .int q2), (2, .int y1), (0, .ref (G.ad (d + 5))), (1, .int x1)] dX6_formAt_30 rfl (by decide) rfl ?_
    refine x_iload_n C 3 dX6_formAt_31 rfl rfl ?_
    refine x_if_eq (tgt := 44) C dX6_formAt_32 (by decide) (fun hc => ?_) (fun hc => ?_)
    · replace hF := f_t hc hF
      refine x_iconst (v := 0) C dX6_formAt_44 (by decide) ?_
      exact x_iret C dX6_formAt_45 (Option.some.inj hF) rfl
    · replace hF := f_f hc hF
      refine x_aload_n C 2 dX6_formAt_35 rfl rfl ?_
      refine x_iload_n C 3 dX6_formAt_36 rfl rfl ?_
      refine x_iload_n C 0 dX6_formAt_37 rfl rfl ?_
      obtain ⟨q3, hq3, hF⟩ := f_bind hF
      refine x_cVi (rest := []) C (c_X6_isMeantAhead l C.2.2.2.2.2.2.2.2 hv x1 q2 μ hq3) cw_X6_102 (shV5 hv) rfl rfl ⟨by decide, by decide⟩ rfl rfl (Nat.le_of_ble_eq_true rfl) dX6_formAt_38 ?_
      refine x_if_ne (tgt := 46) C dX6_formAt_41 (by decide) (fun hc => ?_) (fun hc => ?_)
      · replace hF := f_f hc hF
        refine x_aload_n C 2 dX6_formAt_46 rfl rfl ?_
        refine x_iload_n C 3 dX6_formAt_47 rfl rfl ?_
        refine x_iconst (v := 1) C dX6_formAt_48 (by decide) ?_
        refine x_isub C dX6_formAt_49 ?_
        obtain ⟨q4, hq4, hF⟩ := f_bind hF
        refine x_cVi (rest := []) C (c_X6_meantAt l C.2.2.2.2.2.2.2.2 hv (x1 - 1) μ hq4) cw_X6_99 (shV5 hv) rfl rfl ⟨by decide, by decide⟩ rfl rfl (Nat.le_of_ble_eq_true rfl) dX6_formAt_50 ?_
        refine x_iload_n C 0 dX6_formAt_53 rfl rfl ?_
        refine x_icmp_ne (tgt := 68) C dX6_formAt_54 (by decide) (fun hc => ?_) (fun hc => ?_)
        · replace hF := f_f hc hF
          refine x_iconst (v := 1) C dX6_formAt_68 (by decide) ?_
          exact x_iret C dX6_formAt_69 (Option.some.inj hF) rfl
        · replace hF := f_t hc hF
          refine x_aload_n C 2 dX6_formAt_57 rfl rfl ?_
          refine x_iload_n C 3 dX6_formAt_58 rfl rfl ?_
          refine x_iconst (v := 1) C dX6_formAt_59 (by decide) ?_
          refine x_isub C dX6_formAt_60 ?_
          refine x_iload_n C 3 dX6_formAt_61 rfl rfl ?_
          obtain ⟨q5, hq5, hF⟩ := f_bind hF
          refine x_cVi (rest := []) C (c_X6_isNear l C.2.2.2.2.2.2.2.2 hv (x1 - 1) x1 μ hq5) cw_X6_106 (shV5 hv) rfl rfl ⟨by decide, by decide⟩ rfl rfl (Nat.le_of_ble_eq_true rfl) dX6_formAt_62 ?_
          refine x_if_ne (tgt := 70) C dX6_formAt_65 (by decide) (fun hc => ?_) (fun hc => ?_)
          · replace hF := f_f hc hF
            refine x_aload_n C 2 dX6_formAt_70 rfl rfl ?_
            refine x_getR C fc_X6 fl_X6_53 (shV5 hv) (by decide) rfl dX6_formAt_71 ?_
            refine x_getR C fc_X0 fl_X6_109 sh_10 (by decide) rfl dX6_formAt_74 ?_
            refine x_aload_n C 2 dX6_formAt_77 rfl rfl ?_
            refine x_getR C fc_X6 fl_X6_18 (shV5 hv) (by decide) rfl dX6_formAt_78 ?_
            refine x_iload_n C 3 dX6_formAt_81 rfl rfl ?_
            refine x_iconst (v := 1) C dX6_formAt_82 (by decide) ?_
            refine x_isub C dX6_formAt_83 ?_
            obtain ⟨hi6, hF⟩ := f_chk hF
            refine x_iald C (shV8 hv) hi6 dX6_formAt_84 ?_
            obtain ⟨hi7, hF⟩ := f_chk hF
            refine x_iald C sh_12 hi7 dX6_formAt_85 ?_
            refine x_aload_n C 2 dX6_formAt_86 rfl rfl ?_
            refine x_getR C fc_X6 fl_X6_53 (shV5 hv) (by decide) rfl dX6_formAt_87 ?_
            refine x_getR C fc_X0 fl_X6_109 sh_10 (by decide) rfl dX6_formAt_90 ?_
            refine x_aload_n C 2 dX6_formAt_93 rfl rfl ?_
            refine x_getR C fc_X6 fl_X6_18 (shV5 hv) (by decide) rfl dX6_formAt_94 ?_
            refine x_iload_n C 3 dX6_formAt_97 rfl rfl ?_
            obtain ⟨hi8, hF⟩ := f_chk hF
            refine x_iald C (shV8 hv) hi8 dX6_formAt_98 ?_
            obtain ⟨hi9, hF⟩ := f_chk hF
            refine x_iald C sh_12 hi9 dX6_formAt_99 ?_
            refine x_icmp_ne (tgt := 107) C dX6_formAt_100 (by decide) (fun hc => ?_) (fun hc => ?_)
            · replace hF := f_f hc hF
              refine x_iconst (v := 3) C dX6_formAt_107 (by decide) ?_
              exact x_iret C dX6_formAt_108 (Option.some.inj hF) rfl
            · replace hF := f_t hc hF
              refine x_iconst (v := 2) C dX6_formAt_103 (by decide) ?_
              refine x_goto (tgt := 108) C dX6_formAt_104 (by decide) ?_
              exact x_iret C dX6_formAt_108 (Option.some.inj hF) rfl
          · replace hF := f_t hc hF
            refine x_iconst (v := 1) C dX6_formAt_68 (by decide) ?_
            exact x_iret C dX6_formAt_69 (Option.some.inj hF) rfl
      · replace hF := f_t hc hF
        refine x_iconst (v := 0) C dX6_formAt_44 (by decide) ?_
        exact x_iret C dX6_formAt_45 (Option.some.inj hF) rfl
  · replace hF := f_f hc hF
    refine x_iload_n C 0 dX6_formAt_14 rfl rfl ?_
    refine x_iconst (v := 1) C dX6_formAt_15 (by decide) ?_
    refine x_icmp_ne (tgt := 23) C dX6_formAt_16 (by decide) (fun hc => ?_) (fun hc => ?_)
    · replace hF := f_f hc hF
      refine x_iconst (v := 5) C dX6_formAt_23 (by decide) ?_
      exact x_iret C dX6_formAt_24 (Option.some.inj hF) rfl
    · replace hF := f_t hc hF
      refine x_iconst (v := 4) C dX6_formAt_19 (by decide) ?_
      refine x_goto (tgt := 24) C dX6_formAt_20 (by decide) ?_
      exact x_iret C dX6_formAt_24 (Option.some.inj hF) rfl
set_option maxHeartbeats 4000000 in
theorem c_X6_formAt {G : Gl} (l : Launch) (hA : Ap G) {d : Nat} (hv : isV d) {r : Int32}  (x1 : Int32) (μ : Mu) (hF : f_X6_formAt d x1 μ = some r) : Mth G l yX6_formAt cX6_formAt 4 (some .int) 2 44 [.ref (G.ad (d + 5)), .int x1] (some (.int r)) μ μ := Mth.of hA (by decide) rfl (Nat.le_of_ble_eq_true rfl) (fun p e s0 m args below meth c C => w_X6_formAt C hv x1 μ hF)
set_option maxHeartbeats 4000000 in
theorem w_X6_isCited {G : Gl} {p : Program} {l : Launch} {e : Env} {s0 : State} {m : MethodId} {args : Array Value} {below : List Frame} {meth : Method} {c : Code} (C : Cx G p s0 m args meth c cX6_isCited 2 RX6 (some .boolean)) {d : Nat} (hv : isV d) {r : Int32}  (x1 : Int32) (μ : Mu) (hF : f_X6_isCited d x1 μ = some r) : X G p l e 0 0 s0 m args below meth c 2 (some (.int r)) μ μ 0 [(0, .ref (G.ad (d + 5))), (1, .int x1)] [] := by
  unfold f_X6_isCited at hF
  refine x_aload_n C 0 dX6_isCited_0 rfl rfl ?_
  refine x_getR C fc_X6 fl_X6_15 (shV5 hv) (by decide) rfl dX6_isCited_1 ?_
  refine x_iload_n C 1 dX6_isCited_4 rfl rfl ?_
  obtain ⟨hi1, hF⟩ := f_chk hF
  refine x_iald C (shV7 hv) hi1 dX6_isCited_5 ?_
  refine x_if_le (tgt := 13) C dX6_isCited_6 (by decide) (fun hc => ?_) (fun hc => ?_)
  · replace hF := f_t hc hF
    refine x_iconst (v := 0) C dX6_isCited_13 (by decide) ?_
    exact x_zret C dX6_isCited_14 (by decide) (Option.some.inj hF) rfl
  · replace hF := f_f hc hF
    refine x_iconst (v := 1) C dX6_isCited_9 (by decide) ?_
    refine x_goto (tgt := 14) C dX6_isCited_10 (by decide) ?_
    exact x_zret C dX6_isCited_14 (by decide) (Option.some.inj hF) rfl
set_option maxHeartbeats 4000000 in
theorem c_X6_isCited {G : Gl} (l : Launch) (hA : Ap G) {d : Nat} (hv : isV d) {r : Int32}  (x1 : Int32) (μ : Mu) (hF : f_X6_isCited d x1 μ = some r) : Mth G l yX6_isCited cX6_isCited 2 (some .boolean) 0 0 [.ref (G.ad (d + 5)), .int x1] (some (.int r)) μ μ := Mth.of hA (by decide) rfl (Nat.le_of_ble_eq_true rfl) (fun p e s0 m args below meth c C => w_X6_isCited C hv x1 μ hF)
set_option maxHeartbeats 4000000 in
theorem w_X6_layRow_L28 {G : Gl} {p : Program} {l : Launch} {e : Env} {s0 : State} {m : MethodId} {args : Array Value} {below : List Frame} {meth : Method} {c : Code} (C : Cx G p s0 m args meth c cX6_layRow 4 RX6 none) {d : Nat} (hv : isV d) {μf : Mu}  {k15 : Int32 → Mu → Option (Mu)} (hk15 : ∀ (x1 : Int32) (μ : Mu), k15 x1 μ = some μf → X G p l e 1 23 s0 m args below meth c 4 none μf μ 15 [(0, .ref (G.ad (d + 5))), (1, .int x1)] []) : ∀ (n : Nat) (x1 : Int32) (x2 : Int32) (μ : Mu), f_X6_layRow_L28 k15 d n x1 x2 μ = some μf → X G p l e 1 23 s0 m args below meth c 4 none μf μ 28 [(0, .ref (G.ad (d + 5))), (1, .int x1), (2, .int x2)] [] := by
  intro n
  induction n with
  | zero =>
    intro x1 x2 μ hF
    rw [f_X6_layRow_L28] at hF
    cases hF
  | succ n ih =>
    intro x1 x2 μ hF
    rw [f_X6_layRow_L28] at hF
    refine x_iload_n C 2 dX6_layRow_28 rfl rfl ?_
    refine x_aload_n C 0 dX6_layRow_29 rfl rfl ?_
    refine x_getR C fc_X6 fl_X6_57 (shV5 hv) (by decide) rfl dX6_layRow_30 ?_
    refine x_getR C fc_X1 fl_X6_112 (shD0 (isV_D hv)) (by decide) rfl dX6_layRow_33 ?_
    refine x_iload_n C 1 dX6_layRow_36 rfl rfl ?_
    obtain ⟨hi1, hF⟩ := f_chk hF
    refine x_iald C (shD2 (isV_D hv)) hi1 dX6_layRow_37 ?_
    refine x_icmp_ge (tgt := 116) C dX6_layRow_38 (by decide) (fun hc => ?_) (fun hc => ?_)
    · replace hF := f_t hc hF
      refine x_iinc C [(1, .int (x1 + 1)), (0, .ref (G.ad (d + 5))), (2, .int x2)] 1 dX6_layRow_116 rfl rfl (by decide) rfl ?_
      refine x_goto (tgt := 15) C dX6_layRow_119 (by decide) ?_
      exact x_pick [(0, .ref (G.ad (d + 5))), (1, .int (x1 + 1))] [1, 0] rfl (hk15 (x1 + 1) μ hF)
    · replace hF := f_f hc hF
      refine x_aload_n C 0 dX6_layRow_41 rfl rfl ?_
      refine x_getI C fc_X6 fl_X6_148 (shV5 hv) (by decide) rfl dX6_layRow_42 ?_
      refine x_bipush (v := 100) C dX6_layRow_45 (by decide) ?_
      refine x_icmp_ge (tgt := 116) C dX6_layRow_47 (by decide) (fun hc => ?_) (fun hc => ?_)
      · replace hF := f_t hc hF
        refine x_iinc C [(1, .int (x1 + 1)), (0, .ref (G.ad (d + 5))), (2, .int x2)] 1 dX6_layRow_116 rfl rfl (by decide) rfl ?_
        refine x_goto (tgt := 15) C dX6_layRow_119 (by decide) ?_
        exact x_pick [(0, .ref (G.ad (d + 5))), (1, .int (x1 + 1))] [1, 0] rfl (hk15 (x1 + 1) μ hF)
      · replace hF := f_f hc hF
        refine x_aload_n C 0 dX6_layRow_50 rfl rfl ?_
        refine x_getR C fc_X6 fl_X6_57 (shV5 hv) (by decide) rfl dX6_layRow_51 ?_
        refine x_iload_n C 1 dX6_layRow_54 rfl rfl ?_
        refine x_iload_n C 2 dX6_layRow_55 rfl rfl ?_
        obtain ⟨q2, hq2, hF⟩ := f_bind hF
        refine x_cVi (rest := []) C (c_X1_callAt l C.2.2.2.2.2.2.2.2 (isV_D hv) x1 x2 μ hq2) cw_X6_95 (shD0 (isV_D hv)) rfl rfl ⟨by decide, by decide⟩ rfl rfl (Nat.le_of_ble_eq_true rfl) dX6_layRow_56 ?_
        refine x_istore_n C [(3, .int q2), (0, .ref (G.ad (d + 5))), (1, .int x1), (2, .int x2)] dX6_layRow_59 rfl (by decide) rfl ?_
        refine x_aload_n C 1 dX6_layRow_60 rfl rfl ?_
        refine x_getR C fc_X6 fl_X6_18 (shV5 hv) (by decide) rfl dX6_layRow_61 ?_
        refine x_aload_n C 1 dX6_layRow_64 rfl rfl ?_
        refine x_getI C fc_X6 fl_X6_148 (shV5 hv) (by decide) rfl dX6_layRow_65 ?_
        refine x_iload_n C 0 dX6_layRow_68 rfl rfl ?_
        obtain ⟨hi3, hF⟩ := f_chk hF
        refine x_iast C (shV8 hv) hi3 dX6_layRow_69 ?_
        refine x_letM hF (fun μ4 hF => ?_)
        refine x_aload_n C 1 dX6_layRow_70 rfl rfl ?_
        refine x_getR C fc_X6 fl_X6_21 (shV5 hv) (by decide) rfl dX6_layRow_71 ?_
        refine x_aload_n C 1 dX6_layRow_74 rfl rfl ?_
        refine x_getI C fc_X6 fl_X6_148 (shV5 hv) (by decide) rfl dX6_layRow_75 ?_
        refine x_iload_n C 2 dX6_layRow_78 rfl rfl ?_
        obtain ⟨hi5, hF⟩ := f_chk hF
        refine x_iast C (shV9 hv) hi5 dX6_layRow_79 ?_
        refine x_letM hF (fun μ6 hF => ?_)
        refine x_aload_n C 1 dX6_layRow_80 rfl rfl ?_
        refine x_getR C fc_X6 fl_X6_24 (shV5 hv) (by decide) rfl dX6_layRow_81 ?_
        refine x_aload_n C 1 dX6_layRow_84 rfl rfl ?_
        refine x_getI C fc_X6 fl_X6_148 (shV5 hv) (by decide) rfl dX6_layRow_85 ?_
        refine x_iload_n C 3 dX6_layRow_88 rfl rfl ?_
        obtain ⟨hi7, hF⟩ := f_chk hF
        refine x_iast C (shV10 hv) hi7 dX6_layRow_89 ?_
        refine x_letM hF (fun μ8 hF => ?_)
        refine x_aload_n C 1 dX6_layRow_90 rfl rfl ?_
        refine x_getR C fc_X6 fl_X6_27 (shV5 hv) (by decide) rfl dX6_layRow_91 ?_
        refine x_iload_n C 0 dX6_layRow_94 rfl rfl ?_
        refine x_aload_n C 1 dX6_layRow_95 rfl rfl ?_
        refine x_getI C fc_X6 fl_X6_148 (shV5 hv) (by decide) rfl dX6_layRow_96 ?_
        obtain ⟨hi9, hF⟩ := f_chk hF
        refine x_iast C (shV11 hv) hi9 dX6_layRow_99 ?_
        refine x_letM hF (fun μ10 hF => ?_)
        refine x_aload_n C 1 dX6_layRow_100 rfl rfl ?_
        refine x_dup C dX6_layRow_101 rfl ?_
        refine x_getI C fc_X6 fl_X6_148 (shV5 hv) (by decide) rfl dX6_layRow_102 ?_
        refine x_iconst (v := 1) C dX6_layRow_105 (by decide) ?_
        refine x_iadd C dX6_layRow_106 ?_
        refine x_putI C fc_X6 fl_X6_148 (shV5 hv) (by decide) rfl rfl rfl ⟨rfl, rfl⟩ dX6_layRow_107 ?_
        refine x_letM hF (fun μ11 hF => ?_)
        refine x_iinc C [(2, .int (x2 + 1)), (3, .int q2), (0, .ref (G.ad (d + 5))), (1, .int x1)] 3 dX6_layRow_110 rfl rfl (by decide) rfl ?_
        refine x_goto (tgt := 28) C dX6_layRow_113 (by decide) ?_
        exact x_pick [(0, .ref (G.ad (d + 5))), (1, .int x1), (2, .int (x2 + 1))] [2, 3, 0] rfl (ih x1 (x2 + 1) μ11 hF)
set_option maxHeartbeats 4000000 in
theorem w_X6_layRow_L15 {G : Gl} {p : Program} {l : Launch} {e : Env} {s0 : State} {m : MethodId} {args : Array Value} {below : List Frame} {meth : Method} {c : Code} (C : Cx G p s0 m args meth c cX6_layRow 4 RX6 none) {d : Nat} (hv : isV d) {μf : Mu}  : ∀ (n : Nat) (x1 : Int32) (μ : Mu), f_X6_layRow_L15 d n x1 μ = some μf → X G p l e 1 23 s0 m args below meth c 4 none μf μ 15 [(0, .ref (G.ad (d + 5))), (1, .int x1)] [] := by
  intro n
  induction n with
  | zero =>
    intro x1 μ hF
    rw [f_X6_layRow_L15] at hF
    cases hF
  | succ n ih =>
    intro x1 μ hF
    rw [f_X6_layRow_L15] at hF
    refine x_iload_n C 1 dX6_layRow_15 rfl rfl ?_
    refine x_aload_n C 0 dX6_layRow_16 rfl rfl ?_
    refine x_getR C fc_X6 fl_X6_57 (shV5 hv) (by decide) rfl dX6_layRow_17 ?_
    refine x_getI C fc_X1 fl_X6_151 (shD0 (isV_D hv)) (by decide) rfl dX6_layRow_20 ?_
    refine x_icmp_ge (tgt := 122) C dX6_layRow_23 (by decide) (fun hc => ?_) (fun hc => ?_)
    · replace hF := f_t hc hF
      exact x_vret C dX6_layRow_122 (Option.some.inj hF)
    · replace hF := f_f hc hF
      refine x_iconst (v := 0) C dX6_layRow_26 (by decide) ?_
      refine x_istore_n C [(2, .int 0), (0, .ref (G.ad (d + 5))), (1, .int x1)] dX6_layRow_27 rfl (by decide) rfl ?_
      exact x_pick [(0, .ref (G.ad (d + 5))), (1, .int x1), (2, .int 0)] [1, 2, 0] rfl (w_X6_layRow_L28 C hv ih fu x1 0 μ hF)
set_option maxHeartbeats 4000000 in
theorem w_X6_layRow {G : Gl} {p : Program} {l : Launch} {e : Env} {s0 : State} {m : MethodId} {args : Array Value} {below : List Frame} {meth : Method} {c : Code} (C : Cx G p s0 m args meth c cX6_layRow 4 RX6 none) {d : Nat} (hv : isV d) {μf : Mu}  (μ : Mu) (hF : f_X6_layRow d μ = some μf) : X G p l e 1 23 s0 m args below meth c 4 none μf μ 0 [(0, .ref (G.ad (d + 5)))] [] := by
  unfold f_X6_layRow at hF
  refine x_aload_n C 0 dX6_layRow_0 rfl rfl ?_
  refine x_getR C fc_X6 fl_X6_27 (shV5 hv) (by decide) rfl dX6_layRow_1 ?_
  refine x_iconst (v := (-1)) C dX6_layRow_4 (by decide) ?_
  obtain ⟨q1, hq1, hF⟩ := f_bind hF
  refine x_cSv (rest := []) C (c_J7_fill_53178 l C.2.2.2.2.2.2.2.2 (shV11 hv) (-1) μ hq1) cw_X6_142 ⟨by decide, by decide⟩ rfl rfl (Nat.le_of_ble_eq_true rfl) dX6_layRow_5 ?_
  refine x_aload_n C 0 dX6_layRow_8 rfl rfl ?_
  refine x_iconst (v := 0) C dX6_layRow_9 (by decide) ?_
  refine x_putI C fc_X6 fl_X6_148 (shV5 hv) (by decide) rfl rfl rfl ⟨rfl, rfl⟩ dX6_layRow_10 ?_
  refine x_letM hF (fun μ2 hF => ?_)
  refine x_iconst (v := 0) C dX6_layRow_13 (by decide) ?_
  refine x_istore_n C [(1, .int 0), (0, .ref (G.ad (d + 5)))] dX6_layRow_14 rfl (by decide) rfl ?_
  exact x_pick [(0, .ref (G.ad (d + 5))), (1, .int 0)] [1, 0] rfl (w_X6_layRow_L15 C hv fu 0 μ2 hF)
set_option maxHeartbeats 4000000 in
theorem c_X6_layRow {G : Gl} (l : Launch) (hA : Ap G) {d : Nat} (hv : isV d) {μf : Mu}  (μ : Mu) (hF : f_X6_layRow d μ = some μf) : Mth G l yX6_layRow cX6_layRow 4 none 1 23 [.ref (G.ad (d + 5))] none μf μ := Mth.of hA (by decide) rfl (Nat.le_of_ble_eq_true rfl) (fun p e s0 m args below meth c C => w_X6_layRow C hv μ hF)
set_option maxHeartbeats 4000000 in
theorem w_X6_letteredWorks_L4 {G : Gl} {p : Program} {l : Launch} {e : Env} {s0 : State} {m : MethodId} {args : Array Value} {below : List Frame} {meth : Method} {c : Code} (C : Cx G p s0 m args meth c cX6_letteredWorks 3 RX6 (some .int)) {d : Nat} (hv : isV d) {r : Int32}  (μ : Mu) : ∀ (n : Nat) (x1 : Int32) (x2 : Int32), f_X6_letteredWorks_L4 d μ n x1 x2 = some r → X G p l e 0 0 s0 m args below meth c 3 (some (.int r)) μ μ 4 [(0, .ref (G.ad (d + 5))), (1, .int x1), (2, .int x2)] [] := by
  intro n
  induction n with
  | zero =>
    intro x1 x2 hF
    rw [f_X6_letteredWorks_L4] at hF
    cases hF
  | succ n ih =>
    intro x1 x2 hF
    rw [f_X6_letteredWorks_L4] at hF
    refine x_iload_n C 2 dX6_letteredWorks_4 rfl rfl ?_
    refine x_aload_n C 0 dX6_letteredWorks_5 rfl rfl ?_
    refine x_getI C fc_X6 fl_X6_118 (shV5 hv) (by decide) rfl dX6_letteredWorks_6 ?_
    refine x_icmp_ge (tgt := 40) C dX6_letteredWorks_9 (by decide) (fun hc => ?_) (fun hc => ?_)
    · replace hF := f_t hc hF
      refine x_iload_n C 1 dX6_letteredWorks_40 rfl rfl ?_
      exact x_iret C dX6_letteredWorks_41 (Option.some.inj hF) rfl
    · replace hF := f_f hc hF
      refine x_iload_n C 1 dX6_letteredWorks_12 rfl rfl ?_
      refine x_aload_n C 0 dX6_letteredWorks_13 rfl rfl ?_
      refine x_getR C fc_X6 fl_X6_46 (shV5 hv) (by decide) rfl dX6_letteredWorks_14 ?_
      refine x_aload_n C 0 dX6_letteredWorks_17 rfl rfl ?_
      refine x_getR C fc_X6 fl_X6_30 (shV5 hv) (by decide) rfl dX6_letteredWorks_18 ?_
      refine x_iload_n C 2 dX6_letteredWorks_21 rfl rfl ?_
      obtain ⟨hi1, hF⟩ := f_chk hF
      refine x_iald C (shV12 hv) hi1 dX6_letteredWorks_22 ?_
      obtain ⟨hi2, hF⟩ := f_chk hF
      refine x_iald C (shV17 hv) hi2 dX6_letteredWorks_23 ?_
      refine x_if_eq (tgt := 31) C dX6_letteredWorks_24 (by decide) (fun hc => ?_) (fun hc => ?_)
      · replace hF := f_t hc hF
        refine x_iconst (v := 0) C dX6_letteredWorks_31 (by decide) ?_
        refine x_iadd C dX6_letteredWorks_32 ?_
        refine x_letI hF (fun y3 hF => ?_)
        refine x_istore_n C [(1, .int y3), (0, .ref (G.ad (d + 5))), (2, .int x2)] dX6_letteredWorks_33 rfl (by decide) rfl ?_
        refine x_iinc C [(2, .int (x2 + 1)), (1, .int y3), (0, .ref (G.ad (d + 5)))] 2 dX6_letteredWorks_34 rfl rfl (by decide) rfl ?_
        refine x_goto (tgt := 4) C dX6_letteredWorks_37 (by decide) ?_
        exact x_pick [(0, .ref (G.ad (d + 5))), (1, .int y3), (2, .int (x2 + 1))] [2, 1, 0] rfl (ih y3 (x2 + 1) hF)
      · replace hF := f_f hc hF
        refine x_iconst (v := 1) C dX6_letteredWorks_27 (by decide) ?_
        refine x_goto (tgt := 32) C dX6_letteredWorks_28 (by decide) ?_
        refine x_iadd C dX6_letteredWorks_32 ?_
        refine x_letI hF (fun y4 hF => ?_)
        refine x_istore_n C [(1, .int y4), (0, .ref (G.ad (d + 5))), (2, .int x2)] dX6_letteredWorks_33 rfl (by decide) rfl ?_
        refine x_iinc C [(2, .int (x2 + 1)), (1, .int y4), (0, .ref (G.ad (d + 5)))] 2 dX6_letteredWorks_34 rfl rfl (by decide) rfl ?_
        refine x_goto (tgt := 4) C dX6_letteredWorks_37 (by decide) ?_
        exact x_pick [(0, .ref (G.ad (d + 5))), (1, .int y4), (2, .int (x2 + 1))] [2, 1, 0] rfl (ih y4 (x2 + 1) hF)
set_option maxHeartbeats 4000000 in
theorem w_X6_letteredWorks {G : Gl} {p : Program} {l : Launch} {e : Env} {s0 : State} {m : MethodId} {args : Array Value} {below : List Frame} {meth : Method} {c : Code} (C : Cx G p s0 m args meth c cX6_letteredWorks 3 RX6 (some .int)) {d : Nat} (hv : isV d) {r : Int32}  (μ : Mu) (hF : f_X6_letteredWorks d μ = some r) : X G p l e 0 0 s0 m args below meth c 3 (some (.int r)) μ μ 0 [(0, .ref (G.ad (d + 5)))] [] := by
  unfold f_X6_letteredWorks at hF
  refine x_iconst (v := 0) C dX6_letteredWorks_0 (by decide) ?_
  refine x_istore_n C [(1, .int 0), (0, .ref (G.ad (d + 5)))] dX6_letteredWorks_1 rfl (by decide) rfl ?_
  refine x_iconst (v := 0) C dX6_letteredWorks_2 (by decide) ?_
  refine x_istore_n C [(2, .int 0), (1, .int 0), (0, .ref (G.ad (d + 5)))] dX6_letteredWorks_3 rfl (by decide) rfl ?_
  exact x_pick [(0, .ref (G.ad (d + 5))), (1, .int 0), (2, .int 0)] [2, 1, 0] rfl (w_X6_letteredWorks_L4 C hv μ fu 0 0 hF)
set_option maxHeartbeats 4000000 in
theorem c_X6_letteredWorks {G : Gl} (l : Launch) (hA : Ap G) {d : Nat} (hv : isV d) {r : Int32}  (μ : Mu) (hF : f_X6_letteredWorks d μ = some r) : Mth G l yX6_letteredWorks cX6_letteredWorks 3 (some .int) 0 0 [.ref (G.ad (d + 5))] (some (.int r)) μ μ := Mth.of hA (by decide) rfl (Nat.le_of_ble_eq_true rfl) (fun p e s0 m args below meth c C => w_X6_letteredWorks C hv μ hF)
set_option maxHeartbeats 4000000 in
theorem w_X6_noteMeans_L2 {G : Gl} {p : Program} {l : Launch} {e : Env} {s0 : State} {m : MethodId} {args : Array Value} {below : List Frame} {meth : Method} {c : Code} (C : Cx G p s0 m args meth c cX6_noteMeans 4 RX6 (some .boolean)) {d : Nat} (hv : isV d) {r : Int32}  (μ : Mu) : ∀ (n : Nat) (x1 : Int32) (x2 : Int32) (x3 : Int32), f_X6_noteMeans_L2 d μ n x1 x2 x3 = some r → X G p l e 2 44 s0 m args below meth c 4 (some (.int r)) μ μ 2 [(0, .ref (G.ad (d + 5))), (1, .int x1), (2, .int x2), (3, .int x3)] [] := by
  intro n
  induction n with
  | zero =>
    intro x1 x2 x3 hF
    rw [f_X6_noteMeans_L2] at hF
    cases hF
  | succ n ih =>
    intro x1 x2 x3 hF
    rw [f_X6_noteMeans_L2] at hF
    refine x_iload_n C 3 dX6_noteMeans_2 rfl rfl ?_
    refine x_aload_n C 0 dX6_noteMeans_3 rfl rfl ?_
    refine x_getR C fc_X6 fl_X6_57 (shV5 hv) (by decide) rfl dX6_noteMeans_4 ?_
    refine x_getR C fc_X1 fl_X6_112 (shD0 (isV_D hv)) (by decide) rfl dX6_noteMeans_7 ?_
    refine x_iload_n C 1 dX6_noteMeans_10 rfl rfl ?_
    obtain ⟨hi1, hF⟩ := f_chk hF
    refine x_iald C (shD2 (isV_D hv)) hi1 dX6_noteMeans_11 ?_
    refine x_icmp_ge (tgt := 33) C dX6_noteMeans_12 (by decide) (fun hc => ?_) (fun hc => ?_)
    · replace hF := f_t hc hF
      refine x_iconst (v := 0) C dX6_noteMeans_33 (by decide) ?_
      exact x_zret C dX6_noteMeans_34 (by decide) (Option.some.inj hF) rfl
    · replace hF := f_f hc hF
      refine x_aload_n C 0 dX6_noteMeans_15 rfl rfl ?_
      refine x_iload_n C 1 dX6_noteMeans_16 rfl rfl ?_
      refine x_iload_n C 3 dX6_noteMeans_17 rfl rfl ?_
      obtain ⟨q2, hq2, hF⟩ := f_bind hF
      refine x_cVi (rest := []) C (c_X6_meantIn l C.2.2.2.2.2.2.2.2 hv x1 x3 μ hq2) cw_X6_115 (shV5 hv) rfl rfl ⟨by decide, by decide⟩ rfl rfl (Nat.le_of_ble_eq_true rfl) dX6_noteMeans_18 ?_
      refine x_iload_n C 2 dX6_noteMeans_21 rfl rfl ?_
      refine x_icmp_ne (tgt := 27) C dX6_noteMeans_22 (by decide) (fun hc => ?_) (fun hc => ?_)
      · replace hF := f_f hc hF
        refine x_iinc C [(3, .int (x3 + 1)), (0, .ref (G.ad (d + 5))), (1, .int x1), (2, .int x2)] 3 dX6_noteMeans_27 rfl rfl (by decide) rfl ?_
        refine x_goto (tgt := 2) C dX6_noteMeans_30 (by decide) ?_
        exact x_pick [(0, .ref (G.ad (d + 5))), (1, .int x1), (2, .int x2), (3, .int (x3 + 1))] [1, 2, 3, 0] rfl (ih x1 x2 (x3 + 1) hF)
      · replace hF := f_t hc hF
        refine x_iconst (v := 1) C dX6_noteMeans_25 (by decide) ?_
        exact x_zret C dX6_noteMeans_26 (by decide) (Option.some.inj hF) rfl
set_option maxHeartbeats 4000000 in
theorem w_X6_noteMeans {G : Gl} {p : Program} {l : Launch} {e : Env} {s0 : State} {m : MethodId} {args : Array Value} {below : List Frame} {meth : Method} {c : Code} (C : Cx G p s0 m args meth c cX6_noteMeans 4 RX6 (some .boolean)) {d : Nat} (hv : isV d) {r : Int32}  (x1 : Int32) (x2 : Int32) (μ : Mu) (hF : f_X6_noteMeans d x1 x2 μ = some r) : X G p l e 2 44 s0 m args below meth c 4 (some (.int r)) μ μ 0 [(0, .ref (G.ad (d + 5))), (1, .int x1), (2, .int x2)] [] := by
  unfold f_X6_noteMeans at hF
  refine x_iconst (v := 0) C dX6_noteMeans_0 (by decide) ?_
  refine x_istore_n C [(3, .int 0), (0, .ref (G.ad (d + 5))), (1, .int x1), (2, .int x2)] dX6_noteMeans_1 rfl (by decide) rfl ?_
  exact x_pick [(0, .ref (G.ad (d + 5))), (1, .int x1), (2, .int x2), (3, .int 0)] [1, 2, 3, 0] rfl (w_X6_noteMeans_L2 C hv μ fu x1 x2 0 hF)
set_option maxHeartbeats 4000000 in
theorem c_X6_noteMeans {G : Gl} (l : Launch) (hA : Ap G) {d : Nat} (hv : isV d) {r : Int32}  (x1 : Int32) (x2 : Int32) (μ : Mu) (hF : f_X6_noteMeans d x1 x2 μ = some r) : Mth G l yX6_noteMeans cX6_noteMeans 4 (some .boolean) 2 44 [.ref (G.ad (d + 5)), .int x1, .int x2] (some (.int r)) μ μ := Mth.of hA (by decide) rfl (Nat.le_of_ble_eq_true rfl) (fun p e s0 m args below meth c C => w_X6_noteMeans C hv x1 x2 μ hF)
set_option maxHeartbeats 4000000 in
theorem w_X6_sinkToPlace_b44 {G : Gl} {p : Program} {l : Launch} {e : Env} {s0 : State} {m : MethodId} {args : Array Value} {below : List Frame} {meth : Method} {c : Code} (C : Cx G p s0 m args meth c cX6_sinkToPlace 4 RX6 none) {d : Nat} (hv : isV d) {μf : Mu}  {k9 : Int32 → Int32 → Mu → Option (Mu)} (hk9 : ∀ (x2 : Int32) (x3 : Int32) (μ : Mu), k9 x2 x3 μ = some μf → X G p l e 2 66 s0 m args below meth c 4 none μf μ 9 [(0, .ref (G.ad (d + 5))), (2, .int x2), (3, .int x3)] []) (x2 : Int32) (x3 : Int32) (t1 : Int32) (t2 : Int32) (t3 : Int32) (μ : Mu) (hF : f_X6_sinkToPlace_b44 k9 d x2 x3 t1 t2 t3 μ = some μf) : X G p l e 2 66 s0 m args below meth c 4 none μf μ 44 [(0, .ref (G.ad (d + 5))), (2, .int x2), (3, .int x3)] [.int t3, .int t2, .int t1, .ref (G.ad 1)] := by
  unfold f_X6_sinkToPlace_b44 at hF
  obtain ⟨q1, hq1, hF⟩ := f_bind hF
  refine x_cVi (rest := []) C (c_X4_isAhead l C.2.2.2.2.2.2.2.2 t1 t2 t3 μ hq1) cw_X6_158 sh_1 rfl rfl ⟨by decide, by decide⟩ rfl rfl (Nat.le_of_ble_eq_true rfl) dX6_sinkToPlace_44 ?_
  refine x_if_eq (tgt := 70) C dX6_sinkToPlace_47 (by decide) (fun hc => ?_) (fun hc => ?_)
  · replace hF := f_t hc hF
    refine x_aload_n C 0 dX6_sinkToPlace_70 rfl rfl ?_
    refine x_getR C fc_X6 fl_X6_30 (shV5 hv) (by decide) rfl dX6_sinkToPlace_71 ?_
    refine x_iload_n C 2 dX6_sinkToPlace_74 rfl rfl ?_
    refine x_iload_n C 1 dX6_sinkToPlace_75 rfl rfl ?_
    obtain ⟨hi2, hF⟩ := f_chk hF
    refine x_iast C (shV12 hv) hi2 dX6_sinkToPlace_76 ?_
    refine x_letM hF (fun μ3 hF => ?_)
    exact x_vret C dX6_sinkToPlace_77 (Option.some.inj hF)
  · replace hF := f_f hc hF
    refine x_aload_n C 0 dX6_sinkToPlace_50 rfl rfl ?_
    refine x_getR C fc_X6 fl_X6_30 (shV5 hv) (by decide) rfl dX6_sinkToPlace_51 ?_
    refine x_iload_n C 2 dX6_sinkToPlace_54 rfl rfl ?_
    refine x_aload_n C 0 dX6_sinkToPlace_55 rfl rfl ?_
    refine x_getR C fc_X6 fl_X6_30 (shV5 hv) (by decide) rfl dX6_sinkToPlace_56 ?_
    refine x_iload_n C 2 dX6_sinkToPlace_59 rfl rfl ?_
    refine x_iconst (v := 1) C dX6_sinkToPlace_60 (by decide) ?_
    refine x_isub C dX6_sinkToPlace_61 ?_
    obtain ⟨hi4, hF⟩ := f_chk hF
    refine x_iald C (shV12 hv) hi4 dX6_sinkToPlace_62 ?_
    obtain ⟨hi5, hF⟩ := f_chk hF
    refine x_iast C (shV12 hv) hi5 dX6_sinkToPlace_63 ?_
    refine x_letM hF (fun μ6 hF => ?_)
    refine x_iinc C [(3, .int (x3 + (-1))), (0, .ref (G.ad (d + 5))), (2, .int x2)] 2 dX6_sinkToPlace_64 rfl rfl (by decide) rfl ?_
    refine x_goto (tgt := 9) C dX6_sinkToPlace_67 (by decide) ?_
    exact x_pick [(0, .ref (G.ad (d + 5))), (2, .int x2), (3, .int (x3 + (-1)))] [1, 2, 0] rfl (hk9 x2 (x3 + (-1)) μ6 hF)
set_option maxHeartbeats 4000000 in
theorem w_X6_sinkToPlace_L9 {G : Gl} {p : Program} {l : Launch} {e : Env} {s0 : State} {m : MethodId} {args : Array Value} {below : List Frame} {meth : Method} {c : Code} (C : Cx G p s0 m args meth c cX6_sinkToPlace 4 RX6 none) {d : Nat} (hv : isV d) {μf : Mu}  : ∀ (n : Nat) (x2 : Int32) (x3 : Int32) (μ : Mu), f_X6_sinkToPlace_L9 d n x2 x3 μ = some μf → X G p l e 2 66 s0 m args below meth c 4 none μf μ 9 [(0, .ref (G.ad (d + 5))), (2, .int x2), (3, .int x3)] [] := by
  intro n
  induction n with
  | zero =>
    intro x2 x3 μ hF
    rw [f_X6_sinkToPlace_L9] at hF
    cases hF
  | succ n ih =>
    intro x2 x3 μ hF
    rw [f_X6_sinkToPlace_L9] at hF
    refine x_iload_n C 2 dX6_sinkToPlace_9 rfl rfl ?_
    refine x_if_le (tgt := 70) C dX6_sinkToPlace_10 (by decide) (fun hc => ?_) (fun hc => ?_)
    · replace hF := f_t hc hF
      refine x_aload_n C 0 dX6_sinkToPlace_70 rfl rfl ?_
      refine x_getR C fc_X6 fl_X6_30 (shV5 hv) (by decide) rfl dX6_sinkToPlace_71 ?_
      refine x_iload_n C 2 dX6_sinkToPlace_74 rfl rfl ?_
      refine x_iload_n C 1 dX6_sinkToPlace_75 rfl rfl ?_
      obtain ⟨hi1, hF⟩ := f_chk hF
      refine x_iast C (shV12 hv) hi1 dX6_sinkToPlace_76 ?_
      refine x_letM hF (fun μ2 hF => ?_)
      exact x_vret C dX6_sinkToPlace_77 (Option.some.inj hF)
    · replace hF := f_f hc hF
      refine x_aload_n C 0 dX6_sinkToPlace_13 rfl rfl ?_
      refine x_getR C fc_X6 fl_X6_49 (shV5 hv) (by decide) rfl dX6_sinkToPlace_14 ?_
      refine x_iload_n C 1 dX6_sinkToPlace_17 rfl rfl ?_
      refine x_aload_n C 0 dX6_sinkToPlace_18 rfl rfl ?_
      refine x_getR C fc_X6 fl_X6_30 (shV5 hv) (by decide) rfl dX6_sinkToPlace_19 ?_
      refine x_iload_n C 2 dX6_sinkToPlace_22 rfl rfl ?_
      refine x_iconst (v := 1) C dX6_sinkToPlace_23 (by decide) ?_
      refine x_isub C dX6_sinkToPlace_24 ?_
      obtain ⟨hi3, hF⟩ := f_chk hF
      refine x_iald C (shV12 hv) hi3 dX6_sinkToPlace_25 ?_
      refine x_aload_n C 0 dX6_sinkToPlace_26 rfl rfl ?_
      refine x_getR C fc_X6 fl_X6_57 (shV5 hv) (by decide) rfl dX6_sinkToPlace_27 ?_
      refine x_getR C fc_X1 fl_X6_82 (shD0 (isV_D hv)) (by decide) rfl dX6_sinkToPlace_30 ?_
      refine x_iconst (v := 1) C dX6_sinkToPlace_33 (by decide) ?_
      refine x_iald C (shD4 (isV_D hv)) (by decide) dX6_sinkToPlace_34 ?_
      refine x_iconst (v := 2) C dX6_sinkToPlace_35 (by decide) ?_
      refine x_icmp_ne (tgt := 43) C dX6_sinkToPlace_36 (by decide) (fun hc => ?_) (fun hc => ?_)
      · replace hF := f_f hc hF
        refine x_iconst (v := 0) C dX6_sinkToPlace_43 (by decide) ?_
        exact x_pick [(0, .ref (G.ad (d + 5))), (2, .int x2), (3, .int x3)] [0, 1, 2] rfl (w_X6_sinkToPlace_b44 C hv ih x2 x3 x2 (μ (d + 12) (ix (x3 - 1))) 0 μ hF)
      · replace hF := f_t hc hF
        refine x_iconst (v := 1) C dX6_sinkToPlace_39 (by decide) ?_
        refine x_goto (tgt := 44) C dX6_sinkToPlace_40 (by decide) ?_
        exact x_pick [(0, .ref (G.ad (d + 5))), (2, .int x2), (3, .int x3)] [0, 1, 2] rfl (w_X6_sinkToPlace_b44 C hv ih x2 x3 x2 (μ (d + 12) (ix (x3 - 1))) 1 μ hF)
set_option maxHeartbeats 4000000 in
theorem w_X6_sinkToPlace {G : Gl} {p : Program} {l : Launch} {e : Env} {s0 : State} {m : MethodId} {args : Array Value} {below : List Frame} {meth : Method} {c : Code} (C : Cx G p s0 m args meth c cX6_sinkToPlace 4 RX6 none) {d : Nat} (hv : isV d) {μf : Mu}  (x1 : Int32) (μ : Mu) (hF : f_X6_sinkToPlace d x1 μ = some μf) : X G p l e 2 66 s0 m args below meth c 4 none μf μ 0 [(0, .ref (G.ad (d + 5))), (1, .int x1)] [] := by
  unfold f_X6_sinkToPlace at hF
  refine x_aload_n C 0 dX6_sinkToPlace_0 rfl rfl ?_
  refine x_getR C fc_X6 fl_X6_30 (shV5 hv) (by decide) rfl dX6_sinkToPlace_1 ?_
  refine x_iload_n C 1 dX6_sinkToPlace_4 rfl rfl ?_
  obtain ⟨hi1, hF⟩ := f_chk hF
  refine x_iald C (shV12 hv) hi1 dX6_sinkToPlace_5 ?_
  refine x_letI hF (fun y2 hF => ?_)
  refine x_istore_n C [(2, .int y2), (0, .ref (G.ad (d + 5))), (1, .int x1)] dX6_sinkToPlace_6 rfl (by decide) rfl ?_
  refine x_iload_n C 2 dX6_sinkToPlace_7 rfl rfl ?_
  refine x_istore_n C [(3, .int x1), (2, .int y2), (0, .ref (G.ad (d + 5))), (1, .int x1)] dX6_sinkToPlace_8 rfl (by decide) rfl ?_
  exact x_pick [(0, .ref (G.ad (d + 5))), (2, .int y2), (3, .int x1)] [2, 1, 0] rfl (w_X6_sinkToPlace_L9 C hv fu y2 x1 μ hF)
set_option maxHeartbeats 4000000 in
theorem c_X6_sinkToPlace {G : Gl} (l : Launch) (hA : Ap G) {d : Nat} (hv : isV d) {μf : Mu}  (x1 : Int32) (μ : Mu) (hF : f_X6_sinkToPlace d x1 μ = some μf) : Mth G l yX6_sinkToPlace cX6_sinkToPlace 4 none 2 66 [.ref (G.ad (d + 5)), .int x1] none μf μ := Mth.of hA (by decide) rfl (Nat.le_of_ble_eq_true rfl) (fun p e s0 m args below meth c C => w_X6_sinkToPlace C hv x1 μ hF)
set_option maxHeartbeats 4000000 in
theorem w_X6_sortList_L35 {G : Gl} {p : Program} {l : Launch} {e : Env} {s0 : State} {m : MethodId} {args : Array Value} {below : List Frame} {meth : Method} {c : Code} (C : Cx G p s0 m args meth c cX6_sortList 2 RX6 none) {d : Nat} (hv : isV d) {μf : Mu}  : ∀ (n : Nat) (x1 : Int32) (μ : Mu), f_X6_sortList_L35 d n x1 μ = some μf → X G p l e 3 89 s0 m args below meth c 2 none μf μ 35 [(0, .ref (G.ad (d + 5))), (1, .int x1)] [] := by
  intro n
  induction n with
  | zero =>
    intro x1 μ hF
    rw [f_X6_sortList_L35] at hF
    cases hF
  | succ n ih =>
    intro x1 μ hF
    rw [f_X6_sortList_L35] at hF
    refine x_iload_n C 1 dX6_sortList_35 rfl rfl ?_
    refine x_aload_n C 0 dX6_sortList_36 rfl rfl ?_
    refine x_getI C fc_X6 fl_X6_118 (shV5 hv) (by decide) rfl dX6_sortList_37 ?_
    refine x_icmp_ge (tgt := 63) C dX6_sortList_40 (by decide) (fun hc => ?_) (fun hc => ?_)
    · replace hF := f_t hc hF
      exact x_vret C dX6_sortList_63 (Option.some.inj hF)
    · replace hF := f_f hc hF
      refine x_aload_n C 0 dX6_sortList_43 rfl rfl ?_
      refine x_getR C fc_X6 fl_X6_33 (shV5 hv) (by decide) rfl dX6_sortList_44 ?_
      refine x_aload_n C 0 dX6_sortList_47 rfl rfl ?_
      refine x_getR C fc_X6 fl_X6_30 (shV5 hv) (by decide) rfl dX6_sortList_48 ?_
      refine x_iload_n C 1 dX6_sortList_51 rfl rfl ?_
      obtain ⟨hi1, hF⟩ := f_chk hF
      refine x_iald C (shV12 hv) hi1 dX6_sortList_52 ?_
      refine x_iload_n C 1 dX6_sortList_53 rfl rfl ?_
      refine x_iconst (v := 1) C dX6_sortList_54 (by decide) ?_
      refine x_iadd C dX6_sortList_55 ?_
      obtain ⟨hi2, hF⟩ := f_chk hF
      refine x_iast C (shV13 hv) hi2 dX6_sortList_56 ?_
      refine x_letM hF (fun μ3 hF => ?_)
      refine x_iinc C [(1, .int (x1 + 1)), (0, .ref (G.ad (d + 5)))] 1 dX6_sortList_57 rfl rfl (by decide) rfl ?_
      refine x_goto (tgt := 35) C dX6_sortList_60 (by decide) ?_
      exact x_pick [(0, .ref (G.ad (d + 5))), (1, .int (x1 + 1))] [1, 0] rfl (ih (x1 + 1) μ3 hF)
set_option maxHeartbeats 4000000 in
theorem w_X6_sortList_L14 {G : Gl} {p : Program} {l : Launch} {e : Env} {s0 : State} {m : MethodId} {args : Array Value} {below : List Frame} {meth : Method} {c : Code} (C : Cx G p s0 m args meth c cX6_sortList 2 RX6 none) {d : Nat} (hv : isV d) {μf : Mu}  : ∀ (n : Nat) (x1 : Int32) (μ : Mu), f_X6_sortList_L14 d n x1 μ = some μf → X G p l e 3 89 s0 m args below meth c 2 none μf μ 14 [(0, .ref (G.ad (d + 5))), (1, .int x1)] [] := by
  intro n
  induction n with
  | zero =>
    intro x1 μ hF
    rw [f_X6_sortList_L14] at hF
    cases hF
  | succ n ih =>
    intro x1 μ hF
    rw [f_X6_sortList_L14] at hF
    refine x_iload_n C 1 dX6_sortList_14 rfl rfl ?_
    refine x_aload_n C 0 dX6_sortList_15 rfl rfl ?_
    refine x_getI C fc_X6 fl_X6_118 (shV5 hv) (by decide) rfl dX6_sortList_16 ?_
    refine x_icmp_ge (tgt := 33) C dX6_sortList_19 (by decide) (fun hc => ?_) (fun hc => ?_)
    · replace hF := f_t hc hF
      refine x_iconst (v := 0) C dX6_sortList_33 (by decide) ?_
      refine x_istore_n C [(1, .int 0), (0, .ref (G.ad (d + 5)))] dX6_sortList_34 rfl (by decide) rfl ?_
      exact x_pick [(0, .ref (G.ad (d + 5))), (1, .int 0)] [1, 0] rfl (w_X6_sortList_L35 C hv fu 0 μ hF)
    · replace hF := f_f hc hF
      refine x_aload_n C 0 dX6_sortList_22 rfl rfl ?_
      refine x_iload_n C 1 dX6_sortList_23 rfl rfl ?_
      obtain ⟨q1, hq1, hF⟩ := f_bind hF
      refine x_cVv (rest := []) C (c_X6_sinkToPlace l C.2.2.2.2.2.2.2.2 hv x1 μ hq1) cw_X6_154 (shV5 hv) rfl rfl ⟨by decide, by decide⟩ rfl rfl (Nat.le_of_ble_eq_true rfl) dX6_sortList_24 ?_
      refine x_iinc C [(1, .int (x1 + 1)), (0, .ref (G.ad (d + 5)))] 1 dX6_sortList_27 rfl rfl (by decide) rfl ?_
      refine x_goto (tgt := 14) C dX6_sortList_30 (by decide) ?_
      exact x_pick [(0, .ref (G.ad (d + 5))), (1, .int (x1 + 1))] [1, 0] rfl (ih (x1 + 1) q1 hF)
set_option maxHeartbeats 4000000 in
theorem w_X6_sortList {G : Gl} {p : Program} {l : Launch} {e : Env} {s0 : State} {m : MethodId} {args : Array Value} {below : List Frame} {meth : Method} {c : Code} (C : Cx G p s0 m args meth c cX6_sortList 2 RX6 none) {d : Nat} (hv : isV d) {μf : Mu}  (μ : Mu) (hF : f_X6_sortList d μ = some μf) : X G p l e 3 89 s0 m args below meth c 2 none μf μ 0 [(0, .ref (G.ad (d + 5)))] [] := by
  unfold f_X6_sortList at hF
  refine x_aload_n C 0 dX6_sortList_0 rfl rfl ?_
  refine x_getR C fc_X6 fl_X6_57 (shV5 hv) (by decide) rfl dX6_sortList_1 ?_
  refine x_getR C fc_X1 fl_X6_82 (shD0 (isV_D hv)) (by decide) rfl dX6_sortList_4 ?_
  refine x_iconst (v := 1) C dX6_sortList_7 (by decide) ?_
  refine x_iald C (shD4 (isV_D hv)) (by decide) dX6_sortList_8 ?_
  refine x_if_eq (tgt := 33) C dX6_sortList_9 (by decide) (fun hc => ?_) (fun hc => ?_)
  · replace hF := f_t hc hF
    refine x_iconst (v := 0) C dX6_sortList_33 (by decide) ?_
    refine x_istore_n C [(1, .int 0), (0, .ref (G.ad (d + 5)))] dX6_sortList_34 rfl (by decide) rfl ?_
    exact x_pick [(0, .ref (G.ad (d + 5))), (1, .int 0)] [1, 0] rfl (w_X6_sortList_L35 C hv fu 0 μ hF)
  · replace hF := f_f hc hF
    refine x_iconst (v := 1) C dX6_sortList_12 (by decide) ?_
    refine x_istore_n C [(1, .int 1), (0, .ref (G.ad (d + 5)))] dX6_sortList_13 rfl (by decide) rfl ?_
    exact x_pick [(0, .ref (G.ad (d + 5))), (1, .int 1)] [1, 0] rfl (w_X6_sortList_L14 C hv fu 1 μ hF)
set_option maxHeartbeats 4000000 in
theorem c_X6_sortList {G : Gl} (l : Launch) (hA : Ap G) {d : Nat} (hv : isV d) {μf : Mu}  (μ : Mu) (hF : f_X6_sortList d μ = some μf) : Mth G l yX6_sortList cX6_sortList 2 none 3 89 [.ref (G.ad (d + 5))] none μf μ := Mth.of hA (by decide) rfl (Nat.le_of_ble_eq_true rfl) (fun p e s0 m args below meth c C => w_X6_sortList C hv μ hF)
set_option maxHeartbeats 4000000 in
theorem w_X6_settle_L2 {G : Gl} {p : Program} {l : Launch} {e : Env} {s0 : State} {m : MethodId} {args : Array Value} {below : List Frame} {meth : Method} {c : Code} (C : Cx G p s0 m args meth c cX6_settle 2 RX6 none) {d : Nat} (hv : isV d) {μf : Mu}  : ∀ (n : Nat) (x1 : Int32) (μ : Mu), f_X6_settle_L2 d n x1 μ = some μf → X G p l e 4 110 s0 m args below meth c 2 none μf μ 2 [(0, .ref (G.ad (d + 5))), (1, .int x1)] [] := by
  intro n
  induction n with
  | zero =>
    intro x1 μ hF
    rw [f_X6_settle_L2] at hF
    cases hF
  | succ n ih =>
    intro x1 μ hF
    rw [f_X6_settle_L2] at hF
    refine x_iload_n C 1 dX6_settle_2 rfl rfl ?_
    refine x_aload_n C 0 dX6_settle_3 rfl rfl ?_
    refine x_getR C fc_X6 fl_X6_49 (shV5 hv) (by decide) rfl dX6_settle_4 ?_
    refine x_getI C fc_X4 fl_X6_61 sh_1 (by decide) rfl dX6_settle_7 ?_
    refine x_icmp_ge (tgt := 40) C dX6_settle_10 (by decide) (fun hc => ?_) (fun hc => ?_)
    · replace hF := f_t hc hF
      refine x_aload_n C 0 dX6_settle_40 rfl rfl ?_
      obtain ⟨q1, hq1, hF⟩ := f_bind hF
      refine x_cVv (rest := []) C (c_X6_layRow l C.2.2.2.2.2.2.2.2 hv μ hq1) cw_X6_73 (shV5 hv) rfl rfl ⟨by decide, by decide⟩ rfl rfl (Nat.le_of_ble_eq_true rfl) dX6_settle_41 ?_
      refine x_aload_n C 0 dX6_settle_44 rfl rfl ?_
      obtain ⟨q2, hq2, hF⟩ := f_bind hF
      refine x_cVv (rest := []) C (c_X6_findCited l C.2.2.2.2.2.2.2.2 hv q1 hq2) cw_X6_76 (shV5 hv) rfl rfl ⟨by decide, by decide⟩ rfl rfl (Nat.le_of_ble_eq_true rfl) dX6_settle_45 ?_
      refine x_aload_n C 0 dX6_settle_48 rfl rfl ?_
      obtain ⟨q3, hq3, hF⟩ := f_bind hF
      refine x_cVv (rest := []) C (c_X6_sortList l C.2.2.2.2.2.2.2.2 hv q2 hq3) cw_X6_79 (shV5 hv) rfl rfl ⟨by decide, by decide⟩ rfl rfl (Nat.le_of_ble_eq_true rfl) dX6_settle_49 ?_
      refine x_aload_n C 0 dX6_settle_52 rfl rfl ?_
      refine x_aload_n C 0 dX6_settle_53 rfl rfl ?_
      refine x_getR C fc_X6 fl_X6_57 (shV5 hv) (by decide) rfl dX6_settle_54 ?_
      refine x_getR C fc_X1 fl_X6_82 (shD0 (isV_D hv)) (by decide) rfl dX6_settle_57 ?_
      obtain ⟨q4, hq4, hF⟩ := f_bind hF
      refine x_cVv (rest := []) C (c_X6_present l C.2.2.2.2.2.2.2.2 hv (shD4 (isV_D hv)) q3 hq4) cw_X6_85 (shV5 hv) rfl rfl ⟨by decide, by decide⟩ rfl rfl (Nat.le_of_ble_eq_true rfl) dX6_settle_60 ?_
      exact x_vret C dX6_settle_63 (Option.some.inj hF)
    · replace hF := f_f hc hF
      refine x_aload_n C 0 dX6_settle_13 rfl rfl ?_
      refine x_getR C fc_X6 fl_X6_9 (shV5 hv) (by decide) rfl dX6_settle_14 ?_
      refine x_iload_n C 1 dX6_settle_17 rfl rfl ?_
      refine x_aload_n C 0 dX6_settle_18 rfl rfl ?_
      refine x_getR C fc_X6 fl_X6_57 (shV5 hv) (by decide) rfl dX6_settle_19 ?_
      refine x_iload_n C 1 dX6_settle_22 rfl rfl ?_
      obtain ⟨q5, hq5, hF⟩ := f_bind hF
      refine x_cVi (rest := [.int x1, .ref (G.ad (d + 6))]) C (c_X1_meantAs l C.2.2.2.2.2.2.2.2 (isV_D hv) x1 μ hq5) cw_X6_67 (shD0 (isV_D hv)) rfl rfl ⟨by decide, by decide⟩ rfl rfl (Nat.le_of_ble_eq_true rfl) dX6_settle_23 ?_
      obtain ⟨hi6, hF⟩ := f_chk hF
      refine x_iast C (shV6 hv) hi6 dX6_settle_26 ?_
      refine x_letM hF (fun μ7 hF => ?_)
      refine x_aload_n C 0 dX6_settle_27 rfl rfl ?_
      refine x_getR C fc_X6 fl_X6_15 (shV5 hv) (by decide) rfl dX6_settle_28 ?_
      refine x_iload_n C 1 dX6_settle_31 rfl rfl ?_
      refine x_iconst (v := 0) C dX6_settle_32 (by decide) ?_
      refine x_iast C (shV7 hv) hi6 dX6_settle_33 ?_
      refine x_letM hF (fun μ8 hF => ?_)
      refine x_iinc C [(1, .int (x1 + 1)), (0, .ref (G.ad (d + 5)))] 1 dX6_settle_34 rfl rfl (by decide) rfl ?_
      refine x_goto (tgt := 2) C dX6_settle_37 (by decide) ?_
      exact x_pick [(0, .ref (G.ad (d + 5))), (1, .int (x1 + 1))] [1, 0] rfl (ih (x1 + 1) μ8 hF)
set_option maxHeartbeats 4000000 in
theorem w_X6_settle {G : Gl} {p : Program} {l : Launch} {e : Env} {s0 : State} {m : MethodId} {args : Array Value} {below : List Frame} {meth : Method} {c : Code} (C : Cx G p s0 m args meth c cX6_settle 2 RX6 none) {d : Nat} (hv : isV d) {μf : Mu}  (μ : Mu) (hF : f_X6_settle d μ = some μf) : X G p l e 4 110 s0 m args below meth c 2 none μf μ 0 [(0, .ref (G.ad (d + 5)))] [] := by
  unfold f_X6_settle at hF
  refine x_iconst (v := 0) C dX6_settle_0 (by decide) ?_
  refine x_istore_n C [(1, .int 0), (0, .ref (G.ad (d + 5)))] dX6_settle_1 rfl (by decide) rfl ?_
  exact x_pick [(0, .ref (G.ad (d + 5))), (1, .int 0)] [1, 0] rfl (w_X6_settle_L2 C hv fu 0 μ hF)
set_option maxHeartbeats 4000000 in
theorem c_X6_settle {G : Gl} (l : Launch) (hA : Ap G) {d : Nat} (hv : isV d) {μf : Mu}  (μ : Mu) (hF : f_X6_settle d μ = some μf) : Mth G l yX6_settle cX6_settle 2 none 4 110 [.ref (G.ad (d + 5))] none μf μ := Mth.of hA (by decide) rfl (Nat.le_of_ble_eq_true rfl) (fun p e s0 m args below meth c C => w_X6_settle C hv μ hF)
set_option maxHeartbeats 4000000 in
theorem w_X6_stands {G : Gl} {p : Program} {l : Launch} {e : Env} {s0 : State} {m : MethodId} {args : Array Value} {below : List Frame} {meth : Method} {c : Code} (C : Cx G p s0 m args meth c cX6_stands 2 RX6 (some .boolean)) {d : Nat} (hv : isV d) {r : Int32}  (x1 : Int32) (μ : Mu) (hF : f_X6_stands d x1 μ = some r) : X G p l e 0 0 s0 m args below meth c 2 (some (.int r)) μ μ 0 [(0, .ref (G.ad (d + 5))), (1, .int x1)] [] := by
  unfold f_X6_stands at hF
  refine x_iload_n C 1 dX6_stands_0 rfl rfl ?_
  refine x_if_lt (tgt := 29) C dX6_stands_1 (by decide) (fun hc => ?_) (fun hc => ?_)
  · replace hF := f_t hc hF
    refine x_iconst (v := 0) C dX6_stands_29 (by decide) ?_
    exact x_zret C dX6_stands_30 (by decide) (Option.some.inj hF) rfl
  · replace hF := f_f hc hF
    refine x_iload_n C 1 dX6_stands_4 rfl rfl ?_
    refine x_aload_n C 0 dX6_stands_5 rfl rfl ?_
    refine x_getR C fc_X6 fl_X6_53 (shV5 hv) (by decide) rfl dX6_stands_6 ?_
    refine x_getI C fc_X0 fl_X6_89 sh_10 (by decide) rfl dX6_stands_9 ?_
    refine x_icmp_ge (tgt := 29) C dX6_stands_12 (by decide) (fun hc => ?_) (fun hc => ?_)
    · replace hF := f_t hc hF
      refine x_iconst (v := 0) C dX6_stands_29 (by decide) ?_
      exact x_zret C dX6_stands_30 (by decide) (Option.some.inj hF) rfl
    · replace hF := f_f hc hF
      refine x_aload_n C 0 dX6_stands_15 rfl rfl ?_
      refine x_getR C fc_X6 fl_X6_27 (shV5 hv) (by decide) rfl dX6_stands_16 ?_
      refine x_iload_n C 1 dX6_stands_19 rfl rfl ?_
      obtain ⟨hi1, hF⟩ := f_chk hF
      refine x_iald C (shV11 hv) hi1 dX6_stands_20 ?_
      refine x_iconst (v := (-1)) C dX6_stands_21 (by decide) ?_
      refine x_icmp_eq (tgt := 29) C dX6_stands_22 (by decide) (fun hc => ?_) (fun hc => ?_)
      · replace hF := f_t hc hF
        refine x_iconst (v := 0) C dX6_stands_29 (by decide) ?_
        exact x_zret C dX6_stands_30 (by decide) (Option.some.inj hF) rfl
      · replace hF := f_f hc hF
        refine x_iconst (v := 1) C dX6_stands_25 (by decide) ?_
        refine x_goto (tgt := 30) C dX6_stands_26 (by decide) ?_
        exact x_zret C dX6_stands_30 (by decide) (Option.some.inj hF) rfl
set_option maxHeartbeats 4000000 in
theorem c_X6_stands {G : Gl} (l : Launch) (hA : Ap G) {d : Nat} (hv : isV d) {r : Int32}  (x1 : Int32) (μ : Mu) (hF : f_X6_stands d x1 μ = some r) : Mth G l yX6_stands cX6_stands 2 (some .boolean) 0 0 [.ref (G.ad (d + 5)), .int x1] (some (.int r)) μ μ := Mth.of hA (by decide) rfl (Nat.le_of_ble_eq_true rfl) (fun p e s0 m args below meth c C => w_X6_stands C hv x1 μ hF)
set_option maxHeartbeats 4000000 in
theorem w_X6_worksCalled_L4 {G : Gl} {p : Program} {l : Launch} {e : Env} {s0 : State} {m : MethodId} {args : Array Value} {below : List Frame} {meth : Method} {c : Code} (C : Cx G p s0 m args meth c cX6_worksCalled 4 RX6 (some .int)) {d : Nat} (hv : isV d) {r : Int32}  (μ : Mu) : ∀ (n : Nat) (x1 : Int32) (x2 : Int32) (x3 : Int32), f_X6_worksCalled_L4 d μ n x1 x2 x3 = some r → X G p l e 0 0 s0 m args below meth c 4 (some (.int r)) μ μ 4 [(0, .ref (G.ad (d + 5))), (1, .int x1), (2, .int x2), (3, .int x3)] [] := by
  intro n
  induction n with
  | zero =>
    intro x1 x2 x3 hF
    rw [f_X6_worksCalled_L4] at hF
    cases hF
  | succ n ih =>
    intro x1 x2 x3 hF
    rw [f_X6_worksCalled_L4] at hF
    refine x_iload_n C 3 dX6_worksCalled_4 rfl rfl ?_
    refine x_aload_n C 0 dX6_worksCalled_5 rfl rfl ?_
    refine x_getI C fc_X6 fl_X6_118 (shV5 hv) (by decide) rfl dX6_worksCalled_6 ?_
    refine x_icmp_ge (tgt := 41) C dX6_worksCalled_9 (by decide) (fun hc => ?_) (fun hc => ?_)
    · replace hF := f_t hc hF
      refine x_iload_n C 2 dX6_worksCalled_41 rfl rfl ?_
      exact x_iret C dX6_worksCalled_42 (Option.some.inj hF) rfl
    · replace hF := f_f hc hF
      refine x_iload_n C 2 dX6_worksCalled_12 rfl rfl ?_
      refine x_aload_n C 0 dX6_worksCalled_13 rfl rfl ?_
      refine x_getR C fc_X6 fl_X6_15 (shV5 hv) (by decide) rfl dX6_worksCalled_14 ?_
      refine x_aload_n C 0 dX6_worksCalled_17 rfl rfl ?_
      refine x_getR C fc_X6 fl_X6_30 (shV5 hv) (by decide) rfl dX6_worksCalled_18 ?_
      refine x_iload_n C 3 dX6_worksCalled_21 rfl rfl ?_
      obtain ⟨hi1, hF⟩ := f_chk hF
      refine x_iald C (shV12 hv) hi1 dX6_worksCalled_22 ?_
      obtain ⟨hi2, hF⟩ := f_chk hF
      refine x_iald C (shV7 hv) hi2 dX6_worksCalled_23 ?_
      refine x_iload_n C 1 dX6_worksCalled_24 rfl rfl ?_
      refine x_icmp_lt (tgt := 32) C dX6_worksCalled_25 (by decide) (fun hc => ?_) (fun hc => ?_)
      · replace hF := f_t hc hF
        refine x_iconst (v := 0) C dX6_worksCalled_32 (by decide) ?_
        refine x_iadd C dX6_worksCalled_33 ?_
        refine x_letI hF (fun y3 hF => ?_)
        refine x_istore_n C [(2, .int y3), (0, .ref (G.ad (d + 5))), (1, .int x1), (3, .int x3)] dX6_worksCalled_34 rfl (by decide) rfl ?_
        refine x_iinc C [(3, .int (x3 + 1)), (2, .int y3), (0, .ref (G.ad (d + 5))), (1, .int x1)] 3 dX6_worksCalled_35 rfl rfl (by decide) rfl ?_
        refine x_goto (tgt := 4) C dX6_worksCalled_38 (by decide) ?_
        exact x_pick [(0, .ref (G.ad (d + 5))), (1, .int x1), (2, .int y3), (3, .int (x3 + 1))] [2, 3, 1, 0] rfl (ih x1 y3 (x3 + 1) hF)
      · replace hF := f_f hc hF
        refine x_iconst (v := 1) C dX6_worksCalled_28 (by decide) ?_
        refine x_goto (tgt := 33) C dX6_worksCalled_29 (by decide) ?_
        refine x_iadd C dX6_worksCalled_33 ?_
        refine x_letI hF (fun y4 hF => ?_)
        refine x_istore_n C [(2, .int y4), (0, .ref (G.ad (d + 5))), (1, .int x1), (3, .int x3)] dX6_worksCalled_34 rfl (by decide) rfl ?_
        refine x_iinc C [(3, .int (x3 + 1)), (2, .int y4), (0, .ref (G.ad (d + 5))), (1, .int x1)] 3 dX6_worksCalled_35 rfl rfl (by decide) rfl ?_
        refine x_goto (tgt := 4) C dX6_worksCalled_38 (by decide) ?_
        exact x_pick [(0, .ref (G.ad (d + 5))), (1, .int x1), (2, .int y4), (3, .int (x3 + 1))] [2, 3, 1, 0] rfl (ih x1 y4 (x3 + 1) hF)
set_option maxHeartbeats 4000000 in
theorem w_X6_worksCalled {G : Gl} {p : Program} {l : Launch} {e : Env} {s0 : State} {m : MethodId} {args : Array Value} {below : List Frame} {meth : Method} {c : Code} (C : Cx G p s0 m args meth c cX6_worksCalled 4 RX6 (some .int)) {d : Nat} (hv : isV d) {r : Int32}  (x1 : Int32) (μ : Mu) (hF : f_X6_worksCalled d x1 μ = some r) : X G p l e 0 0 s0 m args below meth c 4 (some (.int r)) μ μ 0 [(0, .ref (G.ad (d + 5))), (1, .int x1)] [] := by
  unfold f_X6_worksCalled at hF
  refine x_iconst (v := 0) C dX6_worksCalled_0 (by decide) ?_
  refine x_istore_n C [(2, .int 0), (0, .ref (G.ad (d + 5))), (1, .int x1)] dX6_worksCalled_1 rfl (by decide) rfl ?_
  refine x_iconst (v := 0) C dX6_worksCalled_2 (by decide) ?_
  refine x_istore_n C [(3, .int 0), (2, .int 0), (0, .ref (G.ad (d + 5))), (1, .int x1)] dX6_worksCalled_3 rfl (by decide) rfl ?_
  exact x_pick [(0, .ref (G.ad (d + 5))), (1, .int x1), (2, .int 0), (3, .int 0)] [2, 3, 1, 0] rfl (w_X6_worksCalled_L4 C hv μ fu x1 0 0 hF)
set_option maxHeartbeats 4000000 in
theorem c_X6_worksCalled {G : Gl} (l : Launch) (hA : Ap G) {d : Nat} (hv : isV d) {r : Int32}  (x1 : Int32) (μ : Mu) (hF : f_X6_worksCalled d x1 μ = some r) : Mth G l yX6_worksCalled cX6_worksCalled 4 (some .int) 0 0 [.ref (G.ad (d + 5)), .int x1] (some (.int r)) μ μ := Mth.of hA (by decide) rfl (Nat.le_of_ble_eq_true rfl) (fun p e s0 m args below meth c C => w_X6_worksCalled C hv x1 μ hF)
set_option maxHeartbeats 4000000 in
theorem w_X7_settledView {G : Gl} {p : Program} {l : Launch} {e : Env} {s0 : State} {m : MethodId} {args : Array Value} {below : List Frame} {meth : Method} {c : Code} (C : Cx G p s0 m args meth c cX7_settledView 1 RX7 (some (.object "CitedWorks$View"))) {μf : Mu}  (μ : Mu) (hF : f_X7_settledView μ = some μf) : X G p l e 5 131 s0 m args below meth c 1 (some (.ref (G.ad 18))) μf μ 0 [(0, .ref (G.ad 0))] [] := by
  unfold f_X7_settledView at hF
  refine x_aload_n C 0 dX7_settledView_0 rfl rfl ?_
  refine x_getI C fc_X7 fl_X7_304 sh_0 (by decide) rfl dX7_settledView_1 ?_
  refine x_if_ne (tgt := 19) C dX7_settledView_4 (by decide) (fun hc => ?_) (fun hc => ?_)
  · replace hF := f_f hc hF
    refine x_aload_n C 0 dX7_settledView_19 rfl rfl ?_
    refine x_getR C fc_X7 fl_X7_35 sh_0 (by decide) rfl dX7_settledView_20 ?_
    exact x_aret C dX7_settledView_23 rfl (Option.some.inj hF)
  · replace hF := f_t hc hF
    refine x_aload_n C 0 dX7_settledView_7 rfl rfl ?_
    refine x_getR C fc_X7 fl_X7_35 sh_0 (by decide) rfl dX7_settledView_8 ?_
    obtain ⟨q1, hq1, hF⟩ := f_bind hF
    refine x_cVv (rest := []) C (c_X6_settle l C.2.2.2.2.2.2.2.2 isV_13 μ hq1) cw_X7_271 sh_18 rfl rfl ⟨by decide, by decide⟩ rfl rfl (Nat.le_of_ble_eq_true rfl) dX7_settledView_11 ?_
    refine x_aload_n C 0 dX7_settledView_14 rfl rfl ?_
    refine x_iconst (v := 1) C dX7_settledView_15 (by decide) ?_
    refine x_putI C fc_X7 fl_X7_304 sh_0 (by decide) rfl rfl rfl ⟨rfl, rfl⟩ dX7_settledView_16 ?_
    refine x_letM hF (fun μ2 hF => ?_)
    refine x_aload_n C 0 dX7_settledView_19 rfl rfl ?_
    refine x_getR C fc_X7 fl_X7_35 sh_0 (by decide) rfl dX7_settledView_20 ?_
    exact x_aret C dX7_settledView_23 rfl (Option.some.inj hF)
set_option maxHeartbeats 4000000 in
theorem c_X7_settledView {G : Gl} (l : Launch) (hA : Ap G) {μf : Mu}  (μ : Mu) (hF : f_X7_settledView μ = some μf) : Mth G l yX7_settledView cX7_settledView 1 (some (.object "CitedWorks$View")) 5 131 [.ref (G.ad 0)] (some (.ref (G.ad 18))) μf μ := Mth.of hA (by decide) rfl (Nat.le_of_ble_eq_true rfl) (fun p e s0 m args below meth c C => w_X7_settledView C μ hF)
set_option maxHeartbeats 4000000 in
theorem w_X7_aboutCited {G : Gl} {p : Program} {l : Launch} {e : Env} {s0 : State} {m : MethodId} {args : Array Value} {below : List Frame} {meth : Method} {c : Code} (C : Cx G p s0 m args meth c cX7_aboutCited 3 RX7 (some .int)) {d : Nat} (hv : isV d) {r : Int32}  (x1 : Int32) (x2 : Int32) (μ : Mu) (hF : f_X7_aboutCited d x1 x2 μ = some r) : X G p l e 2 44 s0 m args below meth c 3 (some (.int r)) μ μ 0 [(0, .ref (G.ad (d + 5))), (1, .int x1), (2, .int x2)] [] := by
  unfold f_X7_aboutCited at hF
  refine x_aload_n C 0 dX7_aboutCited_0 rfl rfl ?_
  refine x_iload_n C 1 dX7_aboutCited_1 rfl rfl ?_
  obtain ⟨q1, hq1, hF⟩ := f_bind hF
  refine x_cVi (rest := []) C (c_X6_isCited l C.2.2.2.2.2.2.2.2 hv x1 μ hq1) cw_X7_130 (shV5 hv) rfl rfl ⟨by decide, by decide⟩ rfl rfl (Nat.le_of_ble_eq_true rfl) dX7_aboutCited_2 ?_
  refine x_if_ne (tgt := 10) C dX7_aboutCited_5 (by decide) (fun hc => ?_) (fun hc => ?_)
  · replace hF := f_f hc hF
    refine x_iload_n C 2 dX7_aboutCited_10 rfl rfl ?_
    by_cases hs6 : x2 = 6
    · replace hF := f_t hs6 hF
      refine x_tableIn (tgt := 40) (off := 29) C dX7_aboutCited_11 (by rw [hs6]; decide) (by rw [hs6]; decide) (by rw [hs6]; decide +kernel) (by decide) ?_
      refine x_aload_n C 0 dX7_aboutCited_40 rfl rfl ?_
      refine x_getR C fc_X6 fl_X7_307 (shV5 hv) (by decide) rfl dX7_aboutCited_41 ?_
      refine x_iload_n C 1 dX7_aboutCited_44 rfl rfl ?_
      obtain ⟨hi2, hF⟩ := f_chk hF
      refine x_iald C (shV14 hv) hi2 dX7_aboutCited_45 ?_
      exact x_iret C dX7_aboutCited_46 (Option.some.inj hF) rfl
    · replace hF := f_f hs6 hF
      by_cases hs7 : x2 = 7
      · replace hF := f_t hs7 hF
        refine x_tableIn (tgt := 47) (off := 36) C dX7_aboutCited_11 (by rw [hs7]; decide) (by rw [hs7]; decide) (by rw [hs7]; decide +kernel) (by decide) ?_
        refine x_aload_n C 0 dX7_aboutCited_47 rfl rfl ?_
        refine x_getR C fc_X6 fl_X7_310 (shV5 hv) (by decide) rfl dX7_aboutCited_48 ?_
        refine x_iload_n C 1 dX7_aboutCited_51 rfl rfl ?_
        obtain ⟨hi3, hF⟩ := f_chk hF
        refine x_zald C (shV15 hv) hi3 dX7_aboutCited_52 ?_
        refine x_if_eq (tgt := 60) C dX7_aboutCited_53 (by decide) (fun hc => ?_) (fun hc => ?_)
        · replace hF := f_t hc hF
          refine x_iconst (v := 0) C dX7_aboutCited_60 (by decide) ?_
          exact x_iret C dX7_aboutCited_61 (Option.some.inj hF) rfl
        · replace hF := f_f hc hF
          refine x_iconst (v := 1) C dX7_aboutCited_56 (by decide) ?_
          refine x_goto (tgt := 61) C dX7_aboutCited_57 (by decide) ?_
          exact x_iret C dX7_aboutCited_61 (Option.some.inj hF) rfl
      · replace hF := f_f hs7 hF
        by_cases hs8 : x2 = 8
        · replace hF := f_t hs8 hF
          refine x_tableIn (tgt := 62) (off := 51) C dX7_aboutCited_11 (by rw [hs8]; decide) (by rw [hs8]; decide) (by rw [hs8]; decide +kernel) (by decide) ?_
          refine x_aload_n C 0 dX7_aboutCited_62 rfl rfl ?_
          refine x_getR C fc_X6 fl_X7_313 (shV5 hv) (by decide) rfl dX7_aboutCited_63 ?_
          refine x_iload_n C 1 dX7_aboutCited_66 rfl rfl ?_
          obtain ⟨hi4, hF⟩ := f_chk hF
          refine x_iald C (shV17 hv) hi4 dX7_aboutCited_67 ?_
          exact x_iret C dX7_aboutCited_68 (Option.some.inj hF) rfl
        · replace hF := f_f hs8 hF
          by_cases hs9 : x2 = 9
          · replace hF := f_t hs9 hF
            refine x_tableIn (tgt := 69) (off := 58) C dX7_aboutCited_11 (by rw [hs9]; decide) (by rw [hs9]; decide) (by rw [hs9]; decide +kernel) (by decide) ?_
            refine x_aload_n C 0 dX7_aboutCited_69 rfl rfl ?_
            refine x_getR C fc_X6 fl_X7_316 (shV5 hv) (by decide) rfl dX7_aboutCited_70 ?_
            refine x_iload_n C 1 dX7_aboutCited_73 rfl rfl ?_
            obtain ⟨hi5, hF⟩ := f_chk hF
            refine x_iald C (shV13 hv) hi5 dX7_aboutCited_74 ?_
            exact x_iret C dX7_aboutCited_75 (Option.some.inj hF) rfl
          · replace hF := f_f hs9 hF
            refine x_tableOut (tgt := 76) C dX7_aboutCited_11 (sw_out_6_9 hs6 hs7 hs8 hs9) (by decide) ?_
            refine x_aload_n C 0 dX7_aboutCited_76 rfl rfl ?_
            refine x_iload_n C 1 dX7_aboutCited_77 rfl rfl ?_
            obtain ⟨q6, hq6, hF⟩ := f_bind hF
            refine x_cVi (rest := []) C (c_X6_roomOf l C.2.2.2.2.2.2.2.2 hv x1 μ hq6) cw_X7_319 (shV5 hv) rfl rfl ⟨by decide, by decide⟩ rfl rfl (Nat.le_of_ble_eq_true rfl) dX7_aboutCited_78 ?_
            exact x_iret C dX7_aboutCited_81 (Option.some.inj hF) rfl
  · replace hF := f_t hc hF
    refine x_iconst (v := (-1)) C dX7_aboutCited_8 (by decide) ?_
    exact x_iret C dX7_aboutCited_9 (Option.some.inj hF) rfl
set_option maxHeartbeats 4000000 in
theorem c_X7_aboutCited {G : Gl} (l : Launch) (hA : Ap G) {d : Nat} (hv : isV d) {r : Int32}  (x1 : Int32) (x2 : Int32) (μ : Mu) (hF : f_X7_aboutCited d x1 x2 μ = some r) : Mth G l yX7_aboutCited cX7_aboutCited 3 (some .int) 2 44 [.ref (G.ad (d + 5)), .int x1, .int x2] (some (.int r)) μ μ := Mth.of hA (by decide) rfl (Nat.le_of_ble_eq_true rfl) (fun p e s0 m args below meth c C => w_X7_aboutCited C hv x1 x2 μ hF)
set_option maxHeartbeats 4000000 in
theorem w_X7_about {G : Gl} {p : Program} {l : Launch} {e : Env} {s0 : State} {m : MethodId} {args : Array Value} {below : List Frame} {meth : Method} {c : Code} (C : Cx G p s0 m args meth c cX7_about 3 RX7 (some .int)) {r : Int32} {μf : Mu}  (x1 : Int32) (x2 : Int32) (μ : Mu) (hF : f_X7_about x1 x2 μ = some (r, μf)) : X G p l e 6 151 s0 m args below meth c 3 (some (.int r)) μf μ 0 [(0, .ref (G.ad 0)), (1, .int x1), (2, .int x2)] [] := by
  unfold f_X7_about at hF
  refine x_aload_n C 0 dX7_about_0 rfl rfl ?_
  refine x_getR C fc_X7 fl_X7_10 sh_0 (by decide) rfl dX7_about_1 ?_
  refine x_iload_n C 1 dX7_about_4 rfl rfl ?_
  refine x_cVi (rest := []) C (c_X4_has l C.2.2.2.2.2.2.2.2 x1 μ) cw_X7_96 sh_1 rfl rfl ⟨by decide, by decide⟩ rfl rfl (Nat.le_of_ble_eq_true rfl) dX7_about_5 ?_
  refine x_if_ne (tgt := 15) C dX7_about_8 (by decide) (fun hc => ?_) (fun hc => ?_)
  · replace hF := f_f hc hF
    refine x_iload_n C 2 dX7_about_15 rfl rfl ?_
    by_cases hs0 : x2 = 0
    · replace hF := f_t hs0 hF
      refine x_tableIn (tgt := 56) (off := 40) C dX7_about_16 (by rw [hs0]; decide) (by rw [hs0]; decide) (by rw [hs0]; decide +kernel) (by decide) ?_
      refine x_aload_n C 0 dX7_about_56 rfl rfl ?_
      refine x_getR C fc_X7 fl_X7_10 sh_0 (by decide) rfl dX7_about_57 ?_
      refine x_getR C fc_X4 fl_X7_100 sh_1 (by decide) rfl dX7_about_60 ?_
      refine x_iload_n C 1 dX7_about_63 rfl rfl ?_
      obtain ⟨hi1, hF⟩ := f_chk hF
      refine x_iald C sh_2 hi1 dX7_about_64 ?_
      exact x_iret C dX7_about_65 (Prod.mk.inj (Option.some.inj hF)).1 (Prod.mk.inj (Option.some.inj hF)).2
    · replace hF := f_f hs0 hF
      by_cases hs1 : x2 = 1
      · replace hF := f_t hs1 hF
        refine x_tableIn (tgt := 66) (off := 50) C dX7_about_16 (by rw [hs1]; decide) (by rw [hs1]; decide) (by rw [hs1]; decide +kernel) (by decide) ?_
        refine x_aload_n C 0 dX7_about_66 rfl rfl ?_
        refine x_getR C fc_X7 fl_X7_10 sh_0 (by decide) rfl dX7_about_67 ?_
        refine x_getR C fc_X4 fl_X7_117 sh_1 (by decide) rfl dX7_about_70 ?_
        refine x_iload_n C 1 dX7_about_73 rfl rfl ?_
        obtain ⟨hi2, hF⟩ := f_chk hF
        refine x_iald C sh_3 hi2 dX7_about_74 ?_
        exact x_iret C dX7_about_75 (Prod.mk.inj (Option.some.inj hF)).1 (Prod.mk.inj (Option.some.inj hF)).2
      · replace hF := f_f hs1 hF
        by_cases hs2 : x2 = 2
        · replace hF := f_t hs2 hF
          refine x_tableIn (tgt := 76) (off := 60) C dX7_about_16 (by rw [hs2]; decide) (by rw [hs2]; decide) (by rw [hs2]; decide +kernel) (by decide) ?_
          refine x_aload_n C 0 dX7_about_76 rfl rfl ?_
          refine x_getR C fc_X7 fl_X7_10 sh_0 (by decide) rfl dX7_about_77 ?_
          refine x_getR C fc_X4 fl_X7_120 sh_1 (by decide) rfl dX7_about_80 ?_
          refine x_iload_n C 1 dX7_about_83 rfl rfl ?_
          obtain ⟨hi3, hF⟩ := f_chk hF
          refine x_iald C sh_4 hi3 dX7_about_84 ?_
          exact x_iret C dX7_about_85 (Prod.mk.inj (Option.some.inj hF)).1 (Prod.mk.inj (Option.some.inj hF)).2
        · replace hF := f_f hs2 hF
          by_cases hs3 : x2 = 3
          · replace hF := f_t hs3 hF
            refine x_tableIn (tgt := 86) (off := 70) C dX7_about_16 (by rw [hs3]; decide) (by rw [hs3]; decide) (by rw [hs3]; decide +kernel) (by decide) ?_
            refine x_aload_n C 0 dX7_about_86 rfl rfl ?_
            refine x_getR C fc_X7 fl_X7_26 sh_0 (by decide) rfl dX7_about_87 ?_
            refine x_iload_n C 1 dX7_about_90 rfl rfl ?_
            obtain ⟨q4, hq4, hF⟩ := f_bind hF
            refine x_cVi (rest := []) C (c_X1_meantAs l C.2.2.2.2.2.2.2.2 isD_13 x1 μ hq4) cw_X7_113 sh_13 rfl rfl ⟨by decide, by decide⟩ rfl rfl (Nat.le_of_ble_eq_true rfl) dX7_about_91 ?_
            exact x_iret C dX7_about_94 (Prod.mk.inj (Option.some.inj hF)).1 (Prod.mk.inj (Option.some.inj hF)).2
          · replace hF := f_f hs3 hF
            by_cases hs4 : x2 = 4
            · replace hF := f_t hs4 hF
              refine x_tableIn (tgt := 95) (off := 79) C dX7_about_16 (by rw [hs4]; decide) (by rw [hs4]; decide) (by rw [hs4]; decide +kernel) (by decide) ?_
              refine x_aload_n C 0 dX7_about_95 rfl rfl ?_
              obtain ⟨q5, hq5, hF⟩ := f_bind hF
              refine x_cVr (rest := []) C (c_X7_settledView l C.2.2.2.2.2.2.2.2 μ hq5) cw_X7_123 sh_0 rfl rfl ⟨by decide, by decide⟩ rfl rfl (Nat.le_of_ble_eq_true rfl) dX7_about_96 ?_
              refine x_getR C fc_X6 fl_X7_127 sh_18 (by decide) rfl dX7_about_99 ?_
              refine x_iload_n C 1 dX7_about_102 rfl rfl ?_
              obtain ⟨hi6, hF⟩ := f_chk hF
              refine x_iald C sh_20 hi6 dX7_about_103 ?_
              exact x_iret C dX7_about_104 (Prod.mk.inj (Option.some.inj hF)).1 (Prod.mk.inj (Option.some.inj hF)).2
            · replace hF := f_f hs4 hF
              by_cases hs5 : x2 = 5
              · replace hF := f_t hs5 hF
                refine x_tableIn (tgt := 105) (off := 89) C dX7_about_16 (by rw [hs5]; decide) (by rw [hs5]; decide) (by rw [hs5]; decide +kernel) (by decide) ?_
                refine x_aload_n C 0 dX7_about_105 rfl rfl ?_
                obtain ⟨q7, hq7, hF⟩ := f_bind hF
                refine x_cVr (rest := []) C (c_X7_settledView l C.2.2.2.2.2.2.2.2 μ hq7) cw_X7_123 sh_0 rfl rfl ⟨by decide, by decide⟩ rfl rfl (Nat.le_of_ble_eq_true rfl) dX7_about_106 ?_
                refine x_iload_n C 1 dX7_about_109 rfl rfl ?_
                obtain ⟨q8, hq8, hF⟩ := f_bind hF
                refine x_cVi (rest := []) C (c_X6_isCited l C.2.2.2.2.2.2.2.2 isV_13 x1 q7 hq8) cw_X7_130 sh_18 rfl rfl ⟨by decide, by decide⟩ rfl rfl (Nat.le_of_ble_eq_true rfl) dX7_about_110 ?_
                refine x_if_eq (tgt := 120) C dX7_about_113 (by decide) (fun hc => ?_) (fun hc => ?_)
                · replace hF := f_t hc hF
                  refine x_iconst (v := 0) C dX7_about_120 (by decide) ?_
                  exact x_iret C dX7_about_121 (Prod.mk.inj (Option.some.inj hF)).1 (Prod.mk.inj (Option.some.inj hF)).2
                · replace hF := f_f hc hF
                  refine x_iconst (v := 1) C dX7_about_116 (by decide) ?_
                  refine x_goto (tgt := 121) C dX7_about_117 (by decide) ?_
                  exact x_iret C dX7_about_121 (Prod.mk.inj (Option.some.inj hF)).1 (Prod.mk.inj (Option.some.inj hF)).2
              · replace hF := f_f hs5 hF
                refine x_tableOut (tgt := 122) C dX7_about_16 (sw_out_0_5 hs0 hs1 hs2 hs3 hs4 hs5) (by decide) ?_
                refine x_iload_n C 2 dX7_about_122 rfl rfl ?_
                refine x_bipush (v := 6) C dX7_about_123 (by decide) ?_
                refine x_bipush (v := 10) C dX7_about_125 (by decide) ?_
                refine x_cSi (rest := []) C (c_X7_within l C.2.2.2.2.2.2.2.2 x2 6 10 μ) cw_X7_78 ⟨by decide, by decide⟩ rfl rfl (Nat.le_of_ble_eq_true rfl) dX7_about_127 ?_
                refine x_if_eq (tgt := 145) C dX7_about_130 (by decide) (fun hc => ?_) (fun hc => ?_)
                · replace hF := f_t hc hF
                  refine x_sipush (v := (-1002)) C dX7_about_145 (by decide) ?_
                  exact x_iret C dX7_about_148 (Prod.mk.inj (Option.some.inj hF)).1 (Prod.mk.inj (Option.some.inj hF)).2
                · replace hF := f_f hc hF
                  refine x_aload_n C 0 dX7_about_133 rfl rfl ?_
                  obtain ⟨q9, hq9, hF⟩ := f_bind hF
                  refine x_cVr (rest := []) C (c_X7_settledView l C.2.2.2.2.2.2.2.2 μ hq9) cw_X7_123 sh_0 rfl rfl ⟨by decide, by decide⟩ rfl rfl (Nat.le_of_ble_eq_true rfl) dX7_about_134 ?_
                  refine x_iload_n C 1 dX7_about_137 rfl rfl ?_
                  refine x_iload_n C 2 dX7_about_138 rfl rfl ?_
                  obtain ⟨q10, hq10, hF⟩ := f_bind hF
                  refine x_cSi (rest := []) C (c_X7_aboutCited l C.2.2.2.2.2.2.2.2 isV_13 x1 x2 q9 hq10) cw_X7_133 ⟨by decide, by decide⟩ rfl rfl (Nat.le_of_ble_eq_true rfl) dX7_about_139 ?_
                  refine x_goto (tgt := 148) C dX7_about_142 (by decide) ?_
                  exact x_iret C dX7_about_148 (Prod.mk.inj (Option.some.inj hF)).1 (Prod.mk.inj (Option.some.inj hF)).2
  · replace hF := f_t hc hF
    refine x_sipush (v := (-1001)) C dX7_about_11 (by decide) ?_
    exact x_iret C dX7_about_14 (Prod.mk.inj (Option.some.inj hF)).1 (Prod.mk.inj (Option.some.inj hF)).2
set_option maxHeartbeats 4000000 in
theorem c_X7_about {G : Gl} (l : Launch) (hA : Ap G) {r : Int32} {μf : Mu}  (x1 : Int32) (x2 : Int32) (μ : Mu) (hF : f_X7_about x1 x2 μ = some (r, μf)) : Mth G l yX7_about cX7_about 3 (some .int) 6 151 [.ref (G.ad 0), .int x1, .int x2] (some (.int r)) μf μ := Mth.of hA (by decide) rfl (Nat.le_of_ble_eq_true rfl) (fun p e s0 m args below meth c C => w_X7_about C x1 x2 μ hF)
set_option maxHeartbeats 4000000 in
theorem w_X7_at {G : Gl} {p : Program} {l : Launch} {e : Env} {s0 : State} {m : MethodId} {args : Array Value} {below : List Frame} {meth : Method} {c : Code} (C : Cx G p s0 m args meth c cX7_at 3 RX7 (some .int)) {r : Int32}  (x1 : Int32) (x2 : Int32) (μ : Mu) (hF : f_X7_at x1 x2 μ = some r) : X G p l e 1 22 s0 m args below meth c 3 (some (.int r)) μ μ 0 [(0, .ref (G.ad 0)), (1, .int x1), (2, .int x2)] [] := by
  unfold f_X7_at at hF
  refine x_aload_n C 0 dX7_at_0 rfl rfl ?_
  refine x_getR C fc_X7 fl_X7_26 sh_0 (by decide) rfl dX7_at_1 ?_
  refine x_iload_n C 1 dX7_at_4 rfl rfl ?_
  refine x_cVi (rest := []) C (c_X1_has l C.2.2.2.2.2.2.2.2 isD_13 x1 μ) cw_X7_171 sh_13 rfl rfl ⟨by decide, by decide⟩ rfl rfl (Nat.le_of_ble_eq_true rfl) dX7_at_5 ?_
  refine x_if_ne (tgt := 15) C dX7_at_8 (by decide) (fun hc => ?_) (fun hc => ?_)
  · replace hF := f_f hc hF
    refine x_iload_n C 2 dX7_at_15 rfl rfl ?_
    refine x_iconst (v := 0) C dX7_at_16 (by decide) ?_
    refine x_aload_n C 0 dX7_at_17 rfl rfl ?_
    refine x_getR C fc_X7 fl_X7_26 sh_0 (by decide) rfl dX7_at_18 ?_
    refine x_getR C fc_X1 fl_X7_172 sh_13 (by decide) rfl dX7_at_21 ?_
    refine x_iload_n C 1 dX7_at_24 rfl rfl ?_
    obtain ⟨hi1, hF⟩ := f_chk hF
    refine x_iald C sh_15 hi1 dX7_at_25 ?_
    refine x_iconst (v := 1) C dX7_at_26 (by decide) ?_
    refine x_isub C dX7_at_27 ?_
    refine x_cSi (rest := []) C (c_X7_within l C.2.2.2.2.2.2.2.2 x2 0 ((μ 15 (ix x1)) - 1) μ) cw_X7_78 ⟨by decide, by decide⟩ rfl rfl (Nat.le_of_ble_eq_true rfl) dX7_at_28 ?_
    refine x_if_eq (tgt := 46) C dX7_at_31 (by decide) (fun hc => ?_) (fun hc => ?_)
    · replace hF := f_t hc hF
      refine x_iconst (v := (-1)) C dX7_at_46 (by decide) ?_
      exact x_iret C dX7_at_47 (Option.some.inj hF) rfl
    · replace hF := f_f hc hF
      refine x_aload_n C 0 dX7_at_34 rfl rfl ?_
      refine x_getR C fc_X7 fl_X7_26 sh_0 (by decide) rfl dX7_at_35 ?_
      refine x_iload_n C 1 dX7_at_38 rfl rfl ?_
      refine x_iload_n C 2 dX7_at_39 rfl rfl ?_
      obtain ⟨q2, hq2, hF⟩ := f_bind hF
      refine x_cVi (rest := []) C (c_X1_callAt l C.2.2.2.2.2.2.2.2 isD_13 x1 x2 μ hq2) cw_X7_215 sh_13 rfl rfl ⟨by decide, by decide⟩ rfl rfl (Nat.le_of_ble_eq_true rfl) dX7_at_40 ?_
      refine x_goto (tgt := 47) C dX7_at_43 (by decide) ?_
      exact x_iret C dX7_at_47 (Option.some.inj hF) rfl
  · replace hF := f_t hc hF
    refine x_sipush (v := (-1001)) C dX7_at_11 (by decide) ?_
    exact x_iret C dX7_at_14 (Option.some.inj hF) rfl
set_option maxHeartbeats 4000000 in
theorem c_X7_at {G : Gl} (l : Launch) (hA : Ap G) {r : Int32}  (x1 : Int32) (x2 : Int32) (μ : Mu) (hF : f_X7_at x1 x2 μ = some r) : Mth G l yX7_at cX7_at 3 (some .int) 1 22 [.ref (G.ad 0), .int x1, .int x2] (some (.int r)) μ μ := Mth.of hA (by decide) rfl (Nat.le_of_ble_eq_true rfl) (fun p e s0 m args below meth c C => w_X7_at C x1 x2 μ hF)
set_option maxHeartbeats 4000000 in
theorem w_X7_isAuthor {G : Gl} {p : Program} {l : Launch} {e : Env} {s0 : State} {m : MethodId} {args : Array Value} {below : List Frame} {meth : Method} {c : Code} (C : Cx G p s0 m args meth c cX7_isAuthor 3 RX7 (some .boolean)) {r : Int32}  (x0 : Int32) (x1 : Int32) (x2 : Int32) (μ : Mu) (hF : f_X7_isAuthor x0 x1 x2 = r) : X G p l e 1 22 s0 m args below meth c 3 (some (.int r)) μ μ 0 [(0, .int x0), (1, .int x1), (2, .int x2)] [] := by
  unfold f_X7_isAuthor at hF
  refine x_iload_n C 0 dX7_isAuthor_0 rfl rfl ?_
  refine x_iconst (v := 0) C dX7_isAuthor_1 (by decide) ?_
  refine x_bipush (v := 49) C dX7_isAuthor_2 (by decide) ?_
  refine x_cSi (rest := []) C (c_X7_within l C.2.2.2.2.2.2.2.2 x0 0 49 μ) cw_X7_78 ⟨by decide, by decide⟩ rfl rfl (Nat.le_of_ble_eq_true rfl) dX7_isAuthor_4 ?_
  refine x_if_eq (tgt := 42) C dX7_isAuthor_7 (by decide) (fun hc => ?_) (fun hc => ?_)
  · replace hF := f_t hc hF
    refine x_iconst (v := 0) C dX7_isAuthor_42 (by decide) ?_
    exact x_zret C dX7_isAuthor_43 (by decide) hF rfl
  · replace hF := f_f hc hF
    refine x_iload_n C 1 dX7_isAuthor_10 rfl rfl ?_
    refine x_iconst (v := 0) C dX7_isAuthor_11 (by decide) ?_
    refine x_bipush (v := 26) C dX7_isAuthor_12 (by decide) ?_
    refine x_cSi (rest := []) C (c_X7_within l C.2.2.2.2.2.2.2.2 x1 0 26 μ) cw_X7_78 ⟨by decide, by decide⟩ rfl rfl (Nat.le_of_ble_eq_true rfl) dX7_isAuthor_14 ?_
    refine x_if_eq (tgt := 42) C dX7_isAuthor_17 (by decide) (fun hc => ?_) (fun hc => ?_)
    · replace hF := f_t hc hF
      refine x_iconst (v := 0) C dX7_isAuthor_42 (by decide) ?_
      exact x_zret C dX7_isAuthor_43 (by decide) hF rfl
    · replace hF := f_f hc hF
      refine x_iload_n C 2 dX7_isAuthor_20 rfl rfl ?_
      refine x_iconst (v := 0) C dX7_isAuthor_21 (by decide) ?_
      refine x_iload_n C 1 dX7_isAuthor_22 rfl rfl ?_
      refine x_if_ne (tgt := 30) C dX7_isAuthor_23 (by decide) (fun hc => ?_) (fun hc => ?_)
      · replace hF := f_f hc hF
        refine x_bipush (v := 26) C dX7_isAuthor_30 (by decide) ?_
        refine x_cSi (rest := []) C (c_X7_within l C.2.2.2.2.2.2.2.2 x2 0 26 μ) cw_X7_78 ⟨by decide, by decide⟩ rfl rfl (Nat.le_of_ble_eq_true rfl) dX7_isAuthor_32 ?_
        refine x_if_eq (tgt := 42) C dX7_isAuthor_35 (by decide) (fun hc => ?_) (fun hc => ?_)
        · replace hF := f_t hc hF
          refine x_iconst (v := 0) C dX7_isAuthor_42 (by decide) ?_
          exact x_zret C dX7_isAuthor_43 (by decide) hF rfl
        · replace hF := f_f hc hF
          refine x_iconst (v := 1) C dX7_isAuthor_38 (by decide) ?_
          refine x_goto (tgt := 43) C dX7_isAuthor_39 (by decide) ?_
          exact x_zret C dX7_isAuthor_43 (by decide) hF rfl
      · replace hF := f_t hc hF
        refine x_iconst (v := 0) C dX7_isAuthor_26 (by decide) ?_
        refine x_goto (tgt := 32) C dX7_isAuthor_27 (by decide) ?_
        refine x_cSi (rest := []) C (c_X7_within l C.2.2.2.2.2.2.2.2 x2 0 0 μ) cw_X7_78 ⟨by decide, by decide⟩ rfl rfl (Nat.le_of_ble_eq_true rfl) dX7_isAuthor_32 ?_
        refine x_if_eq (tgt := 42) C dX7_isAuthor_35 (by decide) (fun hc => ?_) (fun hc => ?_)
        · replace hF := f_t hc hF
          refine x_iconst (v := 0) C dX7_isAuthor_42 (by decide) ?_
          exact x_zret C dX7_isAuthor_43 (by decide) hF rfl
        · replace hF := f_f hc hF
          refine x_iconst (v := 1) C dX7_isAuthor_38 (by decide) ?_
          refine x_goto (tgt := 43) C dX7_isAuthor_39 (by decide) ?_
          exact x_zret C dX7_isAuthor_43 (by decide) hF rfl
set_option maxHeartbeats 4000000 in
theorem c_X7_isAuthor {G : Gl} (l : Launch) (hA : Ap G) (x0 : Int32) (x1 : Int32) (x2 : Int32) (μ : Mu) : Mth G l yX7_isAuthor cX7_isAuthor 3 (some .boolean) 1 22 [.int x0, .int x1, .int x2] (some (.int (f_X7_isAuthor x0 x1 x2))) μ μ := Mth.of hA (by decide) rfl (Nat.le_of_ble_eq_true rfl) (fun p e s0 m args below meth c C => w_X7_isAuthor C x0 x1 x2 μ rfl)
set_option maxHeartbeats 4000000 in
theorem w_X7_unsettle {G : Gl} {p : Program} {l : Launch} {e : Env} {s0 : State} {m : MethodId} {args : Array Value} {below : List Frame} {meth : Method} {c : Code} (C : Cx G p s0 m args meth c cX7_unsettle 1 RX7 none) {μf : Mu}  (μ : Mu) (hF : f_X7_unsettle μ = some μf) : X G p l e 0 0 s0 m args below meth c 1 none μf μ 0 [(0, .ref (G.ad 0))] [] := by
  unfold f_X7_unsettle at hF
  refine x_aload_n C 0 dX7_unsettle_0 rfl rfl ?_
  refine x_iconst (v := 0) C dX7_unsettle_1 (by decide) ?_
  refine x_putI C fc_X7 fl_X7_304 sh_0 (by decide) rfl rfl rfl ⟨rfl, rfl⟩ dX7_unsettle_2 ?_
  refine x_letM hF (fun μ1 hF => ?_)
  refine x_aload_n C 0 dX7_unsettle_5 rfl rfl ?_
  refine x_iconst (v := 0) C dX7_unsettle_6 (by decide) ?_
  refine x_putI C fc_X7 fl_X7_287 sh_0 (by decide) rfl rfl rfl ⟨rfl, rfl⟩ dX7_unsettle_7 ?_
  refine x_letM hF (fun μ2 hF => ?_)
  exact x_vret C dX7_unsettle_10 (Option.some.inj hF)
set_option maxHeartbeats 4000000 in
theorem c_X7_unsettle {G : Gl} (l : Launch) (hA : Ap G) {μf : Mu}  (μ : Mu) (hF : f_X7_unsettle μ = some μf) : Mth G l yX7_unsettle cX7_unsettle 1 none 0 0 [.ref (G.ad 0)] none μf μ := Mth.of hA (by decide) rfl (Nat.le_of_ble_eq_true rfl) (fun p e s0 m args below meth c C => w_X7_unsettle C μ hF)
set_option maxHeartbeats 4000000 in
theorem w_X7_author {G : Gl} {p : Program} {l : Launch} {e : Env} {s0 : State} {m : MethodId} {args : Array Value} {below : List Frame} {meth : Method} {c : Code} (C : Cx G p s0 m args meth c cX7_author 5 RX7 (some .int)) {r : Int32} {μf : Mu}  (x1 : Int32) (x2 : Int32) (x3 : Int32) (x4 : Int32) (μ : Mu) (hF : f_X7_author x1 x2 x3 x4 μ = some (r, μf)) : X G p l e 2 44 s0 m args below meth c 5 (some (.int r)) μf μ 0 [(0, .ref (G.ad 0)), (1, .int x1), (2, .int x2), (3, .int x3), (4, .int x4)] [] := by
  unfold f_X7_author at hF
  refine x_aload_n C 0 dX7_author_0 rfl rfl ?_
  refine x_getR C fc_X7 fl_X7_10 sh_0 (by decide) rfl dX7_author_1 ?_
  refine x_iload_n C 1 dX7_author_4 rfl rfl ?_
  refine x_cVi (rest := []) C (c_X4_has l C.2.2.2.2.2.2.2.2 x1 μ) cw_X7_96 sh_1 rfl rfl ⟨by decide, by decide⟩ rfl rfl (Nat.le_of_ble_eq_true rfl) dX7_author_5 ?_
  refine x_if_ne (tgt := 15) C dX7_author_8 (by decide) (fun hc => ?_) (fun hc => ?_)
  · replace hF := f_f hc hF
    refine x_iload_n C 2 dX7_author_15 rfl rfl ?_
    refine x_iload_n C 3 dX7_author_16 rfl rfl ?_
    refine x_iload C 4 dX7_author_17 rfl ?_
    refine x_cSi (rest := []) C (c_X7_isAuthor l C.2.2.2.2.2.2.2.2 x2 x3 x4 μ) cw_X7_74 ⟨by decide, by decide⟩ rfl rfl (Nat.le_of_ble_eq_true rfl) dX7_author_19 ?_
    refine x_if_ne (tgt := 29) C dX7_author_22 (by decide) (fun hc => ?_) (fun hc => ?_)
    · replace hF := f_f hc hF
      refine x_aload_n C 0 dX7_author_29 rfl rfl ?_
      refine x_getR C fc_X7 fl_X7_10 sh_0 (by decide) rfl dX7_author_30 ?_
      refine x_getR C fc_X4 fl_X7_100 sh_1 (by decide) rfl dX7_author_33 ?_
      refine x_iload_n C 1 dX7_author_36 rfl rfl ?_
      obtain ⟨hi1, hF⟩ := f_chk hF
      refine x_iald C sh_2 hi1 dX7_author_37 ?_
      refine x_iconst (v := 4) C dX7_author_38 (by decide) ?_
      refine x_icmp_lt (tgt := 46) C dX7_author_39 (by decide) (fun hc => ?_) (fun hc => ?_)
      · replace hF := f_t hc hF
        refine x_aload_n C 0 dX7_author_46 rfl rfl ?_
        refine x_getR C fc_X7 fl_X7_10 sh_0 (by decide) rfl dX7_author_47 ?_
        refine x_iload_n C 1 dX7_author_50 rfl rfl ?_
        refine x_iload_n C 2 dX7_author_51 rfl rfl ?_
        refine x_iload_n C 3 dX7_author_52 rfl rfl ?_
        refine x_iload C 4 dX7_author_53 rfl ?_
        obtain ⟨q2, hq2, hF⟩ := f_bind hF
        refine x_cVv (rest := []) C (c_X4_addAuthor l C.2.2.2.2.2.2.2.2 x1 x2 x3 x4 μ hq2) cw_X7_89 sh_1 rfl rfl ⟨by decide, by decide⟩ rfl rfl (Nat.le_of_ble_eq_true rfl) dX7_author_55 ?_
        refine x_aload_n C 0 dX7_author_58 rfl rfl ?_
        obtain ⟨q3, hq3, hF⟩ := f_bind hF
        refine x_cVv (rest := []) C (c_X7_unsettle l C.2.2.2.2.2.2.2.2 q2 hq3) cw_X7_93 sh_0 rfl rfl ⟨by decide, by decide⟩ rfl rfl (Nat.le_of_ble_eq_true rfl) dX7_author_59 ?_
        refine x_aload_n C 0 dX7_author_62 rfl rfl ?_
        refine x_getR C fc_X7 fl_X7_10 sh_0 (by decide) rfl dX7_author_63 ?_
        refine x_getR C fc_X4 fl_X7_100 sh_1 (by decide) rfl dX7_author_66 ?_
        refine x_iload_n C 1 dX7_author_69 rfl rfl ?_
        refine x_iald C sh_2 hi1 dX7_author_70 ?_
        exact x_iret C dX7_author_71 (Prod.mk.inj (Option.some.inj hF)).1 (Prod.mk.inj (Option.some.inj hF)).2
      · replace hF := f_f hc hF
        refine x_sipush (v := (-1004)) C dX7_author_42 (by decide) ?_
        exact x_iret C dX7_author_45 (Prod.mk.inj (Option.some.inj hF)).1 (Prod.mk.inj (Option.some.inj hF)).2
    · replace hF := f_t hc hF
      refine x_sipush (v := (-1002)) C dX7_author_25 (by decide) ?_
      exact x_iret C dX7_author_28 (Prod.mk.inj (Option.some.inj hF)).1 (Prod.mk.inj (Option.some.inj hF)).2
  · replace hF := f_t hc hF
    refine x_sipush (v := (-1001)) C dX7_author_11 (by decide) ?_
    exact x_iret C dX7_author_14 (Prod.mk.inj (Option.some.inj hF)).1 (Prod.mk.inj (Option.some.inj hF)).2
set_option maxHeartbeats 4000000 in
theorem c_X7_author {G : Gl} (l : Launch) (hA : Ap G) {r : Int32} {μf : Mu}  (x1 : Int32) (x2 : Int32) (x3 : Int32) (x4 : Int32) (μ : Mu) (hF : f_X7_author x1 x2 x3 x4 μ = some (r, μf)) : Mth G l yX7_author cX7_author 5 (some .int) 2 44 [.ref (G.ad 0), .int x1, .int x2, .int x3, .int x4] (some (.int r)) μf μ := Mth.of hA (by decide) rfl (Nat.le_of_ble_eq_true rfl) (fun p e s0 m args below meth c C => w_X7_author C x1 x2 x3 x4 μ hF)
set_option maxHeartbeats 4000000 in
theorem w_X7_isKept {G : Gl} {p : Program} {l : Launch} {e : Env} {s0 : State} {m : MethodId} {args : Array Value} {below : List Frame} {meth : Method} {c : Code} (C : Cx G p s0 m args meth c cX7_isKept 2 RX7 (some .boolean)) {r : Int32}  (x1 : Int32) (μ : Mu) (hF : f_X7_isKept x1 μ = some r) : X G p l e 1 22 s0 m args below meth c 2 (some (.int r)) μ μ 0 [(0, .ref (G.ad 0)), (1, .int x1)] [] := by
  unfold f_X7_isKept at hF
  refine x_iload_n C 1 dX7_isKept_0 rfl rfl ?_
  refine x_iconst (v := 0) C dX7_isKept_1 (by decide) ?_
  refine x_iconst (v := 3) C dX7_isKept_2 (by decide) ?_
  refine x_cSi (rest := []) C (c_X7_within l C.2.2.2.2.2.2.2.2 x1 0 3 μ) cw_X7_78 ⟨by decide, by decide⟩ rfl rfl (Nat.le_of_ble_eq_true rfl) dX7_isKept_3 ?_
  refine x_if_eq (tgt := 22) C dX7_isKept_6 (by decide) (fun hc => ?_) (fun hc => ?_)
  · replace hF := f_t hc hF
    refine x_iconst (v := 0) C dX7_isKept_22 (by decide) ?_
    exact x_zret C dX7_isKept_23 (by decide) (Option.some.inj hF) rfl
  · replace hF := f_f hc hF
    refine x_aload_n C 0 dX7_isKept_9 rfl rfl ?_
    refine x_getR C fc_X7 fl_X7_49 sh_0 (by decide) rfl dX7_isKept_10 ?_
    refine x_iload_n C 1 dX7_isKept_13 rfl rfl ?_
    obtain ⟨hi1, hF⟩ := f_chk hF
    refine x_zald C sh_50 hi1 dX7_isKept_14 ?_
    refine x_if_eq (tgt := 22) C dX7_isKept_15 (by decide) (fun hc => ?_) (fun hc => ?_)
    · replace hF := f_t hc hF
      refine x_iconst (v := 0) C dX7_isKept_22 (by decide) ?_
      exact x_zret C dX7_isKept_23 (by decide) (Option.some.inj hF) rfl
    · replace hF := f_f hc hF
      refine x_iconst (v := 1) C dX7_isKept_18 (by decide) ?_
      refine x_goto (tgt := 23) C dX7_isKept_19 (by decide) ?_
      exact x_zret C dX7_isKept_23 (by decide) (Option.some.inj hF) rfl
set_option maxHeartbeats 4000000 in
theorem c_X7_isKept {G : Gl} (l : Launch) (hA : Ap G) {r : Int32}  (x1 : Int32) (μ : Mu) (hF : f_X7_isKept x1 μ = some r) : Mth G l yX7_isKept cX7_isKept 2 (some .boolean) 1 22 [.ref (G.ad 0), .int x1] (some (.int r)) μ μ := Mth.of hA (by decide) rfl (Nat.le_of_ble_eq_true rfl) (fun p e s0 m args below meth c C => w_X7_isKept C x1 μ hF)
set_option maxHeartbeats 4000000 in
theorem w_X7_back {G : Gl} {p : Program} {l : Launch} {e : Env} {s0 : State} {m : MethodId} {args : Array Value} {below : List Frame} {meth : Method} {c : Code} (C : Cx G p s0 m args meth c cX7_back 2 RX7 (some .int)) {r : Int32} {μf : Mu}  (x1 : Int32) (μ : Mu) (hF : f_X7_back x1 μ = some (r, μf)) : X G p l e 2 61 s0 m args below meth c 2 (some (.int r)) μf μ 0 [(0, .ref (G.ad 0)), (1, .int x1)] [] := by
  unfold f_X7_back at hF
  refine x_aload_n C 0 dX7_back_0 rfl rfl ?_
  refine x_iload_n C 1 dX7_back_1 rfl rfl ?_
  obtain ⟨q1, hq1, hF⟩ := f_bind hF
  refine x_cVi (rest := []) C (c_X7_isKept l C.2.2.2.2.2.2.2.2 x1 μ hq1) cw_X7_268 sh_0 rfl rfl ⟨by decide, by decide⟩ rfl rfl (Nat.le_of_ble_eq_true rfl) dX7_back_2 ?_
  refine x_if_ne (tgt := 12) C dX7_back_5 (by decide) (fun hc => ?_) (fun hc => ?_)
  · replace hF := f_f hc hF
    refine x_aload_n C 0 dX7_back_12 rfl rfl ?_
    refine x_getR C fc_X7 fl_X7_26 sh_0 (by decide) rfl dX7_back_13 ?_
    refine x_aload_n C 0 dX7_back_16 rfl rfl ?_
    refine x_getR C fc_X7 fl_X7_45 sh_0 (by decide) rfl dX7_back_17 ?_
    refine x_iload_n C 1 dX7_back_20 rfl rfl ?_
    obtain ⟨hi2, hF⟩ := f_chk hF
    refine x_aald C sh_49 hi2 dX7_back_21 ?_
    obtain ⟨q3, hq3, hF⟩ := f_bind hF
    refine x_cVv (rest := []) C (c_X1_copyOf l C.2.2.2.2.2.2.2.2 isD_13 (isD_ver hi2) μ hq3) cw_X7_264 sh_13 rfl rfl ⟨by decide, by decide⟩ rfl rfl (Nat.le_of_ble_eq_true rfl) dX7_back_22 ?_
    refine x_aload_n C 0 dX7_back_25 rfl rfl ?_
    obtain ⟨q4, hq4, hF⟩ := f_bind hF
    refine x_cVv (rest := []) C (c_X7_unsettle l C.2.2.2.2.2.2.2.2 q3 hq4) cw_X7_93 sh_0 rfl rfl ⟨by decide, by decide⟩ rfl rfl (Nat.le_of_ble_eq_true rfl) dX7_back_26 ?_
    refine x_aload_n C 0 dX7_back_29 rfl rfl ?_
    refine x_getR C fc_X7 fl_X7_26 sh_0 (by decide) rfl dX7_back_30 ?_
    refine x_getI C fc_X1 fl_X7_164 sh_13 (by decide) rfl dX7_back_33 ?_
    exact x_iret C dX7_back_36 (Prod.mk.inj (Option.some.inj hF)).1 (Prod.mk.inj (Option.some.inj hF)).2
  · replace hF := f_t hc hF
    refine x_sipush (v := (-1001)) C dX7_back_8 (by decide) ?_
    exact x_iret C dX7_back_11 (Prod.mk.inj (Option.some.inj hF)).1 (Prod.mk.inj (Option.some.inj hF)).2
set_option maxHeartbeats 4000000 in
theorem c_X7_back {G : Gl} (l : Launch) (hA : Ap G) {r : Int32} {μf : Mu}  (x1 : Int32) (μ : Mu) (hF : f_X7_back x1 μ = some (r, μf)) : Mth G l yX7_back cX7_back 2 (some .int) 2 61 [.ref (G.ad 0), .int x1] (some (.int r)) μf μ := Mth.of hA (by decide) rfl (Nat.le_of_ble_eq_true rfl) (fun p e s0 m args below meth c C => w_X7_back C x1 μ hF)
set_option maxHeartbeats 4000000 in
theorem w_X7_readsOtherwise {G : Gl} {p : Program} {l : Launch} {e : Env} {s0 : State} {m : MethodId} {args : Array Value} {below : List Frame} {meth : Method} {c : Code} (C : Cx G p s0 m args meth c cX7_readsOtherwise 7 RX7 (some .boolean)) {r : Int32}  (x1 : Int32) (μ : Mu) (hF : f_X7_readsOtherwise x1 μ = some r) : X G p l e 3 67 s0 m args below meth c 7 (some (.int r)) μ μ 0 [(0, .ref (G.ad 0)), (1, .int x1)] [] := by
  unfold f_X7_readsOtherwise at hF
  refine x_aload_n C 0 dX7_readsOtherwise_0 rfl rfl ?_
  refine x_getR C fc_X7 fl_X7_35 sh_0 (by decide) rfl dX7_readsOtherwise_1 ?_
  refine x_getR C fc_X6 fl_X7_191 sh_18 (by decide) rfl dX7_readsOtherwise_4 ?_
  refine x_iload_n C 1 dX7_readsOtherwise_7 rfl rfl ?_
  obtain ⟨hi1, hF⟩ := f_chk hF
  refine x_iald C sh_24 hi1 dX7_readsOtherwise_8 ?_
  refine x_letI hF (fun y2 hF => ?_)
  refine x_istore_n C [(2, .int y2), (0, .ref (G.ad 0)), (1, .int x1)] dX7_readsOtherwise_9 rfl (by decide) rfl ?_
  refine x_aload_n C 1 dX7_readsOtherwise_10 rfl rfl ?_
  refine x_getR C fc_X7 fl_X7_42 sh_0 (by decide) rfl dX7_readsOtherwise_11 ?_
  refine x_getR C fc_X6 fl_X7_191 sh_36 (by decide) rfl dX7_readsOtherwise_14 ?_
  refine x_iload_n C 2 dX7_readsOtherwise_17 rfl rfl ?_
  refine x_iald C sh_42 hi1 dX7_readsOtherwise_18 ?_
  refine x_letI hF (fun y3 hF => ?_)
  refine x_istore_n C [(3, .int y3), (2, .int y2), (0, .ref (G.ad 0)), (1, .int x1)] dX7_readsOtherwise_19 rfl (by decide) rfl ?_
  refine x_aload_n C 2 dX7_readsOtherwise_20 rfl rfl ?_
  refine x_getR C fc_X7 fl_X7_35 sh_0 (by decide) rfl dX7_readsOtherwise_21 ?_
  refine x_iload_n C 1 dX7_readsOtherwise_24 rfl rfl ?_
  obtain ⟨q4, hq4, hF⟩ := f_bind hF
  refine x_cVi (rest := []) C (c_X6_meantAt l C.2.2.2.2.2.2.2.2 isV_13 y2 μ hq4) cw_X7_206 sh_18 rfl rfl ⟨by decide, by decide⟩ rfl rfl (Nat.le_of_ble_eq_true rfl) dX7_readsOtherwise_25 ?_
  refine x_istore C [(4, .int q4), (3, .int y3), (2, .int y2), (0, .ref (G.ad 0)), (1, .int x1)] dX7_readsOtherwise_28 (by decide) rfl ?_
  refine x_aload_n C 3 dX7_readsOtherwise_30 rfl rfl ?_
  refine x_getR C fc_X7 fl_X7_42 sh_0 (by decide) rfl dX7_readsOtherwise_31 ?_
  refine x_iload_n C 1 dX7_readsOtherwise_34 rfl rfl ?_
  obtain ⟨q5, hq5, hF⟩ := f_bind hF
  refine x_cVi (rest := []) C (c_X6_meantAt l C.2.2.2.2.2.2.2.2 isV_31 y3 μ hq5) cw_X7_206 sh_36 rfl rfl ⟨by decide, by decide⟩ rfl rfl (Nat.le_of_ble_eq_true rfl) dX7_readsOtherwise_35 ?_
  refine x_istore C [(5, .int q5), (4, .int q4), (3, .int y3), (2, .int y2), (0, .ref (G.ad 0)), (1, .int x1)] dX7_readsOtherwise_38 (by decide) rfl ?_
  refine x_aload_n C 4 dX7_readsOtherwise_40 rfl rfl ?_
  refine x_getR C fc_X7 fl_X7_35 sh_0 (by decide) rfl dX7_readsOtherwise_41 ?_
  refine x_iload_n C 3 dX7_readsOtherwise_44 rfl rfl ?_
  obtain ⟨q6, hq6, hF⟩ := f_bind hF
  refine x_cVi (rest := []) C (c_X6_formAt l C.2.2.2.2.2.2.2.2 isV_13 y2 μ hq6) cw_X7_212 sh_18 rfl rfl ⟨by decide, by decide⟩ rfl rfl (Nat.le_of_ble_eq_true rfl) dX7_readsOtherwise_45 ?_
  refine x_istore C [(6, .int q6), (5, .int q5), (4, .int q4), (3, .int y3), (2, .int y2), (0, .ref (G.ad 0)), (1, .int x1)] dX7_readsOtherwise_48 (by decide) rfl ?_
  refine x_iload C 0 dX7_readsOtherwise_50 rfl ?_
  refine x_aload_n C 5 dX7_readsOtherwise_52 rfl rfl ?_
  refine x_getR C fc_X7 fl_X7_42 sh_0 (by decide) rfl dX7_readsOtherwise_53 ?_
  refine x_iload_n C 3 dX7_readsOtherwise_56 rfl rfl ?_
  obtain ⟨q7, hq7, hF⟩ := f_bind hF
  refine x_cVi (rest := [.int q6]) C (c_X6_formAt l C.2.2.2.2.2.2.2.2 isV_31 y3 μ hq7) cw_X7_212 sh_36 rfl rfl ⟨by decide, by decide⟩ rfl rfl (Nat.le_of_ble_eq_true rfl) dX7_readsOtherwise_57 ?_
  refine x_icmp_ne (tgt := 161) C dX7_readsOtherwise_60 (by decide) (fun hc => ?_) (fun hc => ?_)
  · replace hF := f_f hc hF
    refine x_iconst (v := 1) C dX7_readsOtherwise_161 (by decide) ?_
    refine x_goto (tgt := 166) C dX7_readsOtherwise_162 (by decide) ?_
    exact x_zret C dX7_readsOtherwise_166 (by decide) (Option.some.inj hF) rfl
  · replace hF := f_t hc hF
    refine x_aload_n C 5 dX7_readsOtherwise_63 rfl rfl ?_
    refine x_getR C fc_X7 fl_X7_35 sh_0 (by decide) rfl dX7_readsOtherwise_64 ?_
    refine x_getR C fc_X6 fl_X7_307 sh_18 (by decide) rfl dX7_readsOtherwise_67 ?_
    refine x_iload C 2 dX7_readsOtherwise_70 rfl ?_
    obtain ⟨hi8, hF⟩ := f_chk hF
    refine x_iald C sh_27 hi8 dX7_readsOtherwise_72 ?_
    refine x_aload_n C 5 dX7_readsOtherwise_73 rfl rfl ?_
    refine x_getR C fc_X7 fl_X7_42 sh_0 (by decide) rfl dX7_readsOtherwise_74 ?_
    refine x_getR C fc_X6 fl_X7_307 sh_36 (by decide) rfl dX7_readsOtherwise_77 ?_
    refine x_iload C 1 dX7_readsOtherwise_80 rfl ?_
    obtain ⟨hi9, hF⟩ := f_chk hF
    refine x_iald C sh_45 hi9 dX7_readsOtherwise_82 ?_
    refine x_icmp_ne (tgt := 161) C dX7_readsOtherwise_83 (by decide) (fun hc => ?_) (fun hc => ?_)
    · replace hF := f_f hc hF
      refine x_iconst (v := 1) C dX7_readsOtherwise_161 (by decide) ?_
      refine x_goto (tgt := 166) C dX7_readsOtherwise_162 (by decide) ?_
      exact x_zret C dX7_readsOtherwise_166 (by decide) (Option.some.inj hF) rfl
    · replace hF := f_t hc hF
      refine x_aload_n C 5 dX7_readsOtherwise_86 rfl rfl ?_
      refine x_getR C fc_X7 fl_X7_35 sh_0 (by decide) rfl dX7_readsOtherwise_87 ?_
      refine x_getR C fc_X6 fl_X7_310 sh_18 (by decide) rfl dX7_readsOtherwise_90 ?_
      refine x_iload C 2 dX7_readsOtherwise_93 rfl ?_
      refine x_zald C sh_28 hi8 dX7_readsOtherwise_95 ?_
      refine x_aload_n C 5 dX7_readsOtherwise_96 rfl rfl ?_
      refine x_getR C fc_X7 fl_X7_42 sh_0 (by decide) rfl dX7_readsOtherwise_97 ?_
      refine x_getR C fc_X6 fl_X7_310 sh_36 (by decide) rfl dX7_readsOtherwise_100 ?_
      refine x_iload C 1 dX7_readsOtherwise_103 rfl ?_
      refine x_zald C sh_46 hi9 dX7_readsOtherwise_105 ?_
      refine x_icmp_ne (tgt := 161) C dX7_readsOtherwise_106 (by decide) (fun hc => ?_) (fun hc => ?_)
      · replace hF := f_f hc hF
        refine x_iconst (v := 1) C dX7_readsOtherwise_161 (by decide) ?_
        refine x_goto (tgt := 166) C dX7_readsOtherwise_162 (by decide) ?_
        exact x_zret C dX7_readsOtherwise_166 (by decide) (Option.some.inj hF) rfl
      · replace hF := f_t hc hF
        refine x_aload_n C 5 dX7_readsOtherwise_109 rfl rfl ?_
        refine x_getR C fc_X7 fl_X7_35 sh_0 (by decide) rfl dX7_readsOtherwise_110 ?_
        refine x_getR C fc_X6 fl_X7_313 sh_18 (by decide) rfl dX7_readsOtherwise_113 ?_
        refine x_iload C 2 dX7_readsOtherwise_116 rfl ?_
        refine x_iald C sh_30 hi8 dX7_readsOtherwise_118 ?_
        refine x_aload_n C 5 dX7_readsOtherwise_119 rfl rfl ?_
        refine x_getR C fc_X7 fl_X7_42 sh_0 (by decide) rfl dX7_readsOtherwise_120 ?_
        refine x_getR C fc_X6 fl_X7_313 sh_36 (by decide) rfl dX7_readsOtherwise_123 ?_
        refine x_iload C 1 dX7_readsOtherwise_126 rfl ?_
        refine x_iald C sh_48 hi9 dX7_readsOtherwise_128 ?_
        refine x_icmp_ne (tgt := 161) C dX7_readsOtherwise_129 (by decide) (fun hc => ?_) (fun hc => ?_)
        · replace hF := f_f hc hF
          refine x_iconst (v := 1) C dX7_readsOtherwise_161 (by decide) ?_
          refine x_goto (tgt := 166) C dX7_readsOtherwise_162 (by decide) ?_
          exact x_zret C dX7_readsOtherwise_166 (by decide) (Option.some.inj hF) rfl
        · replace hF := f_t hc hF
          refine x_iload C 0 dX7_readsOtherwise_132 rfl ?_
          refine x_iconst (v := 5) C dX7_readsOtherwise_134 (by decide) ?_
          refine x_icmp_ne (tgt := 165) C dX7_readsOtherwise_135 (by decide) (fun hc => ?_) (fun hc => ?_)
          · replace hF := f_f hc hF
            refine x_iconst (v := 0) C dX7_readsOtherwise_165 (by decide) ?_
            exact x_zret C dX7_readsOtherwise_166 (by decide) (Option.some.inj hF) rfl
          · replace hF := f_t hc hF
            refine x_aload_n C 5 dX7_readsOtherwise_138 rfl rfl ?_
            refine x_getR C fc_X7 fl_X7_35 sh_0 (by decide) rfl dX7_readsOtherwise_139 ?_
            refine x_getR C fc_X6 fl_X7_316 sh_18 (by decide) rfl dX7_readsOtherwise_142 ?_
            refine x_iload C 2 dX7_readsOtherwise_145 rfl ?_
            refine x_iald C sh_26 hi8 dX7_readsOtherwise_147 ?_
            refine x_aload_n C 5 dX7_readsOtherwise_148 rfl rfl ?_
            refine x_getR C fc_X7 fl_X7_42 sh_0 (by decide) rfl dX7_readsOtherwise_149 ?_
            refine x_getR C fc_X6 fl_X7_316 sh_36 (by decide) rfl dX7_readsOtherwise_152 ?_
            refine x_iload C 1 dX7_readsOtherwise_155 rfl ?_
            refine x_iald C sh_44 hi9 dX7_readsOtherwise_157 ?_
            refine x_icmp_eq (tgt := 165) C dX7_readsOtherwise_158 (by decide) (fun hc => ?_) (fun hc => ?_)
            · replace hF := f_t hc hF
              refine x_iconst (v := 0) C dX7_readsOtherwise_165 (by decide) ?_
              exact x_zret C dX7_readsOtherwise_166 (by decide) (Option.some.inj hF) rfl
            · replace hF := f_f hc hF
              refine x_iconst (v := 1) C dX7_readsOtherwise_161 (by decide) ?_
              refine x_goto (tgt := 166) C dX7_readsOtherwise_162 (by decide) ?_
              exact x_zret C dX7_readsOtherwise_166 (by decide) (Option.some.inj hF) rfl
set_option maxHeartbeats 4000000 in
theorem c_X7_readsOtherwise {G : Gl} (l : Launch) (hA : Ap G) {r : Int32}  (x1 : Int32) (μ : Mu) (hF : f_X7_readsOtherwise x1 μ = some r) : Mth G l yX7_readsOtherwise cX7_readsOtherwise 7 (some .boolean) 3 67 [.ref (G.ad 0), .int x1] (some (.int r)) μ μ := Mth.of hA (by decide) rfl (Nat.le_of_ble_eq_true rfl) (fun p e s0 m args below meth c C => w_X7_readsOtherwise C x1 μ hF)
set_option maxHeartbeats 4000000 in
theorem w_X7_beside_b156 {G : Gl} {p : Program} {l : Launch} {e : Env} {s0 : State} {m : MethodId} {args : Array Value} {below : List Frame} {meth : Method} {c : Code} (C : Cx G p s0 m args meth c cX7_beside 11 RX7 (some .int)) {r : Int32} {μf : Mu}  {k62 : Int32 → Int32 → Int32 → Int32 → Int32 → Mu → Option (Int32 × Mu)} (hk62 : ∀ (x2 : Int32) (x4 : Int32) (x5 : Int32) (x6 : Int32) (x7 : Int32) (μ : Mu), k62 x2 x4 x5 x6 x7 μ = some (r, μf) → X G p l e 6 151 s0 m args below meth c 11 (some (.int r)) μf μ 62 [(0, .ref (G.ad 0)), (2, .int x2), (3, .ref (G.ad 18)), (4, .int x4), (5, .int x5), (6, .int x6), (7, .int x7)] []) (x2 : Int32) (x4 : Int32) (x6 : Int32) (x7 : Int32) (x9 : Int32) (x10 : Int32) (t0 : Int32) (t1 : Int32) (μ : Mu) (hF : f_X7_beside_b156 k62 x2 x4 x6 x7 x9 x10 t0 t1 μ = some (r, μf)) : X G p l e 6 151 s0 m args below meth c 11 (some (.int r)) μf μ 156 [(0, .ref (G.ad 0)), (2, .int x2), (3, .ref (G.ad 18)), (4, .int x4), (6, .int x6), (7, .int x7), (9, .int x9), (10, .int x10)] [.int t1, .int t0] := by
  unfold f_X7_beside_b156 at hF
  refine x_iadd C dX7_beside_156 ?_
  refine x_letI hF (fun y1 hF => ?_)
  refine x_istore C [(5, .int y1), (0, .ref (G.ad 0)), (2, .int x2), (3, .ref (G.ad 18)), (4, .int x4), (6, .int x6), (7, .int x7), (9, .int x9), (10, .int x10)] dX7_beside_157 (by decide) rfl ?_
  refine x_iload C 5 dX7_beside_159 rfl ?_
  refine x_iconst (v := (-1)) C dX7_beside_161 (by decide) ?_
  refine x_icmp_ne (tgt := 180) C dX7_beside_162 (by decide) (fun hc => ?_) (fun hc => ?_)
  · replace hF := f_f hc hF
    refine x_iload C 5 dX7_beside_180 rfl ?_
    refine x_istore C [(6, .int x6), (5, .int y1), (0, .ref (G.ad 0)), (2, .int x2), (3, .ref (G.ad 18)), (4, .int x4), (7, .int x7), (9, .int x9), (10, .int x10)] dX7_beside_182 (by decide) rfl ?_
    refine x_iinc C [(7, .int (x7 + 1)), (6, .int x6), (5, .int y1), (0, .ref (G.ad 0)), (2, .int x2), (3, .ref (G.ad 18)), (4, .int x4), (9, .int x9), (10, .int x10)] 6 dX7_beside_184 rfl rfl (by decide) rfl ?_
    refine x_goto (tgt := 62) C dX7_beside_187 (by decide) ?_
    exact x_pick [(0, .ref (G.ad 0)), (2, .int x2), (3, .ref (G.ad 18)), (4, .int x4), (5, .int y1), (6, .int x6), (7, .int (x7 + 1))] [3, 4, 5, 6, 2, 1, 0] rfl (hk62 x2 x4 y1 x6 (x7 + 1) μ hF)
  · replace hF := f_t hc hF
    refine x_iload C 7 dX7_beside_165 rfl ?_
    refine x_if_ne (tgt := 175) C dX7_beside_167 (by decide) (fun hc => ?_) (fun hc => ?_)
    · replace hF := f_f hc hF
      refine x_iload C 6 dX7_beside_175 rfl ?_
      refine x_goto (tgt := 182) C dX7_beside_177 (by decide) ?_
      refine x_istore C [(6, .int x7), (5, .int y1), (0, .ref (G.ad 0)), (2, .int x2), (3, .ref (G.ad 18)), (4, .int x4), (7, .int x7), (9, .int x9), (10, .int x10)] dX7_beside_182 (by decide) rfl ?_
      refine x_iinc C [(7, .int (x7 + 1)), (6, .int x7), (5, .int y1), (0, .ref (G.ad 0)), (2, .int x2), (3, .ref (G.ad 18)), (4, .int x4), (9, .int x9), (10, .int x10)] 6 dX7_beside_184 rfl rfl (by decide) rfl ?_
      refine x_goto (tgt := 62) C dX7_beside_187 (by decide) ?_
      exact x_pick [(0, .ref (G.ad 0)), (2, .int x2), (3, .ref (G.ad 18)), (4, .int x4), (5, .int y1), (6, .int x7), (7, .int (x7 + 1))] [3, 4, 5, 6, 2, 1, 0] rfl (hk62 x2 x4 y1 x7 (x7 + 1) μ hF)
    · replace hF := f_t hc hF
      refine x_iload C 8 dX7_beside_170 rfl ?_
      refine x_if_eq (tgt := 180) C dX7_beside_172 (by decide) (fun hc => ?_) (fun hc => ?_)
      · replace hF := f_t hc hF
        refine x_iload C 5 dX7_beside_180 rfl ?_
        refine x_istore C [(6, .int x6), (5, .int y1), (0, .ref (G.ad 0)), (2, .int x2), (3, .ref (G.ad 18)), (4, .int x4), (7, .int x7), (9, .int x9), (10, .int x10)] dX7_beside_182 (by decide) rfl ?_
        refine x_iinc C [(7, .int (x7 + 1)), (6, .int x6), (5, .int y1), (0, .ref (G.ad 0)), (2, .int x2), (3, .ref (G.ad 18)), (4, .int x4), (9, .int x9), (10, .int x10)] 6 dX7_beside_184 rfl rfl (by decide) rfl ?_
        refine x_goto (tgt := 62) C dX7_beside_187 (by decide) ?_
        exact x_pick [(0, .ref (G.ad 0)), (2, .int x2), (3, .ref (G.ad 18)), (4, .int x4), (5, .int y1), (6, .int x6), (7, .int (x7 + 1))] [3, 4, 5, 6, 2, 1, 0] rfl (hk62 x2 x4 y1 x6 (x7 + 1) μ hF)
      · replace hF := f_f hc hF
        refine x_iload C 6 dX7_beside_175 rfl ?_
        refine x_goto (tgt := 182) C dX7_beside_177 (by decide) ?_
        refine x_istore C [(6, .int x7), (5, .int y1), (0, .ref (G.ad 0)), (2, .int x2), (3, .ref (G.ad 18)), (4, .int x4), (7, .int x7), (9, .int x9), (10, .int x10)] dX7_beside_182 (by decide) rfl ?_
        refine x_iinc C [(7, .int (x7 + 1)), (6, .int x7), (5, .int y1), (0, .ref (G.ad 0)), (2, .int x2), (3, .ref (G.ad 18)), (4, .int x4), (9, .int x9), (10, .int x10)] 6 dX7_beside_184 rfl rfl (by decide) rfl ?_
        refine x_goto (tgt := 62) C dX7_beside_187 (by decide) ?_
        exact x_pick [(0, .ref (G.ad 0)), (2, .int x2), (3, .ref (G.ad 18)), (4, .int x4), (5, .int y1), (6, .int x7), (7, .int (x7 + 1))] [3, 4, 5, 6, 2, 1, 0] rfl (hk62 x2 x4 y1 x7 (x7 + 1) μ hF)
set_option maxHeartbeats 4000000 in
theorem w_X7_beside_b127 {G : Gl} {p : Program} {l : Launch} {e : Env} {s0 : State} {m : MethodId} {args : Array Value} {below : List Frame} {meth : Method} {c : Code} (C : Cx G p s0 m args meth c cX7_beside 11 RX7 (some .int)) {r : Int32} {μf : Mu}  {k62 : Int32 → Int32 → Int32 → Int32 → Int32 → Mu → Option (Int32 × Mu)} (hk62 : ∀ (x2 : Int32) (x4 : Int32) (x5 : Int32) (x6 : Int32) (x7 : Int32) (μ : Mu), k62 x2 x4 x5 x6 x7 μ = some (r, μf) → X G p l e 6 151 s0 m args below meth c 11 (some (.int r)) μf μ 62 [(0, .ref (G.ad 0)), (2, .int x2), (3, .ref (G.ad 18)), (4, .int x4), (5, .int x5), (6, .int x6), (7, .int x7)] []) (x2 : Int32) (x4 : Int32) (x5 : Int32) (x6 : Int32) (x7 : Int32) (x9 : Int32) (t0 : Int32) (μ : Mu) (hF : f_X7_beside_b127 k62 x2 x4 x5 x6 x7 x9 t0 μ = some (r, μf)) : X G p l e 6 151 s0 m args below meth c 11 (some (.int r)) μf μ 127 [(0, .ref (G.ad 0)), (2, .int x2), (3, .ref (G.ad 18)), (4, .int x4), (5, .int x5), (6, .int x6), (7, .int x7), (9, .int x9)] [.int t0] := by
  unfold f_X7_beside_b127 at hF
  refine x_istore C [(10, .int t0), (0, .ref (G.ad 0)), (2, .int x2), (3, .ref (G.ad 18)), (4, .int x4), (5, .int x5), (6, .int x6), (7, .int x7), (9, .int x9)] dX7_beside_127 (by decide) rfl ?_
  refine x_iload C 4 dX7_beside_129 rfl ?_
  refine x_iload C 8 dX7_beside_131 rfl ?_
  refine x_if_eq (tgt := 140) C dX7_beside_133 (by decide) (fun hc => ?_) (fun hc => ?_)
  · replace hF := f_t hc hF
    refine x_iconst (v := 0) C dX7_beside_140 (by decide) ?_
    refine x_iadd C dX7_beside_141 ?_
    refine x_letI hF (fun y1 hF => ?_)
    refine x_istore C [(4, .int y1), (10, .int t0), (0, .ref (G.ad 0)), (2, .int x2), (3, .ref (G.ad 18)), (5, .int x5), (6, .int x6), (7, .int x7), (9, .int x9)] dX7_beside_142 (by decide) rfl ?_
    refine x_iload C 5 dX7_beside_144 rfl ?_
    refine x_iload C 1 dX7_beside_146 rfl ?_
    refine x_if_eq (tgt := 155) C dX7_beside_148 (by decide) (fun hc => ?_) (fun hc => ?_)
    · replace hF := f_t hc hF
      refine x_iconst (v := 0) C dX7_beside_155 (by decide) ?_
      exact x_pick [(0, .ref (G.ad 0)), (2, .int x2), (3, .ref (G.ad 18)), (4, .int y1), (6, .int x6), (7, .int x7), (9, .int x9), (10, .int t0)] [2, 3, 4, 0, 6, 7, 8, 1] rfl (w_X7_beside_b156 C hk62 x2 y1 x6 x7 x9 t0 x5 0 μ hF)
    · replace hF := f_f hc hF
      refine x_iconst (v := 1) C dX7_beside_151 (by decide) ?_
      refine x_goto (tgt := 156) C dX7_beside_152 (by decide) ?_
      exact x_pick [(0, .ref (G.ad 0)), (2, .int x2), (3, .ref (G.ad 18)), (4, .int y1), (6, .int x6), (7, .int x7), (9, .int x9), (10, .int t0)] [2, 3, 4, 0, 6, 7, 8, 1] rfl (w_X7_beside_b156 C hk62 x2 y1 x6 x7 x9 t0 x5 1 μ hF)
  · replace hF := f_f hc hF
    refine x_iconst (v := 1) C dX7_beside_136 (by decide) ?_
    refine x_goto (tgt := 141) C dX7_beside_137 (by decide) ?_
    refine x_iadd C dX7_beside_141 ?_
    refine x_letI hF (fun y2 hF => ?_)
    refine x_istore C [(4, .int y2), (10, .int t0), (0, .ref (G.ad 0)), (2, .int x2), (3, .ref (G.ad 18)), (5, .int x5), (6, .int x6), (7, .int x7), (9, .int x9)] dX7_beside_142 (by decide) rfl ?_
    refine x_iload C 5 dX7_beside_144 rfl ?_
    refine x_iload C 1 dX7_beside_146 rfl ?_
    refine x_if_eq (tgt := 155) C dX7_beside_148 (by decide) (fun hc => ?_) (fun hc => ?_)
    · replace hF := f_t hc hF
      refine x_iconst (v := 0) C dX7_beside_155 (by decide) ?_
      exact x_pick [(0, .ref (G.ad 0)), (2, .int x2), (3, .ref (G.ad 18)), (4, .int y2), (6, .int x6), (7, .int x7), (9, .int x9), (10, .int t0)] [2, 3, 4, 0, 6, 7, 8, 1] rfl (w_X7_beside_b156 C hk62 x2 y2 x6 x7 x9 t0 x5 0 μ hF)
    · replace hF := f_f hc hF
      refine x_iconst (v := 1) C dX7_beside_151 (by decide) ?_
      refine x_goto (tgt := 156) C dX7_beside_152 (by decide) ?_
      exact x_pick [(0, .ref (G.ad 0)), (2, .int x2), (3, .ref (G.ad 18)), (4, .int y2), (6, .int x6), (7, .int x7), (9, .int x9), (10, .int t0)] [2, 3, 4, 0, 6, 7, 8, 1] rfl (w_X7_beside_b156 C hk62 x2 y2 x6 x7 x9 t0 x5 1 μ hF)
set_option maxHeartbeats 4000000 in
theorem w_X7_beside_b101 {G : Gl} {p : Program} {l : Launch} {e : Env} {s0 : State} {m : MethodId} {args : Array Value} {below : List Frame} {meth : Method} {c : Code} (C : Cx G p s0 m args meth c cX7_beside 11 RX7 (some .int)) {r : Int32} {μf : Mu}  {k62 : Int32 → Int32 → Int32 → Int32 → Int32 → Mu → Option (Int32 × Mu)} (hk62 : ∀ (x2 : Int32) (x4 : Int32) (x5 : Int32) (x6 : Int32) (x7 : Int32) (μ : Mu), k62 x2 x4 x5 x6 x7 μ = some (r, μf) → X G p l e 6 151 s0 m args below meth c 11 (some (.int r)) μf μ 62 [(0, .ref (G.ad 0)), (2, .int x2), (3, .ref (G.ad 18)), (4, .int x4), (5, .int x5), (6, .int x6), (7, .int x7)] []) (x2 : Int32) (x4 : Int32) (x5 : Int32) (x6 : Int32) (x7 : Int32) (x8 : Int32) (t0 : Int32) (μ : Mu) (hF : f_X7_beside_b101 k62 x2 x4 x5 x6 x7 x8 t0 μ = some (r, μf)) : X G p l e 6 151 s0 m args below meth c 11 (some (.int r)) μf μ 101 [(0, .ref (G.ad 0)), (2, .int x2), (3, .ref (G.ad 18)), (4, .int x4), (5, .int x5), (6, .int x6), (7, .int x7), (8, .int x8)] [.int t0] := by
  unfold f_X7_beside_b101 at hF
  refine x_istore C [(9, .int t0), (0, .ref (G.ad 0)), (2, .int x2), (3, .ref (G.ad 18)), (4, .int x4), (5, .int x5), (6, .int x6), (7, .int x7), (8, .int x8)] dX7_beside_101 (by decide) rfl ?_
  refine x_iload C 0 dX7_beside_103 rfl ?_
  refine x_if_ne (tgt := 126) C dX7_beside_105 (by decide) (fun hc => ?_) (fun hc => ?_)
  · replace hF := f_f hc hF
    refine x_iconst (v := 0) C dX7_beside_126 (by decide) ?_
    exact x_pick [(0, .ref (G.ad 0)), (2, .int x2), (3, .ref (G.ad 18)), (4, .int x4), (5, .int x5), (6, .int x6), (7, .int x7), (9, .int t0)] [1, 2, 3, 4, 5, 6, 7, 0] rfl (w_X7_beside_b127 C hk62 x2 x4 x5 x6 x7 t0 0 μ hF)
  · replace hF := f_t hc hF
    refine x_iload C 8 dX7_beside_108 rfl ?_
    refine x_if_eq (tgt := 126) C dX7_beside_110 (by decide) (fun hc => ?_) (fun hc => ?_)
    · replace hF := f_t hc hF
      refine x_iconst (v := 0) C dX7_beside_126 (by decide) ?_
      exact x_pick [(0, .ref (G.ad 0)), (2, .int x2), (3, .ref (G.ad 18)), (4, .int x4), (5, .int x5), (6, .int x6), (7, .int x7), (9, .int t0)] [1, 2, 3, 4, 5, 6, 7, 0] rfl (w_X7_beside_b127 C hk62 x2 x4 x5 x6 x7 t0 0 μ hF)
    · replace hF := f_f hc hF
      refine x_aload_n C 1 dX7_beside_113 rfl rfl ?_
      refine x_iload C 7 dX7_beside_114 rfl ?_
      obtain ⟨q1, hq1, hF⟩ := f_bind hF
      refine x_cVi (rest := []) C (c_X7_readsOtherwise l C.2.2.2.2.2.2.2.2 x7 μ hq1) cw_X7_274 sh_0 rfl rfl ⟨by decide, by decide⟩ rfl rfl (Nat.le_of_ble_eq_true rfl) dX7_beside_116 ?_
      refine x_if_eq (tgt := 126) C dX7_beside_119 (by decide) (fun hc => ?_) (fun hc => ?_)
      · replace hF := f_t hc hF
        refine x_iconst (v := 0) C dX7_beside_126 (by decide) ?_
        exact x_pick [(0, .ref (G.ad 0)), (2, .int x2), (3, .ref (G.ad 18)), (4, .int x4), (5, .int x5), (6, .int x6), (7, .int x7), (9, .int t0)] [1, 2, 3, 4, 5, 6, 7, 0] rfl (w_X7_beside_b127 C hk62 x2 x4 x5 x6 x7 t0 0 μ hF)
      · replace hF := f_f hc hF
        refine x_iconst (v := 1) C dX7_beside_122 (by decide) ?_
        refine x_goto (tgt := 127) C dX7_beside_123 (by decide) ?_
        exact x_pick [(0, .ref (G.ad 0)), (2, .int x2), (3, .ref (G.ad 18)), (4, .int x4), (5, .int x5), (6, .int x6), (7, .int x7), (9, .int t0)] [1, 2, 3, 4, 5, 6, 7, 0] rfl (w_X7_beside_b127 C hk62 x2 x4 x5 x6 x7 t0 1 μ hF)
set_option maxHeartbeats 4000000 in
theorem w_X7_beside_L62 {G : Gl} {p : Program} {l : Launch} {e : Env} {s0 : State} {m : MethodId} {args : Array Value} {below : List Frame} {meth : Method} {c : Code} (C : Cx G p s0 m args meth c cX7_beside 11 RX7 (some .int)) {r : Int32} {μf : Mu}  : ∀ (n : Nat) (x2 : Int32) (x4 : Int32) (x5 : Int32) (x6 : Int32) (x7 : Int32) (μ : Mu), f_X7_beside_L62 n x2 x4 x5 x6 x7 μ = some (r, μf) → X G p l e 6 151 s0 m args below meth c 11 (some (.int r)) μf μ 62 [(0, .ref (G.ad 0)), (2, .int x2), (3, .ref (G.ad 18)), (4, .int x4), (5, .int x5), (6, .int x6), (7, .int x7)] [] := by
  intro n
  induction n with
  | zero =>
    intro x2 x4 x5 x6 x7 μ hF
    rw [f_X7_beside_L62] at hF
    cases hF
  | succ n ih =>
    intro x2 x4 x5 x6 x7 μ hF
    rw [f_X7_beside_L62] at hF
    refine x_iload C 6 dX7_beside_62 rfl ?_
    refine x_aload_n C 0 dX7_beside_64 rfl rfl ?_
    refine x_getR C fc_X7 fl_X7_19 sh_0 (by decide) rfl dX7_beside_65 ?_
    refine x_getI C fc_X0 fl_X7_182 sh_10 (by decide) rfl dX7_beside_68 ?_
    refine x_icmp_ge (tgt := 190) C dX7_beside_71 (by decide) (fun hc => ?_) (fun hc => ?_)
    · replace hF := f_t hc hF
      refine x_iload_n C 1 dX7_beside_190 rfl rfl ?_
      refine x_if_ne (tgt := 199) C dX7_beside_191 (by decide) (fun hc => ?_) (fun hc => ?_)
      · replace hF := f_f hc hF
        refine x_iload_n C 1 dX7_beside_199 rfl rfl ?_
        refine x_iconst (v := 1) C dX7_beside_200 (by decide) ?_
        refine x_icmp_ne (tgt := 209) C dX7_beside_201 (by decide) (fun hc => ?_) (fun hc => ?_)
        · replace hF := f_f hc hF
          refine x_iload C 5 dX7_beside_209 rfl ?_
          exact x_iret C dX7_beside_211 (Prod.mk.inj (Option.some.inj hF)).1 (Prod.mk.inj (Option.some.inj hF)).2
        · replace hF := f_t hc hF
          refine x_iload C 4 dX7_beside_204 rfl ?_
          refine x_goto (tgt := 211) C dX7_beside_206 (by decide) ?_
          exact x_iret C dX7_beside_211 (Prod.mk.inj (Option.some.inj hF)).1 (Prod.mk.inj (Option.some.inj hF)).2
      · replace hF := f_t hc hF
        refine x_iload C 3 dX7_beside_194 rfl ?_
        refine x_goto (tgt := 211) C dX7_beside_196 (by decide) ?_
        exact x_iret C dX7_beside_211 (Prod.mk.inj (Option.some.inj hF)).1 (Prod.mk.inj (Option.some.inj hF)).2
    · replace hF := f_f hc hF
      refine x_aload_n C 2 dX7_beside_74 rfl rfl ?_
      refine x_iload C 6 dX7_beside_75 rfl ?_
      obtain ⟨q1, hq1, hF⟩ := f_bind hF
      refine x_cVi (rest := []) C (c_X6_stands l C.2.2.2.2.2.2.2.2 isV_13 x7 μ hq1) cw_X7_188 sh_18 rfl rfl ⟨by decide, by decide⟩ rfl rfl (Nat.le_of_ble_eq_true rfl) dX7_beside_77 ?_
      refine x_istore C [(8, .int q1), (0, .ref (G.ad 0)), (2, .int x2), (3, .ref (G.ad 18)), (4, .int x4), (5, .int x5), (6, .int x6), (7, .int x7)] dX7_beside_80 (by decide) rfl ?_
      refine x_iload C 0 dX7_beside_82 rfl ?_
      refine x_aload_n C 1 dX7_beside_84 rfl rfl ?_
      refine x_getR C fc_X7 fl_X7_42 sh_0 (by decide) rfl dX7_beside_85 ?_
      refine x_iload C 7 dX7_beside_88 rfl ?_
      obtain ⟨q2, hq2, hF⟩ := f_bind hF
      refine x_cVi (rest := [.int q1]) C (c_X6_stands l C.2.2.2.2.2.2.2.2 isV_31 x7 μ hq2) cw_X7_188 sh_36 rfl rfl ⟨by decide, by decide⟩ rfl rfl (Nat.le_of_ble_eq_true rfl) dX7_beside_90 ?_
      refine x_icmp_eq (tgt := 100) C dX7_beside_93 (by decide) (fun hc => ?_) (fun hc => ?_)
      · replace hF := f_t hc hF
        refine x_iconst (v := 0) C dX7_beside_100 (by decide) ?_
        exact x_pick [(0, .ref (G.ad 0)), (2, .int x2), (3, .ref (G.ad 18)), (4, .int x4), (5, .int x5), (6, .int x6), (7, .int x7), (8, .int q1)] [1, 2, 3, 4, 5, 6, 7, 0] rfl (w_X7_beside_b101 C ih x2 x4 x5 x6 x7 q1 0 μ hF)
      · replace hF := f_f hc hF
        refine x_iconst (v := 1) C dX7_beside_96 (by decide) ?_
        refine x_goto (tgt := 101) C dX7_beside_97 (by decide) ?_
        exact x_pick [(0, .ref (G.ad 0)), (2, .int x2), (3, .ref (G.ad 18)), (4, .int x4), (5, .int x5), (6, .int x6), (7, .int x7), (8, .int q1)] [1, 2, 3, 4, 5, 6, 7, 0] rfl (w_X7_beside_b101 C ih x2 x4 x5 x6 x7 q1 1 μ hF)
set_option maxHeartbeats 4000000 in
theorem w_X7_beside {G : Gl} {p : Program} {l : Launch} {e : Env} {s0 : State} {m : MethodId} {args : Array Value} {below : List Frame} {meth : Method} {c : Code} (C : Cx G p s0 m args meth c cX7_beside 11 RX7 (some .int)) {r : Int32} {μf : Mu}  (x1 : Int32) (x2 : Int32) (μ : Mu) (hF : f_X7_beside x1 x2 μ = some (r, μf)) : X G p l e 6 151 s0 m args below meth c 11 (some (.int r)) μf μ 0 [(0, .ref (G.ad 0)), (1, .int x1), (2, .int x2)] [] := by
  unfold f_X7_beside at hF
  refine x_aload_n C 0 dX7_beside_0 rfl rfl ?_
  refine x_iload_n C 1 dX7_beside_1 rfl rfl ?_
  obtain ⟨q1, hq1, hF⟩ := f_bind hF
  refine x_cVi (rest := []) C (c_X7_isKept l C.2.2.2.2.2.2.2.2 x1 μ hq1) cw_X7_268 sh_0 rfl rfl ⟨by decide, by decide⟩ rfl rfl (Nat.le_of_ble_eq_true rfl) dX7_beside_2 ?_
  refine x_if_ne (tgt := 12) C dX7_beside_5 (by decide) (fun hc => ?_) (fun hc => ?_)
  · replace hF := f_f hc hF
    refine x_iload_n C 2 dX7_beside_12 rfl rfl ?_
    refine x_iconst (v := 0) C dX7_beside_13 (by decide) ?_
    refine x_iconst (v := 2) C dX7_beside_14 (by decide) ?_
    refine x_cSi (rest := []) C (c_X7_within l C.2.2.2.2.2.2.2.2 x2 0 2 μ) cw_X7_78 ⟨by decide, by decide⟩ rfl rfl (Nat.le_of_ble_eq_true rfl) dX7_beside_15 ?_
    refine x_if_ne (tgt := 25) C dX7_beside_18 (by decide) (fun hc => ?_) (fun hc => ?_)
    · replace hF := f_f hc hF
      refine x_aload_n C 0 dX7_beside_25 rfl rfl ?_
      obtain ⟨q2, hq2, hF⟩ := f_bind hF
      refine x_cVr (rest := []) C (c_X7_settledView l C.2.2.2.2.2.2.2.2 μ hq2) cw_X7_123 sh_0 rfl rfl ⟨by decide, by decide⟩ rfl rfl (Nat.le_of_ble_eq_true rfl) dX7_beside_26 ?_
      refine x_astore_n C [(3, .ref (G.ad 18)), (0, .ref (G.ad 0)), (1, .int x1), (2, .int x2)] dX7_beside_29 rfl (by decide) rfl ?_
      refine x_aload_n C 1 dX7_beside_30 rfl rfl ?_
      refine x_getR C fc_X7 fl_X7_39 sh_0 (by decide) rfl dX7_beside_31 ?_
      refine x_aload_n C 1 dX7_beside_34 rfl rfl ?_
      refine x_getR C fc_X7 fl_X7_45 sh_0 (by decide) rfl dX7_beside_35 ?_
      refine x_iload_n C 2 dX7_beside_38 rfl rfl ?_
      obtain ⟨hi3, hF⟩ := f_chk hF
      refine x_aald C sh_49 hi3 dX7_beside_39 ?_
      obtain ⟨q4, hq4, hF⟩ := f_bind hF
      refine x_cVv (rest := []) C (c_X1_copyOf l C.2.2.2.2.2.2.2.2 isD_31 (isD_ver hi3) q2 hq4) cw_X7_264 sh_31 rfl rfl ⟨by decide, by decide⟩ rfl rfl (Nat.le_of_ble_eq_true rfl) dX7_beside_40 ?_
      refine x_aload_n C 1 dX7_beside_43 rfl rfl ?_
      refine x_getR C fc_X7 fl_X7_42 sh_0 (by decide) rfl dX7_beside_44 ?_
      obtain ⟨q5, hq5, hF⟩ := f_bind hF
      refine x_cVv (rest := []) C (c_X6_settle l C.2.2.2.2.2.2.2.2 isV_31 q4 hq5) cw_X7_271 sh_36 rfl rfl ⟨by decide, by decide⟩ rfl rfl (Nat.le_of_ble_eq_true rfl) dX7_beside_47 ?_
      refine x_iconst (v := 0) C dX7_beside_50 (by decide) ?_
      refine x_istore C [(4, .int 0), (3, .ref (G.ad 18)), (0, .ref (G.ad 0)), (1, .int x1), (2, .int x2)] dX7_beside_51 (by decide) rfl ?_
      refine x_iconst (v := 0) C dX7_beside_53 (by decide) ?_
      refine x_istore C [(5, .int 0), (4, .int 0), (3, .ref (G.ad 18)), (0, .ref (G.ad 0)), (1, .int x1), (2, .int x2)] dX7_beside_54 (by decide) rfl ?_
      refine x_iconst (v := (-1)) C dX7_beside_56 (by decide) ?_
      refine x_istore C [(6, .int (-1)), (5, .int 0), (4, .int 0), (3, .ref (G.ad 18)), (0, .ref (G.ad 0)), (1, .int x1), (2, .int x2)] dX7_beside_57 (by decide) rfl ?_
      refine x_iconst (v := 0) C dX7_beside_59 (by decide) ?_
      refine x_istore C [(7, .int 0), (6, .int (-1)), (5, .int 0), (4, .int 0), (3, .ref (G.ad 18)), (0, .ref (G.ad 0)), (1, .int x1), (2, .int x2)] dX7_beside_60 (by decide) rfl ?_
      exact x_pick [(0, .ref (G.ad 0)), (2, .int x2), (3, .ref (G.ad 18)), (4, .int 0), (5, .int 0), (6, .int (-1)), (7, .int 0)] [5, 7, 4, 3, 2, 1, 0] rfl (w_X7_beside_L62 C fu x2 0 0 (-1) 0 q5 hF)
    · replace hF := f_t hc hF
      refine x_sipush (v := (-1002)) C dX7_beside_21 (by decide) ?_
      exact x_iret C dX7_beside_24 (Prod.mk.inj (Option.some.inj hF)).1 (Prod.mk.inj (Option.some.inj hF)).2
  · replace hF := f_t hc hF
    refine x_sipush (v := (-1001)) C dX7_beside_8 (by decide) ?_
    exact x_iret C dX7_beside_11 (Prod.mk.inj (Option.some.inj hF)).1 (Prod.mk.inj (Option.some.inj hF)).2
set_option maxHeartbeats 4000000 in
theorem c_X7_beside {G : Gl} (l : Launch) (hA : Ap G) {r : Int32} {μf : Mu}  (x1 : Int32) (x2 : Int32) (μ : Mu) (hF : f_X7_beside x1 x2 μ = some (r, μf)) : Mth G l yX7_beside cX7_beside 11 (some .int) 6 151 [.ref (G.ad 0), .int x1, .int x2] (some (.int r)) μf μ := Mth.of hA (by decide) rfl (Nat.le_of_ble_eq_true rfl) (fun p e s0 m args below meth c C => w_X7_beside C x1 x2 μ hF)
