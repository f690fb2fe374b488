set_option maxHeartbeats 4000000 in
theorem w_J7_fill_53178_L5 {G : Gl} {p : Program} {l : Launch} {e : Env} {s0 : State} {m : MethodId} {args : Array Value} {below : List Frame} {meth : Method} {c : Code} (C : Cx G p s0 m args meth c cJ7_fill_53178 4 RJ7 none) {a : Nat} (ha : sh a = .inl (0, 100)) {μf : Mu}  : ∀ (n : Nat) (x1 : Int32) (x2 : Int32) (x3 : Int32) (μ : Mu), f_J7_fill_53178_L5 a n x1 x2 x3 μ = some μf → X G p l e 0 0 s0 m args below meth c 4 none μf μ 5 [(0, .ref (G.ad a)), (1, .int x1), (2, .int x2), (3, .int x3)] [] := by
  intro n
  induction n with
  | zero =>
    intro x1 x2 x3 μ hF
    rw [f_J7_fill_53178_L5] at hF
    cases hF
  | succ n ih =>
    intro x1 x2 x3 μ hF
    rw [f_J7_fill_53178_L5] at hF
    refine x_iload_n C 2 dJ7_fill_53178_5 rfl rfl ?_
    refine x_iload_n C 3 dJ7_fill_53178_6 rfl rfl ?_
    refine x_icmp_ge (tgt := 20) C dJ7_fill_53178_7 (by decide) (fun hc => ?_) (fun hc => ?_)
    · replace hF := f_t hc hF
      exact x_vret C dJ7_fill_53178_20 (Option.some.inj hF)
    · replace hF := f_f hc hF
      refine x_aload_n C 0 dJ7_fill_53178_10 rfl rfl ?_
      refine x_iload_n C 2 dJ7_fill_53178_11 rfl rfl ?_
      refine x_iload_n C 1 dJ7_fill_53178_12 rfl rfl ?_
      obtain ⟨hi1, hF⟩ := f_chk hF
      refine x_iast C ha hi1 dJ7_fill_53178_13 ?_
      refine x_letM hF (fun μ2 hF => ?_)
      refine x_iinc C [(2, .int (x2 + 1)), (0, .ref (G.ad a)), (1, .int x1), (3, .int x3)] 2 dJ7_fill_53178_14 rfl rfl (by decide) rfl ?_
      refine x_goto (tgt := 5) C dJ7_fill_53178_17 (by decide) ?_
      exact x_pick [(0, .ref (G.ad a)), (1, .int x1), (2, .int (x2 + 1)), (3, .int x3)] [1, 2, 0, 3] rfl (ih x1 (x2 + 1) x3 μ2 hF)
set_option maxHeartbeats 4000000 in
theorem w_J7_fill_53178 {G : Gl} {p : Program} {l : Launch} {e : Env} {s0 : State} {m : MethodId} {args : Array Value} {below : List Frame} {meth : Method} {c : Code} (C : Cx G p s0 m args meth c cJ7_fill_53178 4 RJ7 none) {a : Nat} (ha : sh a = .inl (0, 100)) {μf : Mu}  (x1 : Int32) (μ : Mu) (hF : f_J7_fill_53178 a x1 μ = some μf) : X G p l e 0 0 s0 m args below meth c 4 none μf μ 0 [(0, .ref (G.ad a)), (1, .int x1)] [] := by
  unfold f_J7_fill_53178 at hF
  refine x_iconst (v := 0) C dJ7_fill_53178_0 (by decide) ?_
  refine x_istore_n C [(2, .int 0), (0, .ref (G.ad a)), (1, .int x1)] dJ7_fill_53178_1 rfl (by decide) rfl ?_
  refine x_aload_n C 1 dJ7_fill_53178_2 rfl rfl ?_
  refine x_alen (v := 100) C ha (by decide) dJ7_fill_53178_3 ?_
  refine x_istore_n C [(3, .int 100), (2, .int 0), (0, .ref (G.ad a)), (1, .int x1)] dJ7_fill_53178_4 rfl (by decide) rfl ?_
  exact x_pick [(0, .ref (G.ad a)), (1, .int x1), (2, .int 0), (3, .int 100)] [2, 3, 1, 0] rfl (w_J7_fill_53178_L5 C ha fu x1 0 100 μ hF)
set_option maxHeartbeats 4000000 in
theorem c_J7_fill_53178 {G : Gl} (l : Launch) (hA : Ap G) {a : Nat} (ha : sh a = .inl (0, 100)) {μf : Mu}  (x1 : Int32) (μ : Mu) (hF : f_J7_fill_53178 a x1 μ = some μf) : Mth G l yJ7_fill_53178 cJ7_fill_53178 4 none 0 0 [.ref (G.ad a), .int x1] none μf μ := Mth.of hA (by decide) rfl (Nat.le_of_ble_eq_true rfl) (fun p e s0 m args below meth c C => w_J7_fill_53178 C ha x1 μ hF)
set_option maxHeartbeats 4000000 in
theorem w_X0_addCall {G : Gl} {p : Program} {l : Launch} {e : Env} {s0 : State} {m : MethodId} {args : Array Value} {below : List Frame} {meth : Method} {c : Code} (C : Cx G p s0 m args meth c cX0_addCall 4 RX0 (some .int)) {r : Int32} {μf : Mu}  (x1 : Int32) (x2 : Int32) (μ : Mu) (hF : f_X0_addCall x1 x2 μ = some (r, μf)) : X G p l e 0 0 s0 m args below meth c 4 (some (.int r)) μf μ 0 [(0, .ref (G.ad 10)), (1, .int x1), (2, .int x2)] [] := by
  unfold f_X0_addCall at hF
  refine x_aload_n C 0 dX0_addCall_0 rfl rfl ?_
  refine x_getI C fc_X0 fl_X0_18 sh_10 (by decide) rfl dX0_addCall_1 ?_
  refine x_letI hF (fun y1 hF => ?_)
  refine x_istore_n C [(3, .int y1), (0, .ref (G.ad 10)), (1, .int x1), (2, .int x2)] dX0_addCall_4 rfl (by decide) rfl ?_
  refine x_aload_n C 1 dX0_addCall_5 rfl rfl ?_
  refine x_getR C fc_X0 fl_X0_9 sh_10 (by decide) rfl dX0_addCall_6 ?_
  refine x_iload_n C 0 dX0_addCall_9 rfl rfl ?_
  refine x_iload_n C 2 dX0_addCall_10 rfl rfl ?_
  obtain ⟨hi2, hF⟩ := f_chk hF
  refine x_iast C sh_11 hi2 dX0_addCall_11 ?_
  refine x_letM hF (fun μ3 hF => ?_)
  refine x_aload_n C 1 dX0_addCall_12 rfl rfl ?_
  refine x_getR C fc_X0 fl_X0_15 sh_10 (by decide) rfl dX0_addCall_13 ?_
  refine x_iload_n C 0 dX0_addCall_16 rfl rfl ?_
  refine x_iload_n C 3 dX0_addCall_17 rfl rfl ?_
  refine x_iast C sh_12 hi2 dX0_addCall_18 ?_
  refine x_letM hF (fun μ4 hF => ?_)
  refine x_aload_n C 1 dX0_addCall_19 rfl rfl ?_
  refine x_dup C dX0_addCall_20 rfl ?_
  refine x_getI C fc_X0 fl_X0_18 sh_10 (by decide) rfl dX0_addCall_21 ?_
  refine x_iconst (v := 1) C dX0_addCall_24 (by decide) ?_
  refine x_iadd C dX0_addCall_25 ?_
  refine x_putI C fc_X0 fl_X0_18 sh_10 (by decide) rfl rfl rfl ⟨rfl, rfl⟩ dX0_addCall_26 ?_
  refine x_letM hF (fun μ5 hF => ?_)
  refine x_iload_n C 0 dX0_addCall_29 rfl rfl ?_
  exact x_iret C dX0_addCall_30 (Prod.mk.inj (Option.some.inj hF)).1 (Prod.mk.inj (Option.some.inj hF)).2
set_option maxHeartbeats 4000000 in
theorem c_X0_addCall {G : Gl} (l : Launch) (hA : Ap G) {r : Int32} {μf : Mu}  (x1 : Int32) (x2 : Int32) (μ : Mu) (hF : f_X0_addCall x1 x2 μ = some (r, μf)) : Mth G l yX0_addCall cX0_addCall 4 (some .int) 0 0 [.ref (G.ad 10), .int x1, .int x2] (some (.int r)) μf μ := Mth.of hA (by decide) rfl (Nat.le_of_ble_eq_true rfl) (fun p e s0 m args below meth c C => w_X0_addCall C x1 x2 μ hF)
set_option maxHeartbeats 4000000 in
theorem w_X1_addCall {G : Gl} {p : Program} {l : Launch} {e : Env} {s0 : State} {m : MethodId} {args : Array Value} {below : List Frame} {meth : Method} {c : Code} (C : Cx G p s0 m args meth c cX1_addCall 3 RX1 none) {d : Nat} (hd : isD d) {μf : Mu}  (x1 : Int32) (x2 : Int32) (μ : Mu) (hF : f_X1_addCall d x1 x2 μ = some μf) : X G p l e 0 0 s0 m args below meth c 3 none μf μ 0 [(0, .ref (G.ad d)), (1, .int x1), (2, .int x2)] [] := by
  unfold f_X1_addCall at hF
  refine x_aload_n C 0 dX1_addCall_0 rfl rfl ?_
  refine x_getR C fc_X1 fl_X1_9 (shD0 hd) (by decide) rfl dX1_addCall_1 ?_
  refine x_iload_n C 1 dX1_addCall_4 rfl rfl ?_
  refine x_iconst (v := 5) C dX1_addCall_5 (by decide) ?_
  refine x_imul C dX1_addCall_6 ?_
  refine x_aload_n C 0 dX1_addCall_7 rfl rfl ?_
  refine x_getR C fc_X1 fl_X1_15 (shD0 hd) (by decide) rfl dX1_addCall_8 ?_
  refine x_iload_n C 1 dX1_addCall_11 rfl rfl ?_
  obtain ⟨hi1, hF⟩ := f_chk hF
  refine x_iald C (shD2 hd) hi1 dX1_addCall_12 ?_
  refine x_iadd C dX1_addCall_13 ?_
  refine x_iload_n C 2 dX1_addCall_14 rfl rfl ?_
  obtain ⟨hi2, hF⟩ := f_chk hF
  refine x_iast C (shD1 hd) hi2 dX1_addCall_15 ?_
  refine x_letM hF (fun μ3 hF => ?_)
  refine x_aload_n C 0 dX1_addCall_16 rfl rfl ?_
  refine x_getR C fc_X1 fl_X1_15 (shD0 hd) (by decide) rfl dX1_addCall_17 ?_
  refine x_iload_n C 1 dX1_addCall_20 rfl rfl ?_
  refine x_dup2 C dX1_addCall_21 rfl rfl ?_
  refine x_iald C (shD2 hd) hi1 dX1_addCall_22 ?_
  refine x_iconst (v := 1) C dX1_addCall_23 (by decide) ?_
  refine x_iadd C dX1_addCall_24 ?_
  refine x_iast C (shD2 hd) hi1 dX1_addCall_25 ?_
  refine x_letM hF (fun μ4 hF => ?_)
  exact x_vret C dX1_addCall_26 (Option.some.inj hF)
set_option maxHeartbeats 4000000 in
theorem c_X1_addCall {G : Gl} (l : Launch) (hA : Ap G) {d : Nat} (hd : isD d) {μf : Mu}  (x1 : Int32) (x2 : Int32) (μ : Mu) (hF : f_X1_addCall d x1 x2 μ = some μf) : Mth G l yX1_addCall cX1_addCall 3 none 0 0 [.ref (G.ad d), .int x1, .int x2] none μf μ := Mth.of hA (by decide) rfl (Nat.le_of_ble_eq_true rfl) (fun p e s0 m args below meth c C => w_X1_addCall C hd x1 x2 μ hF)
set_option maxHeartbeats 4000000 in
theorem w_X1_callAt {G : Gl} {p : Program} {l : Launch} {e : Env} {s0 : State} {m : MethodId} {args : Array Value} {below : List Frame} {meth : Method} {c : Code} (C : Cx G p s0 m args meth c cX1_callAt 3 RX1 (some .int)) {d : Nat} (hd : isD d) {r : Int32}  (x1 : Int32) (x2 : Int32) (μ : Mu) (hF : f_X1_callAt d x1 x2 μ = some r) : X G p l e 0 0 s0 m args below meth c 3 (some (.int r)) μ μ 0 [(0, .ref (G.ad d)), (1, .int x1), (2, .int x2)] [] := by
  unfold f_X1_callAt at hF
  refine x_aload_n C 0 dX1_callAt_0 rfl rfl ?_
  refine x_getR C fc_X1 fl_X1_9 (shD0 hd) (by decide) rfl dX1_callAt_1 ?_
  refine x_iload_n C 1 dX1_callAt_4 rfl rfl ?_
  refine x_iconst (v := 5) C dX1_callAt_5 (by decide) ?_
  refine x_imul C dX1_callAt_6 ?_
  refine x_iload_n C 2 dX1_callAt_7 rfl rfl ?_
  refine x_iadd C dX1_callAt_8 ?_
  obtain ⟨hi1, hF⟩ := f_chk hF
  refine x_iald C (shD1 hd) hi1 dX1_callAt_9 ?_
  exact x_iret C dX1_callAt_10 (Option.some.inj hF) rfl
set_option maxHeartbeats 4000000 in
theorem c_X1_callAt {G : Gl} (l : Launch) (hA : Ap G) {d : Nat} (hd : isD d) {r : Int32}  (x1 : Int32) (x2 : Int32) (μ : Mu) (hF : f_X1_callAt d x1 x2 μ = some r) : Mth G l yX1_callAt cX1_callAt 3 (some .int) 0 0 [.ref (G.ad d), .int x1, .int x2] (some (.int r)) μ μ := Mth.of hA (by decide) rfl (Nat.le_of_ble_eq_true rfl) (fun p e s0 m args below meth c C => w_X1_callAt C hd x1 x2 μ hF)
set_option maxHeartbeats 4000000 in
theorem w_X1_copyNote {G : Gl} {p : Program} {l : Launch} {e : Env} {s0 : State} {m : MethodId} {args : Array Value} {below : List Frame} {meth : Method} {c : Code} (C : Cx G p s0 m args meth c cX1_copyNote 3 RX1 none) {d : Nat} (hd : isD d) {μf : Mu}  (x1 : Int32) (x2 : Int32) (μ : Mu) (hF : f_X1_copyNote d x1 x2 μ = some μf) : X G p l e 1 40 s0 m args below meth c 3 none μf μ 0 [(0, .ref (G.ad d)), (1, .int x1), (2, .int x2)] [] := by
  unfold f_X1_copyNote at hF
  refine x_aload_n C 0 dX1_copyNote_0 rfl rfl ?_
  refine x_getR C fc_X1 fl_X1_9 (shD0 hd) (by decide) rfl dX1_copyNote_1 ?_
  refine x_iload_n C 1 dX1_copyNote_4 rfl rfl ?_
  refine x_iconst (v := 5) C dX1_copyNote_5 (by decide) ?_
  refine x_imul C dX1_copyNote_6 ?_
  refine x_aload_n C 0 dX1_copyNote_7 rfl rfl ?_
  refine x_getR C fc_X1 fl_X1_9 (shD0 hd) (by decide) rfl dX1_copyNote_8 ?_
  refine x_iload_n C 2 dX1_copyNote_11 rfl rfl ?_
  refine x_iconst (v := 5) C dX1_copyNote_12 (by decide) ?_
  refine x_imul C dX1_copyNote_13 ?_
  refine x_iconst (v := 5) C dX1_copyNote_14 (by decide) ?_
  obtain ⟨hi1, hF⟩ := f_chk hF
  refine x_copy C cwA_X1_38 (shD1 hd) (shD1 hd) hi1 ⟨by decide, Nat.le_of_ble_eq_true rfl⟩ dX1_copyNote_15 ?_
  refine x_letM hF (fun μ2 hF => ?_)
  refine x_aload_n C 0 dX1_copyNote_18 rfl rfl ?_
  refine x_getR C fc_X1 fl_X1_15 (shD0 hd) (by decide) rfl dX1_copyNote_19 ?_
  refine x_iload_n C 2 dX1_copyNote_22 rfl rfl ?_
  refine x_aload_n C 0 dX1_copyNote_23 rfl rfl ?_
  refine x_getR C fc_X1 fl_X1_15 (shD0 hd) (by decide) rfl dX1_copyNote_24 ?_
  refine x_iload_n C 1 dX1_copyNote_27 rfl rfl ?_
  obtain ⟨hi3, hF⟩ := f_chk hF
  refine x_iald C (shD2 hd) hi3 dX1_copyNote_28 ?_
  obtain ⟨hi4, hF⟩ := f_chk hF
  refine x_iast C (shD2 hd) hi4 dX1_copyNote_29 ?_
  refine x_letM hF (fun μ5 hF => ?_)
  exact x_vret C dX1_copyNote_30 (Option.some.inj hF)
set_option maxHeartbeats 4000000 in
theorem c_X1_copyNote {G : Gl} (l : Launch) (hA : Ap G) {d : Nat} (hd : isD d) {μf : Mu}  (x1 : Int32) (x2 : Int32) (μ : Mu) (hF : f_X1_copyNote d x1 x2 μ = some μf) : Mth G l yX1_copyNote cX1_copyNote 3 none 1 40 [.ref (G.ad d), .int x1, .int x2] none μf μ := Mth.of hA (by decide) rfl (Nat.le_of_ble_eq_true rfl) (fun p e s0 m args below meth c C => w_X1_copyNote C hd x1 x2 μ hF)
set_option maxHeartbeats 4000000 in
theorem w_X1_copyOf {G : Gl} {p : Program} {l : Launch} {e : Env} {s0 : State} {m : MethodId} {args : Array Value} {below : List Frame} {meth : Method} {c : Code} (C : Cx G p s0 m args meth c cX1_copyOf 2 RX1 none) {d : Nat} (hd : isD d) {d2 : Nat} (hd2 : isD d2) {μf : Mu}  (μ : Mu) (hF : f_X1_copyOf d d2 μ = some μf) : X G p l e 1 40 s0 m args below meth c 2 none μf μ 0 [(0, .ref (G.ad d)), (1, .ref (G.ad d2))] [] := by
  unfold f_X1_copyOf at hF
  refine x_aload_n C 1 dX1_copyOf_0 rfl rfl ?_
  refine x_getR C fc_X1 fl_X1_9 (shD0 hd2) (by decide) rfl dX1_copyOf_1 ?_
  refine x_iconst (v := 0) C dX1_copyOf_4 (by decide) ?_
  refine x_aload_n C 0 dX1_copyOf_5 rfl rfl ?_
  refine x_getR C fc_X1 fl_X1_9 (shD0 hd) (by decide) rfl dX1_copyOf_6 ?_
  refine x_iconst (v := 0) C dX1_copyOf_9 (by decide) ?_
  refine x_aload_n C 0 dX1_copyOf_10 rfl rfl ?_
  refine x_getR C fc_X1 fl_X1_9 (shD0 hd) (by decide) rfl dX1_copyOf_11 ?_
  refine x_alen (v := 205) C (shD1 hd) (by decide) dX1_copyOf_14 ?_
  obtain ⟨hi1, hF⟩ := f_chk hF
  refine x_copy C cwA_X1_38 (shD1 hd2) (shD1 hd) hi1 ⟨by decide, Nat.le_of_ble_eq_true rfl⟩ dX1_copyOf_15 ?_
  refine x_letM hF (fun μ2 hF => ?_)
  refine x_aload_n C 1 dX1_copyOf_18 rfl rfl ?_
  refine x_getR C fc_X1 fl_X1_15 (shD0 hd2) (by decide) rfl dX1_copyOf_19 ?_
  refine x_iconst (v := 0) C dX1_copyOf_22 (by decide) ?_
  refine x_aload_n C 0 dX1_copyOf_23 rfl rfl ?_
  refine x_getR C fc_X1 fl_X1_15 (shD0 hd) (by decide) rfl dX1_copyOf_24 ?_
  refine x_iconst (v := 0) C dX1_copyOf_27 (by decide) ?_
  refine x_aload_n C 0 dX1_copyOf_28 rfl rfl ?_
  refine x_getR C fc_X1 fl_X1_15 (shD0 hd) (by decide) rfl dX1_copyOf_29 ?_
  refine x_alen (v := 41) C (shD2 hd) (by decide) dX1_copyOf_32 ?_
  obtain ⟨hi3, hF⟩ := f_chk hF
  refine x_copy C cwA_X1_38 (shD2 hd2) (shD2 hd) hi3 ⟨by decide, Nat.le_of_ble_eq_true rfl⟩ dX1_copyOf_33 ?_
  refine x_letM hF (fun μ4 hF => ?_)
  refine x_aload_n C 1 dX1_copyOf_36 rfl rfl ?_
  refine x_getR C fc_X1 fl_X1_18 (shD0 hd2) (by decide) rfl dX1_copyOf_37 ?_
  refine x_iconst (v := 0) C dX1_copyOf_40 (by decide) ?_
  refine x_aload_n C 0 dX1_copyOf_41 rfl rfl ?_
  refine x_getR C fc_X1 fl_X1_18 (shD0 hd) (by decide) rfl dX1_copyOf_42 ?_
  refine x_iconst (v := 0) C dX1_copyOf_45 (by decide) ?_
  refine x_aload_n C 0 dX1_copyOf_46 rfl rfl ?_
  refine x_getR C fc_X1 fl_X1_18 (shD0 hd) (by decide) rfl dX1_copyOf_47 ?_
  refine x_alen (v := 24) C (shD3 hd) (by decide) dX1_copyOf_50 ?_
  obtain ⟨hi5, hF⟩ := f_chk hF
  refine x_copy C cwA_X1_38 (shD3 hd2) (shD3 hd) hi5 ⟨by decide, Nat.le_of_ble_eq_true rfl⟩ dX1_copyOf_51 ?_
  refine x_letM hF (fun μ6 hF => ?_)
  refine x_aload_n C 1 dX1_copyOf_54 rfl rfl ?_
  refine x_getR C fc_X1 fl_X1_29 (shD0 hd2) (by decide) rfl dX1_copyOf_55 ?_
  refine x_iconst (v := 0) C dX1_copyOf_58 (by decide) ?_
  refine x_aload_n C 0 dX1_copyOf_59 rfl rfl ?_
  refine x_getR C fc_X1 fl_X1_29 (shD0 hd) (by decide) rfl dX1_copyOf_60 ?_
  refine x_iconst (v := 0) C dX1_copyOf_63 (by decide) ?_
  refine x_aload_n C 0 dX1_copyOf_64 rfl rfl ?_
  refine x_getR C fc_X1 fl_X1_29 (shD0 hd) (by decide) rfl dX1_copyOf_65 ?_
  refine x_alen (v := 10) C (shD4 hd) (by decide) dX1_copyOf_68 ?_
  obtain ⟨hi7, hF⟩ := f_chk hF
  refine x_copy C cwA_X1_38 (shD4 hd2) (shD4 hd) hi7 ⟨by decide, Nat.le_of_ble_eq_true rfl⟩ dX1_copyOf_69 ?_
  refine x_letM hF (fun μ8 hF => ?_)
  refine x_aload_n C 0 dX1_copyOf_72 rfl rfl ?_
  refine x_aload_n C 1 dX1_copyOf_73 rfl rfl ?_
  refine x_getI C fc_X1 fl_X1_44 (shD0 hd2) (by decide) rfl dX1_copyOf_74 ?_
  refine x_putI C fc_X1 fl_X1_44 (shD0 hd) (by decide) rfl rfl rfl ⟨rfl, rfl⟩ dX1_copyOf_77 ?_
  refine x_letM hF (fun μ9 hF => ?_)
  exact x_vret C dX1_copyOf_80 (Option.some.inj hF)
set_option maxHeartbeats 4000000 in
theorem c_X1_copyOf {G : Gl} (l : Launch) (hA : Ap G) {d : Nat} (hd : isD d) {d2 : Nat} (hd2 : isD d2) {μf : Mu}  (μ : Mu) (hF : f_X1_copyOf d d2 μ = some μf) : Mth G l yX1_copyOf cX1_copyOf 2 none 1 40 [.ref (G.ad d), .ref (G.ad d2)] none μf μ := Mth.of hA (by decide) rfl (Nat.le_of_ble_eq_true rfl) (fun p e s0 m args below meth c C => w_X1_copyOf C hd hd2 μ hF)
set_option maxHeartbeats 4000000 in
theorem w_X1_has {G : Gl} {p : Program} {l : Launch} {e : Env} {s0 : State} {m : MethodId} {args : Array Value} {below : List Frame} {meth : Method} {c : Code} (C : Cx G p s0 m args meth c cX1_has 2 RX1 (some .boolean)) {d : Nat} (hd : isD d) {r : Int32}  (x1 : Int32) (μ : Mu) (hF : f_X1_has d x1 μ = r) : X G p l e 0 0 s0 m args below meth c 2 (some (.int r)) μ μ 0 [(0, .ref (G.ad d)), (1, .int x1)] [] := by
  unfold f_X1_has at hF
  refine x_iload_n C 1 dX1_has_0 rfl rfl ?_
  refine x_if_lt (tgt := 16) C dX1_has_1 (by decide) (fun hc => ?_) (fun hc => ?_)
  · replace hF := f_t hc hF
    refine x_iconst (v := 0) C dX1_has_16 (by decide) ?_
    exact x_zret C dX1_has_17 (by decide) hF rfl
  · replace hF := f_f hc hF
    refine x_iload_n C 1 dX1_has_4 rfl rfl ?_
    refine x_aload_n C 0 dX1_has_5 rfl rfl ?_
    refine x_getI C fc_X1 fl_X1_44 (shD0 hd) (by decide) rfl dX1_has_6 ?_
    refine x_icmp_ge (tgt := 16) C dX1_has_9 (by decide) (fun hc => ?_) (fun hc => ?_)
    · replace hF := f_t hc hF
      refine x_iconst (v := 0) C dX1_has_16 (by decide) ?_
      exact x_zret C dX1_has_17 (by decide) hF rfl
    · replace hF := f_f hc hF
      refine x_iconst (v := 1) C dX1_has_12 (by decide) ?_
      refine x_goto (tgt := 17) C dX1_has_13 (by decide) ?_
      exact x_zret C dX1_has_17 (by decide) hF rfl
set_option maxHeartbeats 4000000 in
theorem c_X1_has {G : Gl} (l : Launch) (hA : Ap G) {d : Nat} (hd : isD d) (x1 : Int32) (μ : Mu) : Mth G l yX1_has cX1_has 2 (some .boolean) 0 0 [.ref (G.ad d), .int x1] (some (.int (f_X1_has d x1 μ))) μ μ := Mth.of hA (by decide) rfl (Nat.le_of_ble_eq_true rfl) (fun p e s0 m args below meth c C => w_X1_has C hd x1 μ rfl)
set_option maxHeartbeats 4000000 in
theorem w_X1_insertNote_L5 {G : Gl} {p : Program} {l : Launch} {e : Env} {s0 : State} {m : MethodId} {args : Array Value} {below : List Frame} {meth : Method} {c : Code} (C : Cx G p s0 m args meth c cX1_insertNote 3 RX1 none) {d : Nat} (hd : isD d) {μf : Mu}  : ∀ (n : Nat) (x1 : Int32) (x2 : Int32) (μ : Mu), f_X1_insertNote_L5 d n x1 x2 μ = some μf → X G p l e 2 62 s0 m args below meth c 3 none μf μ 5 [(0, .ref (G.ad d)), (1, .int x1), (2, .int x2)] [] := by
  intro n
  induction n with
  | zero =>
    intro x1 x2 μ hF
    rw [f_X1_insertNote_L5] at hF
    cases hF
  | succ n ih =>
    intro x1 x2 μ hF
    rw [f_X1_insertNote_L5] at hF
    refine x_iload_n C 2 dX1_insertNote_5 rfl rfl ?_
    refine x_iload_n C 1 dX1_insertNote_6 rfl rfl ?_
    refine x_icmp_le (tgt := 24) C dX1_insertNote_7 (by decide) (fun hc => ?_) (fun hc => ?_)
    · replace hF := f_t hc hF
      refine x_aload_n C 0 dX1_insertNote_24 rfl rfl ?_
      refine x_getR C fc_X1 fl_X1_15 (shD0 hd) (by decide) rfl dX1_insertNote_25 ?_
      refine x_iload_n C 1 dX1_insertNote_28 rfl rfl ?_
      refine x_iconst (v := 0) C dX1_insertNote_29 (by decide) ?_
      obtain ⟨hi1, hF⟩ := f_chk hF
      refine x_iast C (shD2 hd) hi1 dX1_insertNote_30 ?_
      refine x_letM hF (fun μ2 hF => ?_)
      refine x_aload_n C 0 dX1_insertNote_31 rfl rfl ?_
      refine x_dup C dX1_insertNote_32 rfl ?_
      refine x_getI C fc_X1 fl_X1_44 (shD0 hd) (by decide) rfl dX1_insertNote_33 ?_
      refine x_iconst (v := 1) C dX1_insertNote_36 (by decide) ?_
      refine x_iadd C dX1_insertNote_37 ?_
      refine x_putI C fc_X1 fl_X1_44 (shD0 hd) (by decide) rfl rfl rfl ⟨rfl, rfl⟩ dX1_insertNote_38 ?_
      refine x_letM hF (fun μ3 hF => ?_)
      exact x_vret C dX1_insertNote_41 (Option.some.inj hF)
    · replace hF := f_f hc hF
      refine x_aload_n C 0 dX1_insertNote_10 rfl rfl ?_
      refine x_iload_n C 2 dX1_insertNote_11 rfl rfl ?_
      refine x_iconst (v := 1) C dX1_insertNote_12 (by decide) ?_
      refine x_isub C dX1_insertNote_13 ?_
      refine x_iload_n C 2 dX1_insertNote_14 rfl rfl ?_
      obtain ⟨q4, hq4, hF⟩ := f_bind hF
      refine x_cVv (rest := []) C (c_X1_copyNote l C.2.2.2.2.2.2.2.2 hd (x2 - 1) x2 μ hq4) cw_X1_48 (shD0 hd) rfl rfl ⟨by decide, by decide⟩ rfl rfl (Nat.le_of_ble_eq_true rfl) dX1_insertNote_15 ?_
      refine x_iinc C [(2, .int (x2 + (-1))), (0, .ref (G.ad d)), (1, .int x1)] 2 dX1_insertNote_18 rfl rfl (by decide) rfl ?_
      refine x_goto (tgt := 5) C dX1_insertNote_21 (by decide) ?_
      exact x_pick [(0, .ref (G.ad d)), (1, .int x1), (2, .int (x2 + (-1)))] [1, 2, 0] rfl (ih x1 (x2 + (-1)) q4 hF)
set_option maxHeartbeats 4000000 in
theorem w_X1_insertNote {G : Gl} {p : Program} {l : Launch} {e : Env} {s0 : State} {m : MethodId} {args : Array Value} {below : List Frame} {meth : Method} {c : Code} (C : Cx G p s0 m args meth c cX1_insertNote 3 RX1 none) {d : Nat} (hd : isD d) {μf : Mu}  (x1 : Int32) (μ : Mu) (hF : f_X1_insertNote d x1 μ = some μf) : X G p l e 2 62 s0 m args below meth c 3 none μf μ 0 [(0, .ref (G.ad d)), (1, .int x1)] [] := by
  unfold f_X1_insertNote at hF
  refine x_aload_n C 0 dX1_insertNote_0 rfl rfl ?_
  refine x_getI C fc_X1 fl_X1_44 (shD0 hd) (by decide) rfl dX1_insertNote_1 ?_
  refine x_letI hF (fun y1 hF => ?_)
  refine x_istore_n C [(2, .int y1), (0, .ref (G.ad d)), (1, .int x1)] dX1_insertNote_4 rfl (by decide) rfl ?_
  exact x_pick [(0, .ref (G.ad d)), (1, .int x1), (2, .int y1)] [1, 2, 0] rfl (w_X1_insertNote_L5 C hd fu x1 y1 μ hF)
set_option maxHeartbeats 4000000 in
theorem c_X1_insertNote {G : Gl} (l : Launch) (hA : Ap G) {d : Nat} (hd : isD d) {μf : Mu}  (x1 : Int32) (μ : Mu) (hF : f_X1_insertNote d x1 μ = some μf) : Mth G l yX1_insertNote cX1_insertNote 3 none 2 62 [.ref (G.ad d), .int x1] none μf μ := Mth.of hA (by decide) rfl (Nat.le_of_ble_eq_true rfl) (fun p e s0 m args below meth c C => w_X1_insertNote C hd x1 μ hF)
set_option maxHeartbeats 4000000 in
theorem w_X1_joinedWorks_L4 {G : Gl} {p : Program} {l : Launch} {e : Env} {s0 : State} {m : MethodId} {args : Array Value} {below : List Frame} {meth : Method} {c : Code} (C : Cx G p s0 m args meth c cX1_joinedWorks 3 RX1 (some .int)) {d : Nat} (hd : isD d) {r : Int32}  (μ : Mu) : ∀ (n : Nat) (x1 : Int32) (x2 : Int32), f_X1_joinedWorks_L4 d μ n x1 x2 = some r → X G p l e 0 0 s0 m args below meth c 3 (some (.int r)) μ μ 4 [(0, .ref (G.ad d)), (1, .int x1), (2, .int x2)] [] := by
  intro n
  induction n with
  | zero =>
    intro x1 x2 hF
    rw [f_X1_joinedWorks_L4] at hF
    cases hF
  | succ n ih =>
    intro x1 x2 hF
    rw [f_X1_joinedWorks_L4] at hF
    refine x_iload_n C 2 dX1_joinedWorks_4 rfl rfl ?_
    refine x_bipush (v := 24) C dX1_joinedWorks_5 (by decide) ?_
    refine x_icmp_ge (tgt := 34) C dX1_joinedWorks_7 (by decide) (fun hc => ?_) (fun hc => ?_)
    · replace hF := f_t hc hF
      refine x_iload_n C 1 dX1_joinedWorks_34 rfl rfl ?_
      exact x_iret C dX1_joinedWorks_35 (Option.some.inj hF) rfl
    · replace hF := f_f hc hF
      refine x_iload_n C 1 dX1_joinedWorks_10 rfl rfl ?_
      refine x_aload_n C 0 dX1_joinedWorks_11 rfl rfl ?_
      refine x_getR C fc_X1 fl_X1_18 (shD0 hd) (by decide) rfl dX1_joinedWorks_12 ?_
      refine x_iload_n C 2 dX1_joinedWorks_15 rfl rfl ?_
      obtain ⟨hi1, hF⟩ := f_chk hF
      refine x_iald C (shD3 hd) hi1 dX1_joinedWorks_16 ?_
      refine x_iconst (v := (-1)) C dX1_joinedWorks_17 (by decide) ?_
      refine x_icmp_eq (tgt := 25) C dX1_joinedWorks_18 (by decide) (fun hc => ?_) (fun hc => ?_)
      · replace hF := f_t hc hF
        refine x_iconst (v := 0) C dX1_joinedWorks_25 (by decide) ?_
        refine x_iadd C dX1_joinedWorks_26 ?_
        refine x_letI hF (fun y2 hF => ?_)
        refine x_istore_n C [(1, .int y2), (0, .ref (G.ad d)), (2, .int x2)] dX1_joinedWorks_27 rfl (by decide) rfl ?_
        refine x_iinc C [(2, .int (x2 + 1)), (1, .int y2), (0, .ref (G.ad d))] 2 dX1_joinedWorks_28 rfl rfl (by decide) rfl ?_
        refine x_goto (tgt := 4) C dX1_joinedWorks_31 (by decide) ?_
        exact x_pick [(0, .ref (G.ad d)), (1, .int y2), (2, .int (x2 + 1))] [2, 1, 0] rfl (ih y2 (x2 + 1) hF)
      · replace hF := f_f hc hF
        refine x_iconst (v := 1) C dX1_joinedWorks_21 (by decide) ?_
        refine x_goto (tgt := 26) C dX1_joinedWorks_22 (by decide) ?_
        refine x_iadd C dX1_joinedWorks_26 ?_
        refine x_letI hF (fun y3 hF => ?_)
        refine x_istore_n C [(1, .int y3), (0, .ref (G.ad d)), (2, .int x2)] dX1_joinedWorks_27 rfl (by decide) rfl ?_
        refine x_iinc C [(2, .int (x2 + 1)), (1, .int y3), (0, .ref (G.ad d))] 2 dX1_joinedWorks_28 rfl rfl (by decide) rfl ?_
        refine x_goto (tgt := 4) C dX1_joinedWorks_31 (by decide) ?_
        exact x_pick [(0, .ref (G.ad d)), (1, .int y3), (2, .int (x2 + 1))] [2, 1, 0] rfl (ih y3 (x2 + 1) hF)
set_option maxHeartbeats 4000000 in
theorem w_X1_joinedWorks {G : Gl} {p : Program} {l : Launch} {e : Env} {s0 : State} {m : MethodId} {args : Array Value} {below : List Frame} {meth : Method} {c : Code} (C : Cx G p s0 m args meth c cX1_joinedWorks 3 RX1 (some .int)) {d : Nat} (hd : isD d) {r : Int32}  (μ : Mu) (hF : f_X1_joinedWorks d μ = some r) : X G p l e 0 0 s0 m args below meth c 3 (some (.int r)) μ μ 0 [(0, .ref (G.ad d))] [] := by
  unfold f_X1_joinedWorks at hF
  refine x_iconst (v := 0) C dX1_joinedWorks_0 (by decide) ?_
  refine x_istore_n C [(1, .int 0), (0, .ref (G.ad d))] dX1_joinedWorks_1 rfl (by decide) rfl ?_
  refine x_iconst (v := 0) C dX1_joinedWorks_2 (by decide) ?_
  refine x_istore_n C [(2, .int 0), (1, .int 0), (0, .ref (G.ad d))] dX1_joinedWorks_3 rfl (by decide) rfl ?_
  exact x_pick [(0, .ref (G.ad d)), (1, .int 0), (2, .int 0)] [2, 1, 0] rfl (w_X1_joinedWorks_L4 C hd μ fu 0 0 hF)
set_option maxHeartbeats 4000000 in
theorem c_X1_joinedWorks {G : Gl} (l : Launch) (hA : Ap G) {d : Nat} (hd : isD d) {r : Int32}  (μ : Mu) (hF : f_X1_joinedWorks d μ = some r) : Mth G l yX1_joinedWorks cX1_joinedWorks 3 (some .int) 0 0 [.ref (G.ad d)] (some (.int r)) μ μ := Mth.of hA (by decide) rfl (Nat.le_of_ble_eq_true rfl) (fun p e s0 m args below meth c C => w_X1_joinedWorks C hd μ hF)
set_option maxHeartbeats 4000000 in
theorem w_X1_meantAs_L4 {G : Gl} {p : Program} {l : Launch} {e : Env} {s0 : State} {m : MethodId} {args : Array Value} {below : List Frame} {meth : Method} {c : Code} (C : Cx G p s0 m args meth c cX1_meantAs 4 RX1 (some .int)) {d : Nat} (hd : isD d) {r : Int32}  (μ : Mu) : ∀ (n : Nat) (x2 : Int32) (x3 : Int32), f_X1_meantAs_L4 d μ n x2 x3 = some r → X G p l e 0 0 s0 m args below meth c 4 (some (.int r)) μ μ 4 [(0, .ref (G.ad d)), (2, .int x2), (3, .int x3)] [] := by
  intro n
  induction n with
  | zero =>
    intro x2 x3 hF
    rw [f_X1_meantAs_L4] at hF
    cases hF
  | succ n ih =>
    intro x2 x3 hF
    rw [f_X1_meantAs_L4] at hF
    refine x_iload_n C 2 dX1_meantAs_4 rfl rfl ?_
    refine x_bipush (v := 24) C dX1_meantAs_5 (by decide) ?_
    refine x_icmp_ge (tgt := 33) C dX1_meantAs_7 (by decide) (fun hc => ?_) (fun hc => ?_)
    · replace hF := f_t hc hF
      refine x_iload_n C 1 dX1_meantAs_33 rfl rfl ?_
      exact x_iret C dX1_meantAs_34 (Option.some.inj hF) rfl
    · replace hF := f_f hc hF
      refine x_aload_n C 0 dX1_meantAs_10 rfl rfl ?_
      refine x_getR C fc_X1 fl_X1_18 (shD0 hd) (by decide) rfl dX1_meantAs_11 ?_
      refine x_iload_n C 1 dX1_meantAs_14 rfl rfl ?_
      obtain ⟨hi1, hF⟩ := f_chk hF
      refine x_iald C (shD3 hd) hi1 dX1_meantAs_15 ?_
      refine x_iconst (v := (-1)) C dX1_meantAs_16 (by decide) ?_
      refine x_icmp_eq (tgt := 33) C dX1_meantAs_17 (by decide) (fun hc => ?_) (fun hc => ?_)
      · replace hF := f_t hc hF
        refine x_iload_n C 1 dX1_meantAs_33 rfl rfl ?_
        exact x_iret C dX1_meantAs_34 (Option.some.inj hF) rfl
      · replace hF := f_f hc hF
        refine x_aload_n C 0 dX1_meantAs_20 rfl rfl ?_
        refine x_getR C fc_X1 fl_X1_18 (shD0 hd) (by decide) rfl dX1_meantAs_21 ?_
        refine x_iload_n C 1 dX1_meantAs_24 rfl rfl ?_
        refine x_iald C (shD3 hd) hi1 dX1_meantAs_25 ?_
        refine x_letI hF (fun y2 hF => ?_)
        refine x_istore_n C [(2, .int y2), (0, .ref (G.ad d)), (3, .int x3)] dX1_meantAs_26 rfl (by decide) rfl ?_
        refine x_iinc C [(3, .int (x3 + 1)), (2, .int y2), (0, .ref (G.ad d))] 2 dX1_meantAs_27 rfl rfl (by decide) rfl ?_
        refine x_goto (tgt := 4) C dX1_meantAs_30 (by decide) ?_
        exact x_pick [(0, .ref (G.ad d)), (2, .int y2), (3, .int (x3 + 1))] [2, 1, 0] rfl (ih y2 (x3 + 1) hF)
set_option maxHeartbeats 4000000 in
theorem w_X1_meantAs {G : Gl} {p : Program} {l : Launch} {e : Env} {s0 : State} {m : MethodId} {args : Array Value} {below : List Frame} {meth : Method} {c : Code} (C : Cx G p s0 m args meth c cX1_meantAs 4 RX1 (some .int)) {d : Nat} (hd : isD d) {r : Int32}  (x1 : Int32) (μ : Mu) (hF : f_X1_meantAs d x1 μ = some r) : X G p l e 0 0 s0 m args below meth c 4 (some (.int r)) μ μ 0 [(0, .ref (G.ad d)), (1, .int x1)] [] := by
  unfold f_X1_meantAs at hF
  refine x_iload_n C 1 dX1_meantAs_0 rfl rfl ?_
  refine x_istore_n C [(2, .int x1), (0, .ref (G.ad d)), (1, .int x1)] dX1_meantAs_1 rfl (by decide) rfl ?_
  refine x_iconst (v := 0) C dX1_meantAs_2 (by decide) ?_
  refine x_istore_n C [(3, .int 0), (2, .int x1), (0, .ref (G.ad d)), (1, .int x1)] dX1_meantAs_3 rfl (by decide) rfl ?_
  exact x_pick [(0, .ref (G.ad d)), (2, .int x1), (3, .int 0)] [2, 1, 0] rfl (w_X1_meantAs_L4 C hd μ fu x1 0 hF)
set_option maxHeartbeats 4000000 in
theorem c_X1_meantAs {G : Gl} (l : Launch) (hA : Ap G) {d : Nat} (hd : isD d) {r : Int32}  (x1 : Int32) (μ : Mu) (hF : f_X1_meantAs d x1 μ = some r) : Mth G l yX1_meantAs cX1_meantAs 4 (some .int) 0 0 [.ref (G.ad d), .int x1] (some (.int r)) μ μ := Mth.of hA (by decide) rfl (Nat.le_of_ble_eq_true rfl) (fun p e s0 m args below meth c C => w_X1_meantAs C hd x1 μ hF)
set_option maxHeartbeats 4000000 in
theorem w_X1_removeCall_L6 {G : Gl} {p : Program} {l : Launch} {e : Env} {s0 : State} {m : MethodId} {args : Array Value} {below : List Frame} {meth : Method} {c : Code} (C : Cx G p s0 m args meth c cX1_removeCall 4 RX1 none) {d : Nat} (hd : isD d) {μf : Mu}  : ∀ (n : Nat) (x1 : Int32) (x3 : Int32) (μ : Mu), f_X1_removeCall_L6 d n x1 x3 μ = some μf → X G p l e 0 0 s0 m args below meth c 4 none μf μ 6 [(0, .ref (G.ad d)), (1, .int x1), (3, .int x3)] [] := by
  intro n
  induction n with
  | zero =>
    intro x1 x3 μ hF
    rw [f_X1_removeCall_L6] at hF
    cases hF
  | succ n ih =>
    intro x1 x3 μ hF
    rw [f_X1_removeCall_L6] at hF
    refine x_iload_n C 2 dX1_removeCall_6 rfl rfl ?_
    refine x_iload_n C 1 dX1_removeCall_7 rfl rfl ?_
    refine x_iconst (v := 5) C dX1_removeCall_8 (by decide) ?_
    refine x_imul C dX1_removeCall_9 ?_
    refine x_aload_n C 0 dX1_removeCall_10 rfl rfl ?_
    refine x_getR C fc_X1 fl_X1_15 (shD0 hd) (by decide) rfl dX1_removeCall_11 ?_
    refine x_iload_n C 1 dX1_removeCall_14 rfl rfl ?_
    obtain ⟨hi1, hF⟩ := f_chk hF
    refine x_iald C (shD2 hd) hi1 dX1_removeCall_15 ?_
    refine x_iadd C dX1_removeCall_16 ?_
    refine x_iconst (v := 1) C dX1_removeCall_17 (by decide) ?_
    refine x_isub C dX1_removeCall_18 ?_
    refine x_icmp_ge (tgt := 42) C dX1_removeCall_19 (by decide) (fun hc => ?_) (fun hc => ?_)
    · replace hF := f_t hc hF
      refine x_aload_n C 0 dX1_removeCall_42 rfl rfl ?_
      refine x_getR C fc_X1 fl_X1_15 (shD0 hd) (by decide) rfl dX1_removeCall_43 ?_
      refine x_iload_n C 1 dX1_removeCall_46 rfl rfl ?_
      refine x_dup2 C dX1_removeCall_47 rfl rfl ?_
      refine x_iald C (shD2 hd) hi1 dX1_removeCall_48 ?_
      refine x_iconst (v := 1) C dX1_removeCall_49 (by decide) ?_
      refine x_isub C dX1_removeCall_50 ?_
      refine x_iast C (shD2 hd) hi1 dX1_removeCall_51 ?_
      refine x_letM hF (fun μ2 hF => ?_)
      exact x_vret C dX1_removeCall_52 (Option.some.inj hF)
    · replace hF := f_f hc hF
      refine x_aload_n C 0 dX1_removeCall_22 rfl rfl ?_
      refine x_getR C fc_X1 fl_X1_9 (shD0 hd) (by decide) rfl dX1_removeCall_23 ?_
      refine x_iload_n C 2 dX1_removeCall_26 rfl rfl ?_
      refine x_aload_n C 0 dX1_removeCall_27 rfl rfl ?_
      refine x_getR C fc_X1 fl_X1_9 (shD0 hd) (by decide) rfl dX1_removeCall_28 ?_
      refine x_iload_n C 2 dX1_removeCall_31 rfl rfl ?_
      refine x_iconst (v := 1) C dX1_removeCall_32 (by decide) ?_
      refine x_iadd C dX1_removeCall_33 ?_
      obtain ⟨hi3, hF⟩ := f_chk hF
      refine x_iald C (shD1 hd) hi3 dX1_removeCall_34 ?_
      obtain ⟨hi4, hF⟩ := f_chk hF
      refine x_iast C (shD1 hd) hi4 dX1_removeCall_35 ?_
      refine x_letM hF (fun μ5 hF => ?_)
      refine x_iinc C [(3, .int (x3 + 1)), (0, .ref (G.ad d)), (1, .int x1)] 2 dX1_removeCall_36 rfl rfl (by decide) rfl ?_
      refine x_goto (tgt := 6) C dX1_removeCall_39 (by decide) ?_
      exact x_pick [(0, .ref (G.ad d)), (1, .int x1), (3, .int (x3 + 1))] [1, 2, 0] rfl (ih x1 (x3 + 1) μ5 hF)
set_option maxHeartbeats 4000000 in
theorem w_X1_removeCall {G : Gl} {p : Program} {l : Launch} {e : Env} {s0 : State} {m : MethodId} {args : Array Value} {below : List Frame} {meth : Method} {c : Code} (C : Cx G p s0 m args meth c cX1_removeCall 4 RX1 none) {d : Nat} (hd : isD d) {μf : Mu}  (x1 : Int32) (x2 : Int32) (μ : Mu) (hF : f_X1_removeCall d x1 x2 μ = some μf) : X G p l e 0 0 s0 m args below meth c 4 none μf μ 0 [(0, .ref (G.ad d)), (1, .int x1), (2, .int x2)] [] := by
  unfold f_X1_removeCall at hF
  refine x_iload_n C 1 dX1_removeCall_0 rfl rfl ?_
  refine x_iconst (v := 5) C dX1_removeCall_1 (by decide) ?_
  refine x_imul C dX1_removeCall_2 ?_
  refine x_iload_n C 2 dX1_removeCall_3 rfl rfl ?_
  refine x_iadd C dX1_removeCall_4 ?_
  refine x_letI hF (fun y1 hF => ?_)
  refine x_istore_n C [(3, .int y1), (0, .ref (G.ad d)), (1, .int x1), (2, .int x2)] dX1_removeCall_5 rfl (by decide) rfl ?_
  exact x_pick [(0, .ref (G.ad d)), (1, .int x1), (3, .int y1)] [1, 2, 0] rfl (w_X1_removeCall_L6 C hd fu x1 y1 μ hF)
set_option maxHeartbeats 4000000 in
theorem c_X1_removeCall {G : Gl} (l : Launch) (hA : Ap G) {d : Nat} (hd : isD d) {μf : Mu}  (x1 : Int32) (x2 : Int32) (μ : Mu) (hF : f_X1_removeCall d x1 x2 μ = some μf) : Mth G l yX1_removeCall cX1_removeCall 4 none 0 0 [.ref (G.ad d), .int x1, .int x2] none μf μ := Mth.of hA (by decide) rfl (Nat.le_of_ble_eq_true rfl) (fun p e s0 m args below meth c C => w_X1_removeCall C hd x1 x2 μ hF)
set_option maxHeartbeats 4000000 in
theorem w_X1_removeNote_L2 {G : Gl} {p : Program} {l : Launch} {e : Env} {s0 : State} {m : MethodId} {args : Array Value} {below : List Frame} {meth : Method} {c : Code} (C : Cx G p s0 m args meth c cX1_removeNote 3 RX1 none) {d : Nat} (hd : isD d) {μf : Mu}  : ∀ (n : Nat) (x2 : Int32) (μ : Mu), f_X1_removeNote_L2 d n x2 μ = some μf → X G p l e 2 62 s0 m args below meth c 3 none μf μ 2 [(0, .ref (G.ad d)), (2, .int x2)] [] := by
  intro n
  induction n with
  | zero =>
    intro x2 μ hF
    rw [f_X1_removeNote_L2] at hF
    cases hF
  | succ n ih =>
    intro x2 μ hF
    rw [f_X1_removeNote_L2] at hF
    refine x_iload_n C 1 dX1_removeNote_2 rfl rfl ?_
    refine x_aload_n C 0 dX1_removeNote_3 rfl rfl ?_
    refine x_getI C fc_X1 fl_X1_44 (shD0 hd) (by decide) rfl dX1_removeNote_4 ?_
    refine x_iconst (v := 1) C dX1_removeNote_7 (by decide) ?_
    refine x_isub C dX1_removeNote_8 ?_
    refine x_icmp_ge (tgt := 26) C dX1_removeNote_9 (by decide) (fun hc => ?_) (fun hc => ?_)
    · replace hF := f_t hc hF
      refine x_aload_n C 0 dX1_removeNote_26 rfl rfl ?_
      refine x_dup C dX1_removeNote_27 rfl ?_
      refine x_getI C fc_X1 fl_X1_44 (shD0 hd) (by decide) rfl dX1_removeNote_28 ?_
      refine x_iconst (v := 1) C dX1_removeNote_31 (by decide) ?_
      refine x_isub C dX1_removeNote_32 ?_
      refine x_putI C fc_X1 fl_X1_44 (shD0 hd) (by decide) rfl rfl rfl ⟨rfl, rfl⟩ dX1_removeNote_33 ?_
      refine x_letM hF (fun μ1 hF => ?_)
      exact x_vret C dX1_removeNote_36 (Option.some.inj hF)
    · replace hF := f_f hc hF
      refine x_aload_n C 0 dX1_removeNote_12 rfl rfl ?_
      refine x_iload_n C 1 dX1_removeNote_13 rfl rfl ?_
      refine x_iconst (v := 1) C dX1_removeNote_14 (by decide) ?_
      refine x_iadd C dX1_removeNote_15 ?_
      refine x_iload_n C 1 dX1_removeNote_16 rfl rfl ?_
      obtain ⟨q2, hq2, hF⟩ := f_bind hF
      refine x_cVv (rest := []) C (c_X1_copyNote l C.2.2.2.2.2.2.2.2 hd (x2 + 1) x2 μ hq2) cw_X1_48 (shD0 hd) rfl rfl ⟨by decide, by decide⟩ rfl rfl (Nat.le_of_ble_eq_true rfl) dX1_removeNote_17 ?_
      refine x_iinc C [(2, .int (x2 + 1)), (0, .ref (G.ad d))] 1 dX1_removeNote_20 rfl rfl (by decide) rfl ?_
      refine x_goto (tgt := 2) C dX1_removeNote_23 (by decide) ?_
      exact x_pick [(0, .ref (G.ad d)), (2, .int (x2 + 1))] [1, 0] rfl (ih (x2 + 1) q2 hF)
set_option maxHeartbeats 4000000 in
theorem w_X1_removeNote {G : Gl} {p : Program} {l : Launch} {e : Env} {s0 : State} {m : MethodId} {args : Array Value} {below : List Frame} {meth : Method} {c : Code} (C : Cx G p s0 m args meth c cX1_removeNote 3 RX1 none) {d : Nat} (hd : isD d) {μf : Mu}  (x1 : Int32) (μ : Mu) (hF : f_X1_removeNote d x1 μ = some μf) : X G p l e 2 62 s0 m args below meth c 3 none μf μ 0 [(0, .ref (G.ad d)), (1, .int x1)] [] := by
  unfold f_X1_removeNote at hF
  refine x_iload_n C 1 dX1_removeNote_0 rfl rfl ?_
  refine x_istore_n C [(2, .int x1), (0, .ref (G.ad d)), (1, .int x1)] dX1_removeNote_1 rfl (by decide) rfl ?_
  exact x_pick [(0, .ref (G.ad d)), (2, .int x1)] [1, 0] rfl (w_X1_removeNote_L2 C hd fu x1 μ hF)
set_option maxHeartbeats 4000000 in
theorem c_X1_removeNote {G : Gl} (l : Launch) (hA : Ap G) {d : Nat} (hd : isD d) {μf : Mu}  (x1 : Int32) (μ : Mu) (hF : f_X1_removeNote d x1 μ = some μf) : Mth G l yX1_removeNote cX1_removeNote 3 none 2 62 [.ref (G.ad d), .int x1] none μf μ := Mth.of hA (by decide) rfl (Nat.le_of_ble_eq_true rfl) (fun p e s0 m args below meth c C => w_X1_removeNote C hd x1 μ hF)
set_option maxHeartbeats 4000000 in
theorem w_X1_shiftNote {G : Gl} {p : Program} {l : Launch} {e : Env} {s0 : State} {m : MethodId} {args : Array Value} {below : List Frame} {meth : Method} {c : Code} (C : Cx G p s0 m args meth c cX1_shiftNote 3 RX1 none) {d : Nat} (hd : isD d) {μf : Mu}  (x1 : Int32) (x2 : Int32) (μ : Mu) (hF : f_X1_shiftNote d x1 x2 μ = some μf) : X G p l e 3 84 s0 m args below meth c 3 none μf μ 0 [(0, .ref (G.ad d)), (1, .int x1), (2, .int x2)] [] := by
  unfold f_X1_shiftNote at hF
  refine x_aload_n C 0 dX1_shiftNote_0 rfl rfl ?_
  refine x_iload_n C 1 dX1_shiftNote_1 rfl rfl ?_
  refine x_bipush (v := 40) C dX1_shiftNote_2 (by decide) ?_
  obtain ⟨q1, hq1, hF⟩ := f_bind hF
  refine x_cVv (rest := []) C (c_X1_copyNote l C.2.2.2.2.2.2.2.2 hd x1 40 μ hq1) cw_X1_48 (shD0 hd) rfl rfl ⟨by decide, by decide⟩ rfl rfl (Nat.le_of_ble_eq_true rfl) dX1_shiftNote_4 ?_
  refine x_aload_n C 0 dX1_shiftNote_7 rfl rfl ?_
  refine x_iload_n C 1 dX1_shiftNote_8 rfl rfl ?_
  obtain ⟨q2, hq2, hF⟩ := f_bind hF
  refine x_cVv (rest := []) C (c_X1_removeNote l C.2.2.2.2.2.2.2.2 hd x1 q1 hq2) cw_X1_52 (shD0 hd) rfl rfl ⟨by decide, by decide⟩ rfl rfl (Nat.le_of_ble_eq_true rfl) dX1_shiftNote_9 ?_
  refine x_aload_n C 0 dX1_shiftNote_12 rfl rfl ?_
  refine x_iload_n C 2 dX1_shiftNote_13 rfl rfl ?_
  obtain ⟨q3, hq3, hF⟩ := f_bind hF
  refine x_cVv (rest := []) C (c_X1_insertNote l C.2.2.2.2.2.2.2.2 hd x2 q2 hq3) cw_X1_56 (shD0 hd) rfl rfl ⟨by decide, by decide⟩ rfl rfl (Nat.le_of_ble_eq_true rfl) dX1_shiftNote_14 ?_
  refine x_aload_n C 0 dX1_shiftNote_17 rfl rfl ?_
  refine x_bipush (v := 40) C dX1_shiftNote_18 (by decide) ?_
  refine x_iload_n C 2 dX1_shiftNote_20 rfl rfl ?_
  obtain ⟨q4, hq4, hF⟩ := f_bind hF
  refine x_cVv (rest := []) C (c_X1_copyNote l C.2.2.2.2.2.2.2.2 hd 40 x2 q3 hq4) cw_X1_48 (shD0 hd) rfl rfl ⟨by decide, by decide⟩ rfl rfl (Nat.le_of_ble_eq_true rfl) dX1_shiftNote_21 ?_
  exact x_vret C dX1_shiftNote_24 (Option.some.inj hF)
set_option maxHeartbeats 4000000 in
theorem c_X1_shiftNote {G : Gl} (l : Launch) (hA : Ap G) {d : Nat} (hd : isD d) {μf : Mu}  (x1 : Int32) (x2 : Int32) (μ : Mu) (hF : f_X1_shiftNote d x1 x2 μ = some μf) : Mth G l yX1_shiftNote cX1_shiftNote 3 none 3 84 [.ref (G.ad d), .int x1, .int x2] none μf μ := Mth.of hA (by decide) rfl (Nat.le_of_ble_eq_true rfl) (fun p e s0 m args below meth c C => w_X1_shiftNote C hd x1 x2 μ hF)
set_option maxHeartbeats 4000000 in
theorem w_X2_addPiece {G : Gl} {p : Program} {l : Launch} {e : Env} {s0 : State} {m : MethodId} {args : Array Value} {below : List Frame} {meth : Method} {c : Code} (C : Cx G p s0 m args meth c cX2_addPiece 3 RX2 none) {μf : Mu}  (x1 : Int32) (x2 : Int32) (μ : Mu) (hF : f_X2_addPiece x1 x2 μ = some μf) : X G p l e 0 0 s0 m args below meth c 3 none μf μ 0 [(0, .ref (G.ad 75)), (1, .int x1), (2, .int x2)] [] := by
  unfold f_X2_addPiece at hF
  refine x_aload_n C 0 dX2_addPiece_0 rfl rfl ?_
  refine x_getR C fc_X2 fl_X2_9 sh_75 (by decide) rfl dX2_addPiece_1 ?_
  refine x_aload_n C 0 dX2_addPiece_4 rfl rfl ?_
  refine x_getI C fc_X2 fl_X2_46 sh_75 (by decide) rfl dX2_addPiece_5 ?_
  refine x_iload_n C 1 dX2_addPiece_8 rfl rfl ?_
  obtain ⟨hi1, hF⟩ := f_chk hF
  refine x_iast C sh_76 hi1 dX2_addPiece_9 ?_
  refine x_letM hF (fun μ2 hF => ?_)
  refine x_aload_n C 0 dX2_addPiece_10 rfl rfl ?_
  refine x_getR C fc_X2 fl_X2_15 sh_75 (by decide) rfl dX2_addPiece_11 ?_
  refine x_aload_n C 0 dX2_addPiece_14 rfl rfl ?_
  refine x_getI C fc_X2 fl_X2_46 sh_75 (by decide) rfl dX2_addPiece_15 ?_
  refine x_iload_n C 2 dX2_addPiece_18 rfl rfl ?_
  obtain ⟨hi3, hF⟩ := f_chk hF
  refine x_iast C sh_77 hi3 dX2_addPiece_19 ?_
  refine x_letM hF (fun μ4 hF => ?_)
  refine x_aload_n C 0 dX2_addPiece_20 rfl rfl ?_
  refine x_dup C dX2_addPiece_21 rfl ?_
  refine x_getI C fc_X2 fl_X2_46 sh_75 (by decide) rfl dX2_addPiece_22 ?_
  refine x_iconst (v := 1) C dX2_addPiece_25 (by decide) ?_
  refine x_iadd C dX2_addPiece_26 ?_
  refine x_putI C fc_X2 fl_X2_46 sh_75 (by decide) rfl rfl rfl ⟨rfl, rfl⟩ dX2_addPiece_27 ?_
  refine x_letM hF (fun μ5 hF => ?_)
  exact x_vret C dX2_addPiece_30 (Option.some.inj hF)
set_option maxHeartbeats 4000000 in
theorem c_X2_addPiece {G : Gl} (l : Launch) (hA : Ap G) {μf : Mu}  (x1 : Int32) (x2 : Int32) (μ : Mu) (hF : f_X2_addPiece x1 x2 μ = some μf) : Mth G l yX2_addPiece cX2_addPiece 3 none 0 0 [.ref (G.ad 75), .int x1, .int x2] none μf μ := Mth.of hA (by decide) rfl (Nat.le_of_ble_eq_true rfl) (fun p e s0 m args below meth c C => w_X2_addPiece C x1 x2 μ hF)
set_option maxHeartbeats 4000000 in
theorem w_X2_addRow_L33 {G : Gl} {p : Program} {l : Launch} {e : Env} {s0 : State} {m : MethodId} {args : Array Value} {below : List Frame} {meth : Method} {c : Code} (C : Cx G p s0 m args meth c cX2_addRow 5 RX2 none) {μf : Mu}  : ∀ (n : Nat) (x2 : Int32) (x4 : Int32) (μ : Mu), f_X2_addRow_L33 n x2 x4 μ = some μf → X G p l e 1 22 s0 m args below meth c 5 none μf μ 33 [(0, .ref (G.ad 75)), (2, .int x2), (4, .int x4)] [] := by
  intro n
  induction n with
  | zero =>
    intro x2 x4 μ hF
    rw [f_X2_addRow_L33] at hF
    cases hF
  | succ n ih =>
    intro x2 x4 μ hF
    rw [f_X2_addRow_L33] at hF
    refine x_iload C 2 dX2_addRow_33 rfl ?_
    refine x_iload_n C 1 dX2_addRow_35 rfl rfl ?_
    refine x_icmp_ge (tgt := 63) C dX2_addRow_36 (by decide) (fun hc => ?_) (fun hc => ?_)
    · replace hF := f_t hc hF
      exact x_vret C dX2_addRow_63 (Option.some.inj hF)
    · replace hF := f_f hc hF
      refine x_aload_n C 0 dX2_addRow_39 rfl rfl ?_
      refine x_aload_n C 0 dX2_addRow_40 rfl rfl ?_
      refine x_getR C fc_X2 fl_X2_18 sh_75 (by decide) rfl dX2_addRow_41 ?_
      refine x_iload C 2 dX2_addRow_44 rfl ?_
      obtain ⟨hi1, hF⟩ := f_chk hF
      refine x_iald C sh_78 hi1 dX2_addRow_46 ?_
      refine x_aload_n C 0 dX2_addRow_47 rfl rfl ?_
      refine x_getR C fc_X2 fl_X2_18 sh_75 (by decide) rfl dX2_addRow_48 ?_
      refine x_iload C 2 dX2_addRow_51 rfl ?_
      refine x_iald C sh_78 hi1 dX2_addRow_53 ?_
      obtain ⟨q2, hq2, hF⟩ := f_bind hF
      refine x_cVv (rest := []) C (c_X2_addPiece l C.2.2.2.2.2.2.2.2 (μ 78 (ix x4)) (μ 78 (ix x4)) μ hq2) cw_X2_56 sh_75 rfl rfl ⟨by decide, by decide⟩ rfl rfl (Nat.le_of_ble_eq_true rfl) dX2_addRow_54 ?_
      refine x_iinc C [(4, .int (x4 + 1)), (0, .ref (G.ad 75)), (2, .int x2)] 2 dX2_addRow_57 rfl rfl (by decide) rfl ?_
      refine x_goto (tgt := 33) C dX2_addRow_60 (by decide) ?_
      exact x_pick [(0, .ref (G.ad 75)), (2, .int x2), (4, .int (x4 + 1))] [1, 2, 0] rfl (ih x2 (x4 + 1) q2 hF)
set_option maxHeartbeats 4000000 in
theorem w_X2_addRow {G : Gl} {p : Program} {l : Launch} {e : Env} {s0 : State} {m : MethodId} {args : Array Value} {below : List Frame} {meth : Method} {c : Code} (C : Cx G p s0 m args meth c cX2_addRow 5 RX2 none) {μf : Mu}  (x1 : Int32) (x2 : Int32) (x3 : Int32) (μ : Mu) (hF : f_X2_addRow x1 x2 x3 μ = some μf) : X G p l e 1 22 s0 m args below meth c 5 none μf μ 0 [(0, .ref (G.ad 75)), (1, .int x1), (2, .int x2), (3, .int x3)] [] := by
  unfold f_X2_addRow at hF
  refine x_iload_n C 3 dX2_addRow_0 rfl rfl ?_
  refine x_if_le (tgt := 30) C dX2_addRow_1 (by decide) (fun hc => ?_) (fun hc => ?_)
  · replace hF := f_t hc hF
    refine x_iload_n C 1 dX2_addRow_30 rfl rfl ?_
    refine x_istore C [(4, .int x1), (0, .ref (G.ad 75)), (1, .int x1), (2, .int x2), (3, .int x3)] dX2_addRow_31 (by decide) rfl ?_
    exact x_pick [(0, .ref (G.ad 75)), (2, .int x2), (4, .int x1)] [1, 3, 0] rfl (w_X2_addRow_L33 C fu x2 x1 μ hF)
  · replace hF := f_f hc hF
    refine x_iload_n C 2 dX2_addRow_4 rfl rfl ?_
    refine x_iload_n C 1 dX2_addRow_5 rfl rfl ?_
    refine x_isub C dX2_addRow_6 ?_
    refine x_iload_n C 3 dX2_addRow_7 rfl rfl ?_
    refine x_icmp_lt (tgt := 30) C dX2_addRow_8 (by decide) (fun hc => ?_) (fun hc => ?_)
    · replace hF := f_t hc hF
      refine x_iload_n C 1 dX2_addRow_30 rfl rfl ?_
      refine x_istore C [(4, .int x1), (0, .ref (G.ad 75)), (1, .int x1), (2, .int x2), (3, .int x3)] dX2_addRow_31 (by decide) rfl ?_
      exact x_pick [(0, .ref (G.ad 75)), (2, .int x2), (4, .int x1)] [1, 3, 0] rfl (w_X2_addRow_L33 C fu x2 x1 μ hF)
    · replace hF := f_f hc hF
      refine x_aload_n C 0 dX2_addRow_11 rfl rfl ?_
      refine x_aload_n C 0 dX2_addRow_12 rfl rfl ?_
      refine x_getR C fc_X2 fl_X2_18 sh_75 (by decide) rfl dX2_addRow_13 ?_
      refine x_iload_n C 1 dX2_addRow_16 rfl rfl ?_
      obtain ⟨hi1, hF⟩ := f_chk hF
      refine x_iald C sh_78 hi1 dX2_addRow_17 ?_
      refine x_aload_n C 0 dX2_addRow_18 rfl rfl ?_
      refine x_getR C fc_X2 fl_X2_18 sh_75 (by decide) rfl dX2_addRow_19 ?_
      refine x_iload_n C 2 dX2_addRow_22 rfl rfl ?_
      refine x_iconst (v := 1) C dX2_addRow_23 (by decide) ?_
      refine x_isub C dX2_addRow_24 ?_
      obtain ⟨hi2, hF⟩ := f_chk hF
      refine x_iald C sh_78 hi2 dX2_addRow_25 ?_
      obtain ⟨q3, hq3, hF⟩ := f_bind hF
      refine x_cVv (rest := []) C (c_X2_addPiece l C.2.2.2.2.2.2.2.2 (μ 78 (ix x1)) (μ 78 (ix (x2 - 1))) μ hq3) cw_X2_56 sh_75 rfl rfl ⟨by decide, by decide⟩ rfl rfl (Nat.le_of_ble_eq_true rfl) dX2_addRow_26 ?_
      exact x_vret C dX2_addRow_29 (Option.some.inj hF)
set_option maxHeartbeats 4000000 in
theorem c_X2_addRow {G : Gl} (l : Launch) (hA : Ap G) {μf : Mu}  (x1 : Int32) (x2 : Int32) (x3 : Int32) (μ : Mu) (hF : f_X2_addRow x1 x2 x3 μ = some μf) : Mth G l yX2_addRow cX2_addRow 5 none 1 22 [.ref (G.ad 75), .int x1, .int x2, .int x3] none μf μ := Mth.of hA (by decide) rfl (Nat.le_of_ble_eq_true rfl) (fun p e s0 m args below meth c C => w_X2_addRow C x1 x2 x3 μ hF)
set_option maxHeartbeats 4000000 in
theorem w_X6_meantIn {G : Gl} {p : Program} {l : Launch} {e : Env} {s0 : State} {m : MethodId} {args : Array Value} {below : List Frame} {meth : Method} {c : Code} (C : Cx G p s0 m args meth c cX6_meantIn 3 RX6 (some .int)) {d : Nat} (hv : isV d) {r : Int32}  (x1 : Int32) (x2 : Int32) (μ : Mu) (hF : f_X6_meantIn d x1 x2 μ = some r) : X G p l e 1 22 s0 m args below meth c 3 (some (.int r)) μ μ 0 [(0, .ref (G.ad (d + 5))), (1, .int x1), (2, .int x2)] [] := by
  unfold f_X6_meantIn at hF
  refine x_aload_n C 0 dX6_meantIn_0 rfl rfl ?_
  refine x_getR C fc_X6 fl_X6_9 (shV5 hv) (by decide) rfl dX6_meantIn_1 ?_
  refine x_aload_n C 0 dX6_meantIn_4 rfl rfl ?_
  refine x_getR C fc_X6 fl_X6_53 (shV5 hv) (by decide) rfl dX6_meantIn_5 ?_
  refine x_getR C fc_X0 fl_X6_92 sh_10 (by decide) rfl dX6_meantIn_8 ?_
  refine x_aload_n C 0 dX6_meantIn_11 rfl rfl ?_
  refine x_getR C fc_X6 fl_X6_57 (shV5 hv) (by decide) rfl dX6_meantIn_12 ?_
  refine x_iload_n C 1 dX6_meantIn_15 rfl rfl ?_
  refine x_iload_n C 2 dX6_meantIn_16 rfl rfl ?_
  obtain ⟨q1, hq1, hF⟩ := f_bind hF
  refine x_cVi (rest := [.ref (G.ad 11), .ref (G.ad (d + 6))]) C (c_X1_callAt l C.2.2.2.2.2.2.2.2 (isV_D hv) x1 x2 μ hq1) cw_X6_95 (shD0 (isV_D hv)) rfl rfl ⟨by decide, by decide⟩ rfl rfl (Nat.le_of_ble_eq_true rfl) dX6_meantIn_17 ?_
  obtain ⟨hi2, hF⟩ := f_chk hF
  refine x_iald C sh_11 hi2 dX6_meantIn_20 ?_
  obtain ⟨hi3, hF⟩ := f_chk hF
  refine x_iald C (shV6 hv) hi3 dX6_meantIn_21 ?_
  exact x_iret C dX6_meantIn_22 (Option.some.inj hF) rfl
set_option maxHeartbeats 4000000 in
theorem c_X6_meantIn {G : Gl} (l : Launch) (hA : Ap G) {d : Nat} (hv : isV d) {r : Int32}  (x1 : Int32) (x2 : Int32) (μ : Mu) (hF : f_X6_meantIn d x1 x2 μ = some r) : Mth G l yX6_meantIn cX6_meantIn 3 (some .int) 1 22 [.ref (G.ad (d + 5)), .int x1, .int x2] (some (.int r)) μ μ := Mth.of hA (by decide) rfl (Nat.le_of_ble_eq_true rfl) (fun p e s0 m args below meth c C => w_X6_meantIn C hv x1 x2 μ hF)
set_option maxHeartbeats 4000000 in
theorem w_X2_sortIn_b68 {G : Gl} {p : Program} {l : Launch} {e : Env} {s0 : State} {m : MethodId} {args : Array Value} {below : List Frame} {meth : Method} {c : Code} (C : Cx G p s0 m args meth c cX2_sortIn 3 RX2 none) {μf : Mu}  (x1 : Int32) (x2 : Int32) (μ : Mu) (hF : f_X2_sortIn_b68 x1 x2 μ = some μf) : X G p l e 0 0 s0 m args below meth c 3 none μf μ 68 [(0, .ref (G.ad 75)), (1, .int x1), (2, .int x2)] [] := by
  unfold f_X2_sortIn_b68 at hF
  refine x_aload_n C 0 dX2_sortIn_68 rfl rfl ?_
  refine x_getR C fc_X2 fl_X2_18 sh_75 (by decide) rfl dX2_sortIn_69 ?_
  refine x_iload_n C 2 dX2_sortIn_72 rfl rfl ?_
  refine x_iload_n C 1 dX2_sortIn_73 rfl rfl ?_
  obtain ⟨hi1, hF⟩ := f_chk hF
  refine x_iast C sh_78 hi1 dX2_sortIn_74 ?_
  refine x_letM hF (fun μ2 hF => ?_)
  refine x_aload_n C 0 dX2_sortIn_75 rfl rfl ?_
  refine x_dup C dX2_sortIn_76 rfl ?_
  refine x_getI C fc_X2 fl_X2_21 sh_75 (by decide) rfl dX2_sortIn_77 ?_
  refine x_iconst (v := 1) C dX2_sortIn_80 (by decide) ?_
  refine x_iadd C dX2_sortIn_81 ?_
  refine x_putI C fc_X2 fl_X2_21 sh_75 (by decide) rfl rfl rfl ⟨rfl, rfl⟩ dX2_sortIn_82 ?_
  refine x_letM hF (fun μ3 hF => ?_)
  exact x_vret C dX2_sortIn_85 (Option.some.inj hF)
set_option maxHeartbeats 4000000 in
theorem w_X2_sortIn_L32 {G : Gl} {p : Program} {l : Launch} {e : Env} {s0 : State} {m : MethodId} {args : Array Value} {below : List Frame} {meth : Method} {c : Code} (C : Cx G p s0 m args meth c cX2_sortIn 3 RX2 none) {μf : Mu}  : ∀ (n : Nat) (x1 : Int32) (x2 : Int32) (μ : Mu), f_X2_sortIn_L32 n x1 x2 μ = some μf → X G p l e 0 0 s0 m args below meth c 3 none μf μ 32 [(0, .ref (G.ad 75)), (1, .int x1), (2, .int x2)] [] := by
  intro n
  induction n with
  | zero =>
    intro x1 x2 μ hF
    rw [f_X2_sortIn_L32] at hF
    cases hF
  | succ n ih =>
    intro x1 x2 μ hF
    rw [f_X2_sortIn_L32] at hF
    refine x_iload_n C 2 dX2_sortIn_32 rfl rfl ?_
    refine x_if_le (tgt := 68) C dX2_sortIn_33 (by decide) (fun hc => ?_) (fun hc => ?_)
    · replace hF := f_t hc hF
      exact x_pick [(0, .ref (G.ad 75)), (1, .int x1), (2, .int x2)] [0, 1, 2] rfl (w_X2_sortIn_b68 C x1 x2 μ hF)
    · replace hF := f_f hc hF
      refine x_aload_n C 0 dX2_sortIn_36 rfl rfl ?_
      refine x_getR C fc_X2 fl_X2_18 sh_75 (by decide) rfl dX2_sortIn_37 ?_
      refine x_iload_n C 2 dX2_sortIn_40 rfl rfl ?_
      refine x_iconst (v := 1) C dX2_sortIn_41 (by decide) ?_
      refine x_isub C dX2_sortIn_42 ?_
      obtain ⟨hi1, hF⟩ := f_chk hF
      refine x_iald C sh_78 hi1 dX2_sortIn_43 ?_
      refine x_iload_n C 1 dX2_sortIn_44 rfl rfl ?_
      refine x_icmp_le (tgt := 68) C dX2_sortIn_45 (by decide) (fun hc => ?_) (fun hc => ?_)
      · replace hF := f_t hc hF
        exact x_pick [(0, .ref (G.ad 75)), (1, .int x1), (2, .int x2)] [0, 1, 2] rfl (w_X2_sortIn_b68 C x1 x2 μ hF)
      · replace hF := f_f hc hF
        refine x_aload_n C 0 dX2_sortIn_48 rfl rfl ?_
        refine x_getR C fc_X2 fl_X2_18 sh_75 (by decide) rfl dX2_sortIn_49 ?_
        refine x_iload_n C 2 dX2_sortIn_52 rfl rfl ?_
        refine x_aload_n C 0 dX2_sortIn_53 rfl rfl ?_
        refine x_getR C fc_X2 fl_X2_18 sh_75 (by decide) rfl dX2_sortIn_54 ?_
        refine x_iload_n C 2 dX2_sortIn_57 rfl rfl ?_
        refine x_iconst (v := 1) C dX2_sortIn_58 (by decide) ?_
        refine x_isub C dX2_sortIn_59 ?_
        refine x_iald C sh_78 hi1 dX2_sortIn_60 ?_
        obtain ⟨hi2, hF⟩ := f_chk hF
        refine x_iast C sh_78 hi2 dX2_sortIn_61 ?_
        refine x_letM hF (fun μ3 hF => ?_)
        refine x_iinc C [(2, .int (x2 + (-1))), (0, .ref (G.ad 75)), (1, .int x1)] 2 dX2_sortIn_62 rfl rfl (by decide) rfl ?_
        refine x_goto (tgt := 32) C dX2_sortIn_65 (by decide) ?_
        exact x_pick [(0, .ref (G.ad 75)), (1, .int x1), (2, .int (x2 + (-1)))] [1, 2, 0] rfl (ih x1 (x2 + (-1)) μ3 hF)
set_option maxHeartbeats 4000000 in
theorem w_X2_sortIn_L2 {G : Gl} {p : Program} {l : Launch} {e : Env} {s0 : State} {m : MethodId} {args : Array Value} {below : List Frame} {meth : Method} {c : Code} (C : Cx G p s0 m args meth c cX2_sortIn 3 RX2 none) {μf : Mu}  : ∀ (n : Nat) (x1 : Int32) (x2 : Int32) (μ : Mu), f_X2_sortIn_L2 n x1 x2 μ = some μf → X G p l e 0 0 s0 m args below meth c 3 none μf μ 2 [(0, .ref (G.ad 75)), (1, .int x1), (2, .int x2)] [] := by
  intro n
  induction n with
  | zero =>
    intro x1 x2 μ hF
    rw [f_X2_sortIn_L2] at hF
    cases hF
  | succ n ih =>
    intro x1 x2 μ hF
    rw [f_X2_sortIn_L2] at hF
    refine x_iload_n C 2 dX2_sortIn_2 rfl rfl ?_
    refine x_aload_n C 0 dX2_sortIn_3 rfl rfl ?_
    refine x_getI C fc_X2 fl_X2_21 sh_75 (by decide) rfl dX2_sortIn_4 ?_
    refine x_icmp_ge (tgt := 27) C dX2_sortIn_7 (by decide) (fun hc => ?_) (fun hc => ?_)
    · replace hF := f_t hc hF
      refine x_aload_n C 0 dX2_sortIn_27 rfl rfl ?_
      refine x_getI C fc_X2 fl_X2_21 sh_75 (by decide) rfl dX2_sortIn_28 ?_
      refine x_letI hF (fun y1 hF => ?_)
      refine x_istore_n C [(2, .int y1), (0, .ref (G.ad 75)), (1, .int x1)] dX2_sortIn_31 rfl (by decide) rfl ?_
      exact x_pick [(0, .ref (G.ad 75)), (1, .int x1), (2, .int y1)] [1, 2, 0] rfl (w_X2_sortIn_L32 C fu x1 y1 μ hF)
    · replace hF := f_f hc hF
      refine x_aload_n C 0 dX2_sortIn_10 rfl rfl ?_
      refine x_getR C fc_X2 fl_X2_18 sh_75 (by decide) rfl dX2_sortIn_11 ?_
      refine x_iload_n C 2 dX2_sortIn_14 rfl rfl ?_
      obtain ⟨hi2, hF⟩ := f_chk hF
      refine x_iald C sh_78 hi2 dX2_sortIn_15 ?_
      refine x_iload_n C 1 dX2_sortIn_16 rfl rfl ?_
      refine x_icmp_ne (tgt := 21) C dX2_sortIn_17 (by decide) (fun hc => ?_) (fun hc => ?_)
      · replace hF := f_f hc hF
        refine x_iinc C [(2, .int (x2 + 1)), (0, .ref (G.ad 75)), (1, .int x1)] 2 dX2_sortIn_21 rfl rfl (by decide) rfl ?_
        refine x_goto (tgt := 2) C dX2_sortIn_24 (by decide) ?_
        exact x_pick [(0, .ref (G.ad 75)), (1, .int x1), (2, .int (x2 + 1))] [1, 2, 0] rfl (ih x1 (x2 + 1) μ hF)
      · replace hF := f_t hc hF
        exact x_vret C dX2_sortIn_20 (Option.some.inj hF)
set_option maxHeartbeats 4000000 in
theorem w_X2_sortIn {G : Gl} {p : Program} {l : Launch} {e : Env} {s0 : State} {m : MethodId} {args : Array Value} {below : List Frame} {meth : Method} {c : Code} (C : Cx G p s0 m args meth c cX2_sortIn 3 RX2 none) {μf : Mu}  (x1 : Int32) (μ : Mu) (hF : f_X2_sortIn x1 μ = some μf) : X G p l e 0 0 s0 m args below meth c 3 none μf μ 0 [(0, .ref (G.ad 75)), (1, .int x1)] [] := by
  unfold f_X2_sortIn at hF
  refine x_iconst (v := 0) C dX2_sortIn_0 (by decide) ?_
  refine x_istore_n C [(2, .int 0), (0, .ref (G.ad 75)), (1, .int x1)] dX2_sortIn_1 rfl (by decide) rfl ?_
  exact x_pick [(0, .ref (G.ad 75)), (1, .int x1), (2, .int 0)] [1, 2, 0] rfl (w_X2_sortIn_L2 C fu x1 0 μ hF)
set_option maxHeartbeats 4000000 in
theorem c_X2_sortIn {G : Gl} (l : Launch) (hA : Ap G) {μf : Mu}  (x1 : Int32) (μ : Mu) (hF : f_X2_sortIn x1 μ = some μf) : Mth G l yX2_sortIn cX2_sortIn 3 none 0 0 [.ref (G.ad 75), .int x1] none μf μ := Mth.of hA (by decide) rfl (Nat.le_of_ble_eq_true rfl) (fun p e s0 m args below meth c C => w_X2_sortIn C x1 μ hF)
set_option maxHeartbeats 4000000 in
theorem w_X2_cutUp_b90 {G : Gl} {p : Program} {l : Launch} {e : Env} {s0 : State} {m : MethodId} {args : Array Value} {below : List Frame} {meth : Method} {c : Code} (C : Cx G p s0 m args meth c cX2_cutUp 5 RX2 none) {d : Nat} (hv : isV d) {μf : Mu}  {k51 : Int32 → Int32 → Mu → Option (Mu)} (hk51 : ∀ (x3 : Int32) (x4 : Int32) (μ : Mu), k51 x3 x4 μ = some μf → X G p l e 2 46 s0 m args below meth c 5 none μf μ 51 [(0, .ref (G.ad 75)), (1, .ref (G.ad (d + 5))), (3, .int x3), (4, .int x4)] []) (x3 : Int32) (x4 : Int32) (μ : Mu) (hF : f_X2_cutUp_b90 k51 d x3 x4 μ = some μf) : X G p l e 2 46 s0 m args below meth c 5 none μf μ 90 [(0, .ref (G.ad 75)), (1, .ref (G.ad (d + 5))), (3, .int x3), (4, .int x4)] [] := by
  unfold f_X2_cutUp_b90 at hF
  refine x_aload_n C 0 dX2_cutUp_90 rfl rfl ?_
  refine x_iload_n C 2 dX2_cutUp_91 rfl rfl ?_
  refine x_iload C 3 dX2_cutUp_92 rfl ?_
  refine x_aload_n C 1 dX2_cutUp_94 rfl rfl ?_
  refine x_getR C fc_X6 fl_X2_25 (shV5 hv) (by decide) rfl dX2_cutUp_95 ?_
  refine x_getR C fc_X1 fl_X2_49 (shD0 (isV_D hv)) (by decide) rfl dX2_cutUp_98 ?_
  refine x_bipush (v := 8) C dX2_cutUp_101 (by decide) ?_
  refine x_iald C (shD4 (isV_D hv)) (by decide) dX2_cutUp_103 ?_
  obtain ⟨q1, hq1, hF⟩ := f_bind hF
  refine x_cVv (rest := []) C (c_X2_addRow l C.2.2.2.2.2.2.2.2 x3 x4 (μ (d + 4) (ix 8)) μ hq1) cw_X2_52 sh_75 rfl rfl ⟨by decide, by decide⟩ rfl rfl (Nat.le_of_ble_eq_true rfl) dX2_cutUp_104 ?_
  refine x_iload C 3 dX2_cutUp_107 rfl ?_
  refine x_istore_n C [(3, .int x4), (0, .ref (G.ad 75)), (1, .ref (G.ad (d + 5))), (4, .int x4)] dX2_cutUp_109 rfl (by decide) rfl ?_
  refine x_iinc C [(4, .int (x4 + 1)), (3, .int x4), (0, .ref (G.ad 75)), (1, .ref (G.ad (d + 5)))] 3 dX2_cutUp_110 rfl rfl (by decide) rfl ?_
  refine x_goto (tgt := 51) C dX2_cutUp_113 (by decide) ?_
  exact x_pick [(0, .ref (G.ad 75)), (1, .ref (G.ad (d + 5))), (3, .int x4), (4, .int (x4 + 1))] [2, 3, 1, 0] rfl (hk51 x4 (x4 + 1) q1 hF)
set_option maxHeartbeats 4000000 in
theorem w_X2_cutUp_L51 {G : Gl} {p : Program} {l : Launch} {e : Env} {s0 : State} {m : MethodId} {args : Array Value} {below : List Frame} {meth : Method} {c : Code} (C : Cx G p s0 m args meth c cX2_cutUp 5 RX2 none) {d : Nat} (hv : isV d) {μf : Mu}  : ∀ (n : Nat) (x3 : Int32) (x4 : Int32) (μ : Mu), f_X2_cutUp_L51 d n x3 x4 μ = some μf → X G p l e 2 46 s0 m args below meth c 5 none μf μ 51 [(0, .ref (G.ad 75)), (1, .ref (G.ad (d + 5))), (3, .int x3), (4, .int x4)] [] := by
  intro n
  induction n with
  | zero =>
    intro x3 x4 μ hF
    rw [f_X2_cutUp_L51] at hF
    cases hF
  | succ n ih =>
    intro x3 x4 μ hF
    rw [f_X2_cutUp_L51] at hF
    refine x_iload C 3 dX2_cutUp_51 rfl ?_
    refine x_aload_n C 0 dX2_cutUp_53 rfl rfl ?_
    refine x_getI C fc_X2 fl_X2_21 sh_75 (by decide) rfl dX2_cutUp_54 ?_
    refine x_icmp_gt (tgt := 116) C dX2_cutUp_57 (by decide) (fun hc => ?_) (fun hc => ?_)
    · replace hF := f_t hc hF
      exact x_vret C dX2_cutUp_116 (Option.some.inj hF)
    · replace hF := f_f hc hF
      refine x_iload C 3 dX2_cutUp_60 rfl ?_
      refine x_aload_n C 0 dX2_cutUp_62 rfl rfl ?_
      refine x_getI C fc_X2 fl_X2_21 sh_75 (by decide) rfl dX2_cutUp_63 ?_
      refine x_icmp_eq (tgt := 90) C dX2_cutUp_66 (by decide) (fun hc => ?_) (fun hc => ?_)
      · replace hF := f_t hc hF
        exact x_pick [(0, .ref (G.ad 75)), (1, .ref (G.ad (d + 5))), (3, .int x3), (4, .int x4)] [0, 1, 2, 3] rfl (w_X2_cutUp_b90 C hv ih x3 x4 μ hF)
      · replace hF := f_f hc hF
        refine x_aload_n C 0 dX2_cutUp_69 rfl rfl ?_
        refine x_getR C fc_X2 fl_X2_18 sh_75 (by decide) rfl dX2_cutUp_70 ?_
        refine x_iload C 3 dX2_cutUp_73 rfl ?_
        obtain ⟨hi1, hF⟩ := f_chk hF
        refine x_iald C sh_78 hi1 dX2_cutUp_75 ?_
        refine x_aload_n C 0 dX2_cutUp_76 rfl rfl ?_
        refine x_getR C fc_X2 fl_X2_18 sh_75 (by decide) rfl dX2_cutUp_77 ?_
        refine x_iload C 3 dX2_cutUp_80 rfl ?_
        refine x_iconst (v := 1) C dX2_cutUp_82 (by decide) ?_
        refine x_isub C dX2_cutUp_83 ?_
        obtain ⟨hi2, hF⟩ := f_chk hF
        refine x_iald C sh_78 hi2 dX2_cutUp_84 ?_
        refine x_iconst (v := 1) C dX2_cutUp_85 (by decide) ?_
        refine x_iadd C dX2_cutUp_86 ?_
        refine x_icmp_eq (tgt := 110) C dX2_cutUp_87 (by decide) (fun hc => ?_) (fun hc => ?_)
        · replace hF := f_t hc hF
          refine x_iinc C [(4, .int (x4 + 1)), (0, .ref (G.ad 75)), (1, .ref (G.ad (d + 5))), (3, .int x3)] 3 dX2_cutUp_110 rfl rfl (by decide) rfl ?_
          refine x_goto (tgt := 51) C dX2_cutUp_113 (by decide) ?_
          exact x_pick [(0, .ref (G.ad 75)), (1, .ref (G.ad (d + 5))), (3, .int x3), (4, .int (x4 + 1))] [1, 2, 3, 0] rfl (ih x3 (x4 + 1) μ hF)
        · replace hF := f_f hc hF
          exact x_pick [(0, .ref (G.ad 75)), (1, .ref (G.ad (d + 5))), (3, .int x3), (4, .int x4)] [0, 1, 2, 3] rfl (w_X2_cutUp_b90 C hv ih x3 x4 μ hF)
set_option maxHeartbeats 4000000 in
theorem w_X2_cutUp_L7 {G : Gl} {p : Program} {l : Launch} {e : Env} {s0 : State} {m : MethodId} {args : Array Value} {below : List Frame} {meth : Method} {c : Code} (C : Cx G p s0 m args meth c cX2_cutUp 5 RX2 none) {d : Nat} (hv : isV d) {μf : Mu}  : ∀ (n : Nat) (x2 : Int32) (x3 : Int32) (μ : Mu), f_X2_cutUp_L7 d n x2 x3 μ = some μf → X G p l e 2 46 s0 m args below meth c 5 none μf μ 7 [(0, .ref (G.ad 75)), (1, .ref (G.ad (d + 5))), (2, .int x2), (3, .int x3)] [] := by
  intro n
  induction n with
  | zero =>
    intro x2 x3 μ hF
    rw [f_X2_cutUp_L7] at hF
    cases hF
  | succ n ih =>
    intro x2 x3 μ hF
    rw [f_X2_cutUp_L7] at hF
    refine x_iload_n C 3 dX2_cutUp_7 rfl rfl ?_
    refine x_aload_n C 1 dX2_cutUp_8 rfl rfl ?_
    refine x_getR C fc_X6 fl_X2_25 (shV5 hv) (by decide) rfl dX2_cutUp_9 ?_
    refine x_getR C fc_X1 fl_X2_31 (shD0 (isV_D hv)) (by decide) rfl dX2_cutUp_12 ?_
    refine x_iload_n C 2 dX2_cutUp_15 rfl rfl ?_
    obtain ⟨hi1, hF⟩ := f_chk hF
    refine x_iald C (shD2 (isV_D hv)) hi1 dX2_cutUp_16 ?_
    refine x_icmp_ge (tgt := 41) C dX2_cutUp_17 (by decide) (fun hc => ?_) (fun hc => ?_)
    · replace hF := f_t hc hF
      refine x_aload_n C 0 dX2_cutUp_41 rfl rfl ?_
      refine x_iconst (v := 0) C dX2_cutUp_42 (by decide) ?_
      refine x_putI C fc_X2 fl_X2_46 sh_75 (by decide) rfl rfl rfl ⟨rfl, rfl⟩ dX2_cutUp_43 ?_
      refine x_letM hF (fun μ2 hF => ?_)
      refine x_iconst (v := 0) C dX2_cutUp_46 (by decide) ?_
      refine x_istore_n C [(3, .int 0), (0, .ref (G.ad 75)), (1, .ref (G.ad (d + 5))), (2, .int x2)] dX2_cutUp_47 rfl (by decide) rfl ?_
      refine x_iconst (v := 1) C dX2_cutUp_48 (by decide) ?_
      refine x_istore C [(4, .int 1), (3, .int 0), (0, .ref (G.ad 75)), (1, .ref (G.ad (d + 5))), (2, .int x2)] dX2_cutUp_49 (by decide) rfl ?_
      exact x_pick [(0, .ref (G.ad 75)), (1, .ref (G.ad (d + 5))), (3, .int 0), (4, .int 1)] [2, 3, 1, 0] rfl (w_X2_cutUp_L51 C hv fu 0 1 μ2 hF)
    · replace hF := f_f hc hF
      refine x_aload_n C 0 dX2_cutUp_20 rfl rfl ?_
      refine x_aload_n C 1 dX2_cutUp_21 rfl rfl ?_
      refine x_getR C fc_X6 fl_X2_35 (shV5 hv) (by decide) rfl dX2_cutUp_22 ?_
      refine x_aload_n C 1 dX2_cutUp_25 rfl rfl ?_
      refine x_iload_n C 2 dX2_cutUp_26 rfl rfl ?_
      refine x_iload_n C 3 dX2_cutUp_27 rfl rfl ?_
      obtain ⟨q3, hq3, hF⟩ := f_bind hF
      refine x_cVi (rest := [.ref (G.ad (d + 13)), .ref (G.ad 75)]) C (c_X6_meantIn l C.2.2.2.2.2.2.2.2 hv x2 x3 μ hq3) cw_X2_38 (shV5 hv) rfl rfl ⟨by decide, by decide⟩ rfl rfl (Nat.le_of_ble_eq_true rfl) dX2_cutUp_28 ?_
      obtain ⟨hi4, hF⟩ := f_chk hF
      refine x_iald C (shV13 hv) hi4 dX2_cutUp_31 ?_
      obtain ⟨q5, hq5, hF⟩ := f_bind hF
      refine x_cVv (rest := []) C (c_X2_sortIn l C.2.2.2.2.2.2.2.2 (μ (d + 13) (ix q3)) μ hq5) cw_X2_42 sh_75 rfl rfl ⟨by decide, by decide⟩ rfl rfl (Nat.le_of_ble_eq_true rfl) dX2_cutUp_32 ?_
      refine x_iinc C [(3, .int (x3 + 1)), (0, .ref (G.ad 75)), (1, .ref (G.ad (d + 5))), (2, .int x2)] 3 dX2_cutUp_35 rfl rfl (by decide) rfl ?_
      refine x_goto (tgt := 7) C dX2_cutUp_38 (by decide) ?_
      exact x_pick [(0, .ref (G.ad 75)), (1, .ref (G.ad (d + 5))), (2, .int x2), (3, .int (x3 + 1))] [1, 2, 3, 0] rfl (ih x2 (x3 + 1) q5 hF)
set_option maxHeartbeats 4000000 in
theorem w_X2_cutUp {G : Gl} {p : Program} {l : Launch} {e : Env} {s0 : State} {m : MethodId} {args : Array Value} {below : List Frame} {meth : Method} {c : Code} (C : Cx G p s0 m args meth c cX2_cutUp 5 RX2 none) {d : Nat} (hv : isV d) {μf : Mu}  (x2 : Int32) (μ : Mu) (hF : f_X2_cutUp d x2 μ = some μf) : X G p l e 2 46 s0 m args below meth c 5 none μf μ 0 [(0, .ref (G.ad 75)), (1, .ref (G.ad (d + 5))), (2, .int x2)] [] := by
  unfold f_X2_cutUp at hF
  refine x_aload_n C 0 dX2_cutUp_0 rfl rfl ?_
  refine x_iconst (v := 0) C dX2_cutUp_1 (by decide) ?_
  refine x_putI C fc_X2 fl_X2_21 sh_75 (by decide) rfl rfl rfl ⟨rfl, rfl⟩ dX2_cutUp_2 ?_
  refine x_letM hF (fun μ1 hF => ?_)
  refine x_iconst (v := 0) C dX2_cutUp_5 (by decide) ?_
  refine x_istore_n C [(3, .int 0), (0, .ref (G.ad 75)), (1, .ref (G.ad (d + 5))), (2, .int x2)] dX2_cutUp_6 rfl (by decide) rfl ?_
  exact x_pick [(0, .ref (G.ad 75)), (1, .ref (G.ad (d + 5))), (2, .int x2), (3, .int 0)] [1, 2, 3, 0] rfl (w_X2_cutUp_L7 C hv fu x2 0 μ1 hF)
set_option maxHeartbeats 4000000 in
theorem c_X2_cutUp {G : Gl} (l : Launch) (hA : Ap G) {d : Nat} (hv : isV d) {μf : Mu}  (x2 : Int32) (μ : Mu) (hF : f_X2_cutUp d x2 μ = some μf) : Mth G l yX2_cutUp cX2_cutUp 5 none 2 46 [.ref (G.ad 75), .ref (G.ad (d + 5)), .int x2] none μf μ := Mth.of hA (by decide) rfl (Nat.le_of_ble_eq_true rfl) (fun p e s0 m args below meth c C => w_X2_cutUp C hv x2 μ hF)
set_option maxHeartbeats 4000000 in
theorem w_X3_addByte {G : Gl} {p : Program} {l : Launch} {e : Env} {s0 : State} {m : MethodId} {args : Array Value} {below : List Frame} {meth : Method} {c : Code} (C : Cx G p s0 m args meth c cX3_addByte 2 RX3 none) {μf : Mu}  (x1 : Int32) (μ : Mu) (hF : f_X3_addByte x1 μ = some μf) : X G p l e 0 0 s0 m args below meth c 2 none μf μ 0 [(0, .ref (G.ad 71)), (1, .int x1)] [] := by
  unfold f_X3_addByte at hF
  refine x_aload_n C 0 dX3_addByte_0 rfl rfl ?_
  refine x_getR C fc_X3 fl_X3_19 sh_71 (by decide) rfl dX3_addByte_1 ?_
  refine x_aload_n C 0 dX3_addByte_4 rfl rfl ?_
  refine x_getI C fc_X3 fl_X3_26 sh_71 (by decide) rfl dX3_addByte_5 ?_
  refine x_iload_n C 1 dX3_addByte_8 rfl rfl ?_
  obtain ⟨hi1, hF⟩ := f_chk hF
  refine x_iast C sh_73 hi1 dX3_addByte_9 ?_
  refine x_letM hF (fun μ2 hF => ?_)
  refine x_aload_n C 0 dX3_addByte_10 rfl rfl ?_
  refine x_dup C dX3_addByte_11 rfl ?_
  refine x_getI C fc_X3 fl_X3_26 sh_71 (by decide) rfl dX3_addByte_12 ?_
  refine x_iconst (v := 1) C dX3_addByte_15 (by decide) ?_
  refine x_iadd C dX3_addByte_16 ?_
  refine x_putI C fc_X3 fl_X3_26 sh_71 (by decide) rfl rfl rfl ⟨rfl, rfl⟩ dX3_addByte_17 ?_
  refine x_letM hF (fun μ3 hF => ?_)
  exact x_vret C dX3_addByte_20 (Option.some.inj hF)
set_option maxHeartbeats 4000000 in
theorem c_X3_addByte {G : Gl} (l : Launch) (hA : Ap G) {μf : Mu}  (x1 : Int32) (μ : Mu) (hF : f_X3_addByte x1 μ = some μf) : Mth G l yX3_addByte cX3_addByte 2 none 0 0 [.ref (G.ad 71), .int x1] none μf μ := Mth.of hA (by decide) rfl (Nat.le_of_ble_eq_true rfl) (fun p e s0 m args below meth c C => w_X3_addByte C x1 μ hF)
set_option maxHeartbeats 4000000 in
theorem w_X3_blame {G : Gl} {p : Program} {l : Launch} {e : Env} {s0 : State} {m : MethodId} {args : Array Value} {below : List Frame} {meth : Method} {c : Code} (C : Cx G p s0 m args meth c cX3_blame 3 RX3 (some .boolean)) {r : Int32} {μf : Mu}  (x1 : Int32) (x2 : Int32) (μ : Mu) (hF : f_X3_blame x1 x2 μ = some (r, μf)) : X G p l e 0 0 s0 m args below meth c 3 (some (.int r)) μf μ 0 [(0, .ref (G.ad 71)), (1, .int x1), (2, .int x2)] [] := by
  unfold f_X3_blame at hF
  refine x_aload_n C 0 dX3_blame_0 rfl rfl ?_
  refine x_iload_n C 1 dX3_blame_1 rfl rfl ?_
  refine x_putI C fc_X3 fl_X3_38 sh_71 (by decide) rfl rfl rfl ⟨rfl, rfl⟩ dX3_blame_2 ?_
  refine x_letM hF (fun μ1 hF => ?_)
  refine x_aload_n C 0 dX3_blame_5 rfl rfl ?_
  refine x_iload_n C 2 dX3_blame_6 rfl rfl ?_
  refine x_putI C fc_X3 fl_X3_15 sh_71 (by decide) rfl rfl rfl ⟨rfl, rfl⟩ dX3_blame_7 ?_
  refine x_letM hF (fun μ2 hF => ?_)
  refine x_iconst (v := 0) C dX3_blame_10 (by decide) ?_
  exact x_zret C dX3_blame_11 (by decide) (Prod.mk.inj (Option.some.inj hF)).1 (Prod.mk.inj (Option.some.inj hF)).2
set_option maxHeartbeats 4000000 in
theorem c_X3_blame {G : Gl} (l : Launch) (hA : Ap G) {r : Int32} {μf : Mu}  (x1 : Int32) (x2 : Int32) (μ : Mu) (hF : f_X3_blame x1 x2 μ = some (r, μf)) : Mth G l yX3_blame cX3_blame 3 (some .boolean) 0 0 [.ref (G.ad 71), .int x1, .int x2] (some (.int r)) μf μ := Mth.of hA (by decide) rfl (Nat.le_of_ble_eq_true rfl) (fun p e s0 m args below meth c C => w_X3_blame C x1 x2 μ hF)
set_option maxHeartbeats 4000000 in
theorem w_X3_choiceOf {G : Gl} {p : Program} {l : Launch} {e : Env} {s0 : State} {m : MethodId} {args : Array Value} {below : List Frame} {meth : Method} {c : Code} (C : Cx G p s0 m args meth c cX3_choiceOf 2 RX3 (some (.object "java/lang/String"))) {r : Nat}  (x0 : Int32) (x1 : Int32) (μ : Mu) (hF : f_X3_choiceOf x0 x1 = r) : X G p l e 0 0 s0 m args below meth c 2 (some (.ref (G.aK r))) μ μ 0 [(0, .int x0), (1, .int x1)] [] := by
  unfold f_X3_choiceOf at hF
  refine x_iload_n C 0 dX3_choiceOf_0 rfl rfl ?_
  by_cases hs0 : x0 = 0
  · replace hF := f_t hs0 hF
    refine x_lookup (tgt := 36) (off := 35) C dX3_choiceOf_1 (by decide) (by rw [hs0]; decide +kernel) (by decide) ?_
    refine x_iload_n C 1 dX3_choiceOf_36 rfl rfl ?_
    refine x_if_ne (tgt := 45) C dX3_choiceOf_37 (by decide) (fun hc => ?_) (fun hc => ?_)
    · replace hF := f_f hc hF
      refine x_iload_n C 1 dX3_choiceOf_45 rfl rfl ?_
      refine x_iconst (v := 1) C dX3_choiceOf_46 (by decide) ?_
      refine x_icmp_ne (tgt := 55) C dX3_choiceOf_47 (by decide) (fun hc => ?_) (fun hc => ?_)
      · replace hF := f_f hc hF
        refine x_ldcS C (j := 12) (by decide) dX3_choiceOf_55 ?_
        exact x_aret C dX3_choiceOf_57 (congrArg G.aK hF) rfl
      · replace hF := f_t hc hF
        refine x_ldcS C (j := 11) (by decide) dX3_choiceOf_50 ?_
        refine x_goto (tgt := 57) C dX3_choiceOf_52 (by decide) ?_
        exact x_aret C dX3_choiceOf_57 (congrArg G.aK hF) rfl
    · replace hF := f_t hc hF
      refine x_ldcS C (j := 10) (by decide) dX3_choiceOf_40 ?_
      refine x_goto (tgt := 57) C dX3_choiceOf_42 (by decide) ?_
      exact x_aret C dX3_choiceOf_57 (congrArg G.aK hF) rfl
  · replace hF := f_f hs0 hF
    by_cases hs1 : x0 = 1
    · replace hF := f_t hs1 hF
      refine x_lookup (tgt := 58) (off := 57) C dX3_choiceOf_1 (by decide) (by rw [hs1]; decide +kernel) (by decide) ?_
      refine x_iload_n C 1 dX3_choiceOf_58 rfl rfl ?_
      refine x_if_ne (tgt := 67) C dX3_choiceOf_59 (by decide) (fun hc => ?_) (fun hc => ?_)
      · replace hF := f_f hc hF
        refine x_iload_n C 1 dX3_choiceOf_67 rfl rfl ?_
        refine x_iconst (v := 1) C dX3_choiceOf_68 (by decide) ?_
        refine x_icmp_ne (tgt := 77) C dX3_choiceOf_69 (by decide) (fun hc => ?_) (fun hc => ?_)
        · replace hF := f_f hc hF
          refine x_ldcS C (j := 14) (by decide) dX3_choiceOf_77 ?_
          exact x_aret C dX3_choiceOf_79 (congrArg G.aK hF) rfl
        · replace hF := f_t hc hF
          refine x_ldcS C (j := 11) (by decide) dX3_choiceOf_72 ?_
          refine x_goto (tgt := 79) C dX3_choiceOf_74 (by decide) ?_
          exact x_aret C dX3_choiceOf_79 (congrArg G.aK hF) rfl
      · replace hF := f_t hc hF
        refine x_ldcS C (j := 13) (by decide) dX3_choiceOf_62 ?_
        refine x_goto (tgt := 79) C dX3_choiceOf_64 (by decide) ?_
        exact x_aret C dX3_choiceOf_79 (congrArg G.aK hF) rfl
    · replace hF := f_f hs1 hF
      by_cases hs9 : x0 = 9
      · replace hF := f_t hs9 hF
        refine x_lookup (tgt := 80) (off := 79) C dX3_choiceOf_1 (by decide) (by rw [hs9]; decide +kernel) (by decide) ?_
        refine x_iload_n C 1 dX3_choiceOf_80 rfl rfl ?_
        refine x_if_ne (tgt := 89) C dX3_choiceOf_81 (by decide) (fun hc => ?_) (fun hc => ?_)
        · replace hF := f_f hc hF
          refine x_iload_n C 1 dX3_choiceOf_89 rfl rfl ?_
          refine x_iconst (v := 1) C dX3_choiceOf_90 (by decide) ?_
          refine x_icmp_ne (tgt := 99) C dX3_choiceOf_91 (by decide) (fun hc => ?_) (fun hc => ?_)
          · replace hF := f_f hc hF
            refine x_ldcS C (j := 17) (by decide) dX3_choiceOf_99 ?_
            exact x_aret C dX3_choiceOf_101 (congrArg G.aK hF) rfl
          · replace hF := f_t hc hF
            refine x_ldcS C (j := 16) (by decide) dX3_choiceOf_94 ?_
            refine x_goto (tgt := 101) C dX3_choiceOf_96 (by decide) ?_
            exact x_aret C dX3_choiceOf_101 (congrArg G.aK hF) rfl
        · replace hF := f_t hc hF
          refine x_ldcS C (j := 15) (by decide) dX3_choiceOf_84 ?_
          refine x_goto (tgt := 101) C dX3_choiceOf_86 (by decide) ?_
          exact x_aret C dX3_choiceOf_101 (congrArg G.aK hF) rfl
      · replace hF := f_f hs9 hF
        refine x_lookup (tgt := 102) (off := 101) C dX3_choiceOf_1 (by decide) (sw_look_101 hs0 hs1 hs9) (by decide) ?_
        refine x_iload_n C 1 dX3_choiceOf_102 rfl rfl ?_
        refine x_if_ne (tgt := 111) C dX3_choiceOf_103 (by decide) (fun hc => ?_) (fun hc => ?_)
        · replace hF := f_f hc hF
          refine x_iload_n C 1 dX3_choiceOf_111 rfl rfl ?_
          refine x_iconst (v := 1) C dX3_choiceOf_112 (by decide) ?_
          refine x_icmp_ne (tgt := 121) C dX3_choiceOf_113 (by decide) (fun hc => ?_) (fun hc => ?_)
          · replace hF := f_f hc hF
            refine x_ldcS C (j := 17) (by decide) dX3_choiceOf_121 ?_
            exact x_aret C dX3_choiceOf_123 (congrArg G.aK hF) rfl
          · replace hF := f_t hc hF
            refine x_ldcS C (j := 19) (by decide) dX3_choiceOf_116 ?_
            refine x_goto (tgt := 123) C dX3_choiceOf_118 (by decide) ?_
            exact x_aret C dX3_choiceOf_123 (congrArg G.aK hF) rfl
        · replace hF := f_t hc hF
          refine x_ldcS C (j := 18) (by decide) dX3_choiceOf_106 ?_
          refine x_goto (tgt := 123) C dX3_choiceOf_108 (by decide) ?_
          exact x_aret C dX3_choiceOf_123 (congrArg G.aK hF) rfl
set_option maxHeartbeats 4000000 in
theorem c_X3_choiceOf {G : Gl} (l : Launch) (hA : Ap G) (x0 : Int32) (x1 : Int32) (μ : Mu) : Mth G l yX3_choiceOf cX3_choiceOf 2 (some (.object "java/lang/String")) 0 0 [.int x0, .int x1] (some (.ref (G.aK (f_X3_choiceOf x0 x1)))) μ μ := Mth.of hA (by decide) rfl (Nat.le_of_ble_eq_true rfl) (fun p e s0 m args below meth c C => w_X3_choiceOf C x0 x1 μ rfl)
set_option maxHeartbeats 4000000 in
theorem w_X3_headOf {G : Gl} {p : Program} {l : Launch} {e : Env} {s0 : State} {m : MethodId} {args : Array Value} {below : List Frame} {meth : Method} {c : Code} (C : Cx G p s0 m args meth c cX3_headOf 1 RX3 (some (.object "java/lang/String"))) {r : Nat}  (x0 : Int32) (μ : Mu) (hF : f_X3_headOf x0 = r) : X G p l e 0 0 s0 m args below meth c 1 (some (.ref (G.aK r))) μ μ 0 [(0, .int x0)] [] := by
  unfold f_X3_headOf at hF
  refine x_iload_n C 0 dX3_headOf_0 rfl rfl ?_
  by_cases hs0 : x0 = 0
  · replace hF := f_t hs0 hF
    refine x_tableIn (tgt := 52) (off := 51) C dX3_headOf_1 (by rw [hs0]; decide) (by rw [hs0]; decide) (by rw [hs0]; decide +kernel) (by decide) ?_
    refine x_ldcS C (j := 0) (by decide) dX3_headOf_52 ?_
    exact x_aret C dX3_headOf_54 (congrArg G.aK hF) rfl
  · replace hF := f_f hs0 hF
    by_cases hs1 : x0 = 1
    · replace hF := f_t hs1 hF
      refine x_tableIn (tgt := 55) (off := 54) C dX3_headOf_1 (by rw [hs1]; decide) (by rw [hs1]; decide) (by rw [hs1]; decide +kernel) (by decide) ?_
      refine x_ldcS C (j := 1) (by decide) dX3_headOf_55 ?_
      exact x_aret C dX3_headOf_57 (congrArg G.aK hF) rfl
    · replace hF := f_f hs1 hF
      by_cases hs2 : x0 = 2
      · replace hF := f_t hs2 hF
        refine x_tableIn (tgt := 58) (off := 57) C dX3_headOf_1 (by rw [hs2]; decide) (by rw [hs2]; decide) (by rw [hs2]; decide +kernel) (by decide) ?_
        refine x_ldcS C (j := 2) (by decide) dX3_headOf_58 ?_
        exact x_aret C dX3_headOf_60 (congrArg G.aK hF) rfl
      · replace hF := f_f hs2 hF
        by_cases hs3 : x0 = 3
        · replace hF := f_t hs3 hF
          refine x_tableIn (tgt := 61) (off := 60) C dX3_headOf_1 (by rw [hs3]; decide) (by rw [hs3]; decide) (by rw [hs3]; decide +kernel) (by decide) ?_
          refine x_ldcS C (j := 3) (by decide) dX3_headOf_61 ?_
          exact x_aret C dX3_headOf_63 (congrArg G.aK hF) rfl
        · replace hF := f_f hs3 hF
          by_cases hs4 : x0 = 4
          · replace hF := f_t hs4 hF
            refine x_tableIn (tgt := 64) (off := 63) C dX3_headOf_1 (by rw [hs4]; decide) (by rw [hs4]; decide) (by rw [hs4]; decide +kernel) (by decide) ?_
            refine x_ldcS C (j := 4) (by decide) dX3_headOf_64 ?_
            exact x_aret C dX3_headOf_66 (congrArg G.aK hF) rfl
          · replace hF := f_f hs4 hF
            by_cases hs5 : x0 = 5
            · replace hF := f_t hs5 hF
              refine x_tableIn (tgt := 67) (off := 66) C dX3_headOf_1 (by rw [hs5]; decide) (by rw [hs5]; decide) (by rw [hs5]; decide +kernel) (by decide) ?_
              refine x_ldcS C (j := 5) (by decide) dX3_headOf_67 ?_
              exact x_aret C dX3_headOf_69 (congrArg G.aK hF) rfl
            · replace hF := f_f hs5 hF
              by_cases hs6 : x0 = 6
              · replace hF := f_t hs6 hF
                refine x_tableIn (tgt := 70) (off := 69) C dX3_headOf_1 (by rw [hs6]; decide) (by rw [hs6]; decide) (by rw [hs6]; decide +kernel) (by decide) ?_
                refine x_ldcS C (j := 6) (by decide) dX3_headOf_70 ?_
                exact x_aret C dX3_headOf_72 (congrArg G.aK hF) rfl
              · replace hF := f_f hs6 hF
                by_cases hs7 : x0 = 7
                · replace hF := f_t hs7 hF
                  refine x_tableIn (tgt := 73) (off := 72) C dX3_headOf_1 (by rw [hs7]; decide) (by rw [hs7]; decide) (by rw [hs7]; decide +kernel) (by decide) ?_
                  refine x_ldcS C (j := 7) (by decide) dX3_headOf_73 ?_
                  exact x_aret C dX3_headOf_75 (congrArg G.aK hF) rfl
                · replace hF := f_f hs7 hF
                  by_cases hs8 : x0 = 8
                  · replace hF := f_t hs8 hF
                    refine x_tableIn (tgt := 76) (off := 75) C dX3_headOf_1 (by rw [hs8]; decide) (by rw [hs8]; decide) (by rw [hs8]; decide +kernel) (by decide) ?_
                    refine x_ldcS C (j := 8) (by decide) dX3_headOf_76 ?_
                    exact x_aret C dX3_headOf_78 (congrArg G.aK hF) rfl
                  · replace hF := f_f hs8 hF
                    refine x_tableOut (tgt := 79) C dX3_headOf_1 (sw_out_0_8 hs0 hs1 hs2 hs3 hs4 hs5 hs6 hs7 hs8) (by decide) ?_
                    refine x_ldcS C (j := 9) (by decide) dX3_headOf_79 ?_
                    exact x_aret C dX3_headOf_81 (congrArg G.aK hF) rfl
set_option maxHeartbeats 4000000 in
theorem c_X3_headOf {G : Gl} (l : Launch) (hA : Ap G) (x0 : Int32) (μ : Mu) : Mth G l yX3_headOf cX3_headOf 1 (some (.object "java/lang/String")) 0 0 [.int x0] (some (.ref (G.aK (f_X3_headOf x0)))) μ μ := Mth.of hA (by decide) rfl (Nat.le_of_ble_eq_true rfl) (fun p e s0 m args below meth c C => w_X3_headOf C x0 μ rfl)
set_option maxHeartbeats 4000000 in
theorem w_X7_within {G : Gl} {p : Program} {l : Launch} {e : Env} {s0 : State} {m : MethodId} {args : Array Value} {below : List Frame} {meth : Method} {c : Code} (C : Cx G p s0 m args meth c cX7_within 3 RX7 (some .boolean)) {r : Int32}  (x0 : Int32) (x1 : Int32) (x2 : Int32) (μ : Mu) (hF : f_X7_within x0 x1 x2 = r) : X G p l e 0 0 s0 m args below meth c 3 (some (.int r)) μ μ 0 [(0, .int x0), (1, .int x1), (2, .int x2)] [] := by
  unfold f_X7_within at hF
  refine x_iload_n C 0 dX7_within_0 rfl rfl ?_
  refine x_iload_n C 1 dX7_within_1 rfl rfl ?_
  refine x_icmp_lt (tgt := 14) C dX7_within_2 (by decide) (fun hc => ?_) (fun hc => ?_)
  · replace hF := f_t hc hF
    refine x_iconst (v := 0) C dX7_within_14 (by decide) ?_
    exact x_zret C dX7_within_15 (by decide) hF rfl
  · replace hF := f_f hc hF
    refine x_iload_n C 0 dX7_within_5 rfl rfl ?_
    refine x_iload_n C 2 dX7_within_6 rfl rfl ?_
    refine x_icmp_gt (tgt := 14) C dX7_within_7 (by decide) (fun hc => ?_) (fun hc => ?_)
    · replace hF := f_t hc hF
      refine x_iconst (v := 0) C dX7_within_14 (by decide) ?_
      exact x_zret C dX7_within_15 (by decide) hF rfl
    · replace hF := f_f hc hF
      refine x_iconst (v := 1) C dX7_within_10 (by decide) ?_
      refine x_goto (tgt := 15) C dX7_within_11 (by decide) ?_
      exact x_zret C dX7_within_15 (by decide) hF rfl
set_option maxHeartbeats 4000000 in
theorem c_X7_within {G : Gl} (l : Launch) (hA : Ap G) (x0 : Int32) (x1 : Int32) (x2 : Int32) (μ : Mu) : Mth G l yX7_within cX7_within 3 (some .boolean) 0 0 [.int x0, .int x1, .int x2] (some (.int (f_X7_within x0 x1 x2))) μ μ := Mth.of hA (by decide) rfl (Nat.le_of_ble_eq_true rfl) (fun p e s0 m args below meth c C => w_X7_within C x0 x1 x2 μ rfl)
set_option maxHeartbeats 4000000 in
theorem w_X3_isInBounds {G : Gl} {p : Program} {l : Launch} {e : Env} {s0 : State} {m : MethodId} {args : Array Value} {below : List Frame} {meth : Method} {c : Code} (C : Cx G p s0 m args meth c cX3_isInBounds 3 RX3 (some .boolean)) {r : Int32}  (x1 : Int32) (x2 : Int32) (μ : Mu) (hF : f_X3_isInBounds x1 x2 μ = some r) : X G p l e 1 22 s0 m args below meth c 3 (some (.int r)) μ μ 0 [(0, .ref (G.ad 71)), (1, .int x1), (2, .int x2)] [] := by
  unfold f_X3_isInBounds at hF
  refine x_iload_n C 1 dX3_isInBounds_0 rfl rfl ?_
  by_cases hs2 : x1 = 2
  · replace hF := f_t hs2 hF
    refine x_lookup (tgt := 36) (off := 35) C dX3_isInBounds_1 (by decide) (by rw [hs2]; decide +kernel) (by decide) ?_
    refine x_iload_n C 2 dX3_isInBounds_36 rfl rfl ?_
    refine x_iconst (v := 1) C dX3_isInBounds_37 (by decide) ?_
    refine x_iconst (v := 4) C dX3_isInBounds_38 (by decide) ?_
    refine x_cNi (rest := []) C (c_X7_within l C.2.2.2.2.2.2.2.2 x2 1 4 μ) cwN_X3_90 ⟨by decide, by decide⟩ rfl rfl (Nat.le_of_ble_eq_true rfl) dX3_isInBounds_39 ?_
    obtain ⟨hb1, hF⟩ := f_chk hF
    exact x_zret C dX3_isInBounds_42 hb1 (Option.some.inj hF) rfl
  · replace hF := f_f hs2 hF
    by_cases hs3 : x1 = 3
    · replace hF := f_t hs3 hF
      refine x_lookup (tgt := 43) (off := 42) C dX3_isInBounds_1 (by decide) (by rw [hs3]; decide +kernel) (by decide) ?_
      refine x_iload_n C 2 dX3_isInBounds_43 rfl rfl ?_
      refine x_iconst (v := 1) C dX3_isInBounds_44 (by decide) ?_
      refine x_aload_n C 0 dX3_isInBounds_45 rfl rfl ?_
      refine x_getR C fc_X3 fl_X3_9 sh_71 (by decide) rfl dX3_isInBounds_46 ?_
      refine x_iconst (v := 2) C dX3_isInBounds_49 (by decide) ?_
      refine x_iald C sh_72 (by decide) dX3_isInBounds_50 ?_
      refine x_cNi (rest := []) C (c_X7_within l C.2.2.2.2.2.2.2.2 x2 1 (μ 72 (ix 2)) μ) cwN_X3_90 ⟨by decide, by decide⟩ rfl rfl (Nat.le_of_ble_eq_true rfl) dX3_isInBounds_51 ?_
      obtain ⟨hb2, hF⟩ := f_chk hF
      exact x_zret C dX3_isInBounds_54 hb2 (Option.some.inj hF) rfl
    · replace hF := f_f hs3 hF
      by_cases hs8 : x1 = 8
      · replace hF := f_t hs8 hF
        refine x_lookup (tgt := 55) (off := 54) C dX3_isInBounds_1 (by decide) (by rw [hs8]; decide +kernel) (by decide) ?_
        refine x_iload_n C 2 dX3_isInBounds_55 rfl rfl ?_
        refine x_if_eq (tgt := 69) C dX3_isInBounds_56 (by decide) (fun hc => ?_) (fun hc => ?_)
        · replace hF := f_t hc hF
          refine x_iconst (v := 1) C dX3_isInBounds_69 (by decide) ?_
          refine x_goto (tgt := 74) C dX3_isInBounds_70 (by decide) ?_
          exact x_zret C dX3_isInBounds_74 (by decide) (Option.some.inj hF) rfl
        · replace hF := f_f hc hF
          refine x_iload_n C 2 dX3_isInBounds_59 rfl rfl ?_
          refine x_iconst (v := 2) C dX3_isInBounds_60 (by decide) ?_
          refine x_bipush (v := 9) C dX3_isInBounds_61 (by decide) ?_
          refine x_cNi (rest := []) C (c_X7_within l C.2.2.2.2.2.2.2.2 x2 2 9 μ) cwN_X3_90 ⟨by decide, by decide⟩ rfl rfl (Nat.le_of_ble_eq_true rfl) dX3_isInBounds_63 ?_
          refine x_if_eq (tgt := 73) C dX3_isInBounds_66 (by decide) (fun hc => ?_) (fun hc => ?_)
          · replace hF := f_t hc hF
            refine x_iconst (v := 0) C dX3_isInBounds_73 (by decide) ?_
            exact x_zret C dX3_isInBounds_74 (by decide) (Option.some.inj hF) rfl
          · replace hF := f_f hc hF
            refine x_iconst (v := 1) C dX3_isInBounds_69 (by decide) ?_
            refine x_goto (tgt := 74) C dX3_isInBounds_70 (by decide) ?_
            exact x_zret C dX3_isInBounds_74 (by decide) (Option.some.inj hF) rfl
      · replace hF := f_f hs8 hF
        refine x_lookup (tgt := 75) (off := 74) C dX3_isInBounds_1 (by decide) (sw_look_74 hs2 hs3 hs8) (by decide) ?_
        refine x_iload_n C 2 dX3_isInBounds_75 rfl rfl ?_
        refine x_iconst (v := 0) C dX3_isInBounds_76 (by decide) ?_
        refine x_bipush (v := 9) C dX3_isInBounds_77 (by decide) ?_
        refine x_cNi (rest := []) C (c_X7_within l C.2.2.2.2.2.2.2.2 x2 0 9 μ) cwN_X3_90 ⟨by decide, by decide⟩ rfl rfl (Nat.le_of_ble_eq_true rfl) dX3_isInBounds_79 ?_
        obtain ⟨hb3, hF⟩ := f_chk hF
        exact x_zret C dX3_isInBounds_82 hb3 (Option.some.inj hF) rfl
set_option maxHeartbeats 4000000 in
theorem c_X3_isInBounds {G : Gl} (l : Launch) (hA : Ap G) {r : Int32}  (x1 : Int32) (x2 : Int32) (μ : Mu) (hF : f_X3_isInBounds x1 x2 μ = some r) : Mth G l yX3_isInBounds cX3_isInBounds 3 (some .boolean) 1 22 [.ref (G.ad 71), .int x1, .int x2] (some (.int r)) μ μ := Mth.of hA (by decide) rfl (Nat.le_of_ble_eq_true rfl) (fun p e s0 m args below meth c C => w_X3_isInBounds C x1 x2 μ hF)
set_option maxHeartbeats 4000000 in
theorem w_X3_skipBlanks_L0 {G : Gl} {p : Program} {l : Launch} {e : Env} {s0 : State} {m : MethodId} {args : Array Value} {below : List Frame} {meth : Method} {c : Code} (C : Cx G p s0 m args meth c cX3_skipBlanks 1 RX3 none) {μf : Mu}  : ∀ (n : Nat) (μ : Mu), f_X3_skipBlanks_L0 n μ = some μf → X G p l e 0 0 s0 m args below meth c 1 none μf μ 0 [(0, .ref (G.ad 71))] [] := by
  intro n
  induction n with
  | zero =>
    intro μ hF
    rw [f_X3_skipBlanks_L0] at hF
    cases hF
  | succ n ih =>
    intro μ hF
    rw [f_X3_skipBlanks_L0] at hF
    refine x_aload_n C 0 dX3_skipBlanks_0 rfl rfl ?_
    refine x_getI C fc_X3 fl_X3_41 sh_71 (by decide) rfl dX3_skipBlanks_1 ?_
    refine x_aload_n C 0 dX3_skipBlanks_4 rfl rfl ?_
    refine x_getI C fc_X3 fl_X3_26 sh_71 (by decide) rfl dX3_skipBlanks_5 ?_
    refine x_icmp_ge (tgt := 38) C dX3_skipBlanks_8 (by decide) (fun hc => ?_) (fun hc => ?_)
    · replace hF := f_t hc hF
      exact x_vret C dX3_skipBlanks_38 (Option.some.inj hF)
    · replace hF := f_f hc hF
      refine x_aload_n C 0 dX3_skipBlanks_11 rfl rfl ?_
      refine x_getR C fc_X3 fl_X3_19 sh_71 (by decide) rfl dX3_skipBlanks_12 ?_
      refine x_aload_n C 0 dX3_skipBlanks_15 rfl rfl ?_
      refine x_getI C fc_X3 fl_X3_41 sh_71 (by decide) rfl dX3_skipBlanks_16 ?_
      obtain ⟨hi1, hF⟩ := f_chk hF
      refine x_iald C sh_73 hi1 dX3_skipBlanks_19 ?_
      refine x_bipush (v := 32) C dX3_skipBlanks_20 (by decide) ?_
      refine x_icmp_ne (tgt := 38) C dX3_skipBlanks_22 (by decide) (fun hc => ?_) (fun hc => ?_)
      · replace hF := f_f hc hF
        exact x_vret C dX3_skipBlanks_38 (Option.some.inj hF)
      · replace hF := f_t hc hF
        refine x_aload_n C 0 dX3_skipBlanks_25 rfl rfl ?_
        refine x_dup C dX3_skipBlanks_26 rfl ?_
        refine x_getI C fc_X3 fl_X3_41 sh_71 (by decide) rfl dX3_skipBlanks_27 ?_
        refine x_iconst (v := 1) C dX3_skipBlanks_30 (by decide) ?_
        refine x_iadd C dX3_skipBlanks_31 ?_
        refine x_putI C fc_X3 fl_X3_41 sh_71 (by decide) rfl rfl rfl ⟨rfl, rfl⟩ dX3_skipBlanks_32 ?_
        refine x_letM hF (fun μ2 hF => ?_)
        refine x_goto (tgt := 0) C dX3_skipBlanks_35 (by decide) ?_
        exact x_pick [(0, .ref (G.ad 71))] [0] rfl (ih μ2 hF)
set_option maxHeartbeats 4000000 in
theorem w_X3_skipBlanks {G : Gl} {p : Program} {l : Launch} {e : Env} {s0 : State} {m : MethodId} {args : Array Value} {below : List Frame} {meth : Method} {c : Code} (C : Cx G p s0 m args meth c cX3_skipBlanks 1 RX3 none) {μf : Mu}  (μ : Mu) (hF : f_X3_skipBlanks μ = some μf) : X G p l e 0 0 s0 m args below meth c 1 none μf μ 0 [(0, .ref (G.ad 71))] [] := by
  unfold f_X3_skipBlanks at hF
  exact x_pick [(0, .ref (G.ad 71))] [0] rfl (w_X3_skipBlanks_L0 C fu μ hF)
set_option maxHeartbeats 4000000 in
theorem c_X3_skipBlanks {G : Gl} (l : Launch) (hA : Ap G) {μf : Mu}  (μ : Mu) (hF : f_X3_skipBlanks μ = some μf) : Mth G l yX3_skipBlanks cX3_skipBlanks 1 none 0 0 [.ref (G.ad 71)] none μf μ := Mth.of hA (by decide) rfl (Nat.le_of_ble_eq_true rfl) (fun p e s0 m args below meth c C => w_X3_skipBlanks C μ hF)
set_option maxHeartbeats 4000000 in
theorem w_X3_wordEnd_L5 {G : Gl} {p : Program} {l : Launch} {e : Env} {s0 : State} {m : MethodId} {args : Array Value} {below : List Frame} {meth : Method} {c : Code} (C : Cx G p s0 m args meth c cX3_wordEnd 2 RX3 (some .int)) {r : Int32}  (μ : Mu) : ∀ (n : Nat) (x1 : Int32), f_X3_wordEnd_L5 μ n x1 = some r → X G p l e 0 0 s0 m args below meth c 2 (some (.int r)) μ μ 5 [(0, .ref (G.ad 71)), (1, .int x1)] [] := by
  intro n
  induction n with
  | zero =>
    intro x1 hF
    rw [f_X3_wordEnd_L5] at hF
    cases hF
  | succ n ih =>
    intro x1 hF
    rw [f_X3_wordEnd_L5] at hF
    refine x_iload_n C 1 dX3_wordEnd_5 rfl rfl ?_
    refine x_aload_n C 0 dX3_wordEnd_6 rfl rfl ?_
    refine x_getI C fc_X3 fl_X3_26 sh_71 (by decide) rfl dX3_wordEnd_7 ?_
    refine x_icmp_ge (tgt := 41) C dX3_wordEnd_10 (by decide) (fun hc => ?_) (fun hc => ?_)
    · replace hF := f_t hc hF
      refine x_iload_n C 1 dX3_wordEnd_41 rfl rfl ?_
      exact x_iret C dX3_wordEnd_42 (Option.some.inj hF) rfl
    · replace hF := f_f hc hF
      refine x_aload_n C 0 dX3_wordEnd_13 rfl rfl ?_
      refine x_getR C fc_X3 fl_X3_19 sh_71 (by decide) rfl dX3_wordEnd_14 ?_
      refine x_iload_n C 1 dX3_wordEnd_17 rfl rfl ?_
      obtain ⟨hi1, hF⟩ := f_chk hF
      refine x_iald C sh_73 hi1 dX3_wordEnd_18 ?_
      refine x_bipush (v := 97) C dX3_wordEnd_19 (by decide) ?_
      refine x_icmp_lt (tgt := 41) C dX3_wordEnd_21 (by decide) (fun hc => ?_) (fun hc => ?_)
      · replace hF := f_t hc hF
        refine x_iload_n C 1 dX3_wordEnd_41 rfl rfl ?_
        exact x_iret C dX3_wordEnd_42 (Option.some.inj hF) rfl
      · replace hF := f_f hc hF
        refine x_aload_n C 0 dX3_wordEnd_24 rfl rfl ?_
        refine x_getR C fc_X3 fl_X3_19 sh_71 (by decide) rfl dX3_wordEnd_25 ?_
        refine x_iload_n C 1 dX3_wordEnd_28 rfl rfl ?_
        refine x_iald C sh_73 hi1 dX3_wordEnd_29 ?_
        refine x_bipush (v := 122) C dX3_wordEnd_30 (by decide) ?_
        refine x_icmp_gt (tgt := 41) C dX3_wordEnd_32 (by decide) (fun hc => ?_) (fun hc => ?_)
        · replace hF := f_t hc hF
          refine x_iload_n C 1 dX3_wordEnd_41 rfl rfl ?_
          exact x_iret C dX3_wordEnd_42 (Option.some.inj hF) rfl
        · replace hF := f_f hc hF
          refine x_iinc C [(1, .int (x1 + 1)), (0, .ref (G.ad 71))] 1 dX3_wordEnd_35 rfl rfl (by decide) rfl ?_
          refine x_goto (tgt := 5) C dX3_wordEnd_38 (by decide) ?_
          exact x_pick [(0, .ref (G.ad 71)), (1, .int (x1 + 1))] [1, 0] rfl (ih (x1 + 1) hF)
set_option maxHeartbeats 4000000 in
theorem w_X3_wordEnd {G : Gl} {p : Program} {l : Launch} {e : Env} {s0 : State} {m : MethodId} {args : Array Value} {below : List Frame} {meth : Method} {c : Code} (C : Cx G p s0 m args meth c cX3_wordEnd 2 RX3 (some .int)) {r : Int32}  (μ : Mu) (hF : f_X3_wordEnd μ = some r) : X G p l e 0 0 s0 m args below meth c 2 (some (.int r)) μ μ 0 [(0, .ref (G.ad 71))] [] := by
  unfold f_X3_wordEnd at hF
  refine x_aload_n C 0 dX3_wordEnd_0 rfl rfl ?_
  refine x_getI C fc_X3 fl_X3_41 sh_71 (by decide) rfl dX3_wordEnd_1 ?_
  refine x_letI hF (fun y1 hF => ?_)
  refine x_istore_n C [(1, .int y1), (0, .ref (G.ad 71))] dX3_wordEnd_4 rfl (by decide) rfl ?_
  exact x_pick [(0, .ref (G.ad 71)), (1, .int y1)] [1, 0] rfl (w_X3_wordEnd_L5 C μ fu y1 hF)
set_option maxHeartbeats 4000000 in
theorem c_X3_wordEnd {G : Gl} (l : Launch) (hA : Ap G) {r : Int32}  (μ : Mu) (hF : f_X3_wordEnd μ = some r) : Mth G l yX3_wordEnd cX3_wordEnd 2 (some .int) 0 0 [.ref (G.ad 71)] (some (.int r)) μ μ := Mth.of hA (by decide) rfl (Nat.le_of_ble_eq_true rfl) (fun p e s0 m args below meth c C => w_X3_wordEnd C μ hF)
set_option maxHeartbeats 4000000 in
theorem w_X3_spells_L24 {G : Gl} {p : Program} {l : Launch} {e : Env} {s0 : State} {m : MethodId} {args : Array Value} {below : List Frame} {meth : Method} {c : Code} (C : Cx G p s0 m args meth c cX3_spells 4 RX3 (some .boolean)) {s : Nat} (hs : s < 20) {r : Int32}  (μ : Mu) : ∀ (n : Nat) (x3 : Int32), f_X3_spells_L24 s μ n x3 = some r → X G p l e 5 160 s0 m args below meth c 4 (some (.int r)) μ μ 24 [(0, .ref (G.ad 71)), (2, .ref (G.aK s)), (3, .int x3)] [] := by
  intro n
  induction n with
  | zero =>
    intro x3 hF
    rw [f_X3_spells_L24] at hF
    cases hF
  | succ n ih =>
    intro x3 hF
    rw [f_X3_spells_L24] at hF
    refine x_iload_n C 2 dX3_spells_24 rfl rfl ?_
    refine x_aload_n C 1 dX3_spells_25 rfl rfl ?_
    refine x_sLen C hs ⟨by decide, by decide, Nat.le_of_ble_eq_true rfl⟩ dX3_spells_26 ?_
    refine x_icmp_ge (tgt := 59) C dX3_spells_29 (by decide) (fun hc => ?_) (fun hc => ?_)
    · replace hF := f_t hc hF
      refine x_iconst (v := 1) C dX3_spells_59 (by decide) ?_
      exact x_zret C dX3_spells_60 (by decide) (Option.some.inj hF) rfl
    · replace hF := f_f hc hF
      refine x_aload_n C 0 dX3_spells_32 rfl rfl ?_
      refine x_getR C fc_X3 fl_X3_19 sh_71 (by decide) rfl dX3_spells_33 ?_
      refine x_aload_n C 0 dX3_spells_36 rfl rfl ?_
      refine x_getI C fc_X3 fl_X3_41 sh_71 (by decide) rfl dX3_spells_37 ?_
      refine x_iload_n C 2 dX3_spells_40 rfl rfl ?_
      refine x_iadd C dX3_spells_41 ?_
      obtain ⟨hi1, hF⟩ := f_chk hF
      refine x_iald C sh_73 hi1 dX3_spells_42 ?_
      refine x_aload_n C 1 dX3_spells_43 rfl rfl ?_
      refine x_iload_n C 2 dX3_spells_44 rfl rfl ?_
      obtain ⟨hi2, hF⟩ := f_chk hF
      refine x_sChr C hs hi2 ⟨by decide, by decide, Nat.le_of_ble_eq_true rfl⟩ dX3_spells_45 ?_
      refine x_icmp_eq (tgt := 53) C dX3_spells_48 (by decide) (fun hc => ?_) (fun hc => ?_)
      · replace hF := f_t hc hF
        refine x_iinc C [(3, .int (x3 + 1)), (0, .ref (G.ad 71)), (2, .ref (G.aK s))] 2 dX3_spells_53 rfl rfl (by decide) rfl ?_
        refine x_goto (tgt := 24) C dX3_spells_56 (by decide) ?_
        exact x_pick [(0, .ref (G.ad 71)), (2, .ref (G.aK s)), (3, .int (x3 + 1))] [1, 2, 0] rfl (ih (x3 + 1) hF)
      · replace hF := f_f hc hF
        refine x_iconst (v := 0) C dX3_spells_51 (by decide) ?_
        exact x_zret C dX3_spells_52 (by decide) (Option.some.inj hF) rfl
set_option maxHeartbeats 4000000 in
theorem w_X3_spells {G : Gl} {p : Program} {l : Launch} {e : Env} {s0 : State} {m : MethodId} {args : Array Value} {below : List Frame} {meth : Method} {c : Code} (C : Cx G p s0 m args meth c cX3_spells 4 RX3 (some .boolean)) {s : Nat} (hs : s < 20) {r : Int32}  (x1 : Int32) (μ : Mu) (hF : f_X3_spells s x1 μ = some r) : X G p l e 5 160 s0 m args below meth c 4 (some (.int r)) μ μ 0 [(0, .ref (G.ad 71)), (1, .int x1), (2, .ref (G.aK s))] [] := by
  unfold f_X3_spells at hF
  refine x_aload_n C 2 dX3_spells_0 rfl rfl ?_
  refine x_sEmp C hs ⟨by decide, by decide, Nat.le_of_ble_eq_true rfl⟩ dX3_spells_1 ?_
  refine x_if_ne (tgt := 20) C dX3_spells_4 (by decide) (fun hc => ?_) (fun hc => ?_)
  · replace hF := f_f hc hF
    refine x_iconst (v := 0) C dX3_spells_20 (by decide) ?_
    exact x_zret C dX3_spells_21 (by decide) (Option.some.inj hF) rfl
  · replace hF := f_t hc hF
    refine x_iload_n C 1 dX3_spells_7 rfl rfl ?_
    refine x_aload_n C 0 dX3_spells_8 rfl rfl ?_
    refine x_getI C fc_X3 fl_X3_41 sh_71 (by decide) rfl dX3_spells_9 ?_
    refine x_isub C dX3_spells_12 ?_
    refine x_aload_n C 2 dX3_spells_13 rfl rfl ?_
    refine x_sLen C hs ⟨by decide, by decide, Nat.le_of_ble_eq_true rfl⟩ dX3_spells_14 ?_
    refine x_icmp_eq (tgt := 22) C dX3_spells_17 (by decide) (fun hc => ?_) (fun hc => ?_)
    · replace hF := f_t hc hF
      refine x_iconst (v := 0) C dX3_spells_22 (by decide) ?_
      refine x_istore_n C [(3, .int 0), (0, .ref (G.ad 71)), (1, .int x1), (2, .ref (G.aK s))] dX3_spells_23 rfl (by decide) rfl ?_
      exact x_pick [(0, .ref (G.ad 71)), (2, .ref (G.aK s)), (3, .int 0)] [1, 3, 0] rfl (w_X3_spells_L24 C hs μ fu 0 hF)
    · replace hF := f_f hc hF
      refine x_iconst (v := 0) C dX3_spells_20 (by decide) ?_
      exact x_zret C dX3_spells_21 (by decide) (Option.some.inj hF) rfl
set_option maxHeartbeats 4000000 in
theorem c_X3_spells {G : Gl} (l : Launch) (hA : Ap G) {s : Nat} (hs : s < 20) {r : Int32}  (x1 : Int32) (μ : Mu) (hF : f_X3_spells s x1 μ = some r) : Mth G l yX3_spells cX3_spells 4 (some .boolean) 5 160 [.ref (G.ad 71), .int x1, .ref (G.aK s)] (some (.int r)) μ μ := Mth.of hA (by decide) rfl (Nat.le_of_ble_eq_true rfl) (fun p e s0 m args below meth c C => w_X3_spells C hs x1 μ hF)
set_option maxHeartbeats 4000000 in
theorem w_X3_readChoice_L11 {G : Gl} {p : Program} {l : Launch} {e : Env} {s0 : State} {m : MethodId} {args : Array Value} {below : List Frame} {meth : Method} {c : Code} (C : Cx G p s0 m args meth c cX3_readChoice 4 RX3 (some .boolean)) {r : Int32} {μf : Mu}  : ∀ (n : Nat) (x1 : Int32) (x2 : Int32) (x3 : Int32) (μ : Mu), f_X3_readChoice_L11 n x1 x2 x3 μ = some (r, μf) → X G p l e 6 183 s0 m args below meth c 4 (some (.int r)) μf μ 11 [(0, .ref (G.ad 71)), (1, .int x1), (2, .int x2), (3, .int x3)] [] := by
  intro n
  induction n with
  | zero =>
    intro x1 x2 x3 μ hF
    rw [f_X3_readChoice_L11] at hF
    cases hF
  | succ n ih =>
    intro x1 x2 x3 μ hF
    rw [f_X3_readChoice_L11] at hF
    refine x_iload_n C 3 dX3_readChoice_11 rfl rfl ?_
    refine x_iconst (v := 3) C dX3_readChoice_12 (by decide) ?_
    refine x_icmp_ge (tgt := 49) C dX3_readChoice_13 (by decide) (fun hc => ?_) (fun hc => ?_)
    · replace hF := f_t hc hF
      refine x_aload_n C 0 dX3_readChoice_49 rfl rfl ?_
      refine x_iconst (v := 1) C dX3_readChoice_50 (by decide) ?_
      refine x_aload_n C 0 dX3_readChoice_51 rfl rfl ?_
      refine x_getI C fc_X3 fl_X3_41 sh_71 (by decide) rfl dX3_readChoice_52 ?_
      obtain ⟨q1, hq1, hF⟩ := f_bind hF
      refine x_cVi (rest := []) C (c_X3_blame l C.2.2.2.2.2.2.2.2 1 (μ 71 6) μ hq1) cw_X3_55 sh_71 rfl rfl ⟨by decide, by decide⟩ rfl rfl (Nat.le_of_ble_eq_true rfl) dX3_readChoice_55 ?_
      obtain ⟨hb2, hF⟩ := f_chk hF
      exact x_zret C dX3_readChoice_58 hb2 (Prod.mk.inj (Option.some.inj hF)).1 (Prod.mk.inj (Option.some.inj hF)).2
    · replace hF := f_f hc hF
      refine x_aload_n C 0 dX3_readChoice_16 rfl rfl ?_
      refine x_iload_n C 2 dX3_readChoice_17 rfl rfl ?_
      refine x_iload_n C 1 dX3_readChoice_18 rfl rfl ?_
      refine x_iload_n C 3 dX3_readChoice_19 rfl rfl ?_
      refine x_cSr (rest := [.int x2, .ref (G.ad 71)]) C (c_X3_choiceOf l C.2.2.2.2.2.2.2.2 x1 x3 μ) cw_X3_83 ⟨by decide, by decide⟩ rfl rfl (Nat.le_of_ble_eq_true rfl) dX3_readChoice_20 ?_
      obtain ⟨hs3, hF⟩ := f_chk hF
      obtain ⟨q4, hq4, hF⟩ := f_bind hF
      refine x_cVi (rest := []) C (c_X3_spells l C.2.2.2.2.2.2.2.2 (of_decide_eq_true hs3) x2 μ hq4) cw_X3_79 sh_71 rfl rfl ⟨by decide, by decide⟩ rfl rfl (Nat.le_of_ble_eq_true rfl) dX3_readChoice_23 ?_
      refine x_if_eq (tgt := 43) C dX3_readChoice_26 (by decide) (fun hc => ?_) (fun hc => ?_)
      · replace hF := f_t hc hF
        refine x_iinc C [(3, .int (x3 + 1)), (0, .ref (G.ad 71)), (1, .int x1), (2, .int x2)] 3 dX3_readChoice_43 rfl rfl (by decide) rfl ?_
        refine x_goto (tgt := 11) C dX3_readChoice_46 (by decide) ?_
        exact x_pick [(0, .ref (G.ad 71)), (1, .int x1), (2, .int x2), (3, .int (x3 + 1))] [1, 2, 3, 0] rfl (ih x1 x2 (x3 + 1) μ hF)
      · replace hF := f_f hc hF
        refine x_aload_n C 0 dX3_readChoice_29 rfl rfl ?_
        refine x_getR C fc_X3 fl_X3_9 sh_71 (by decide) rfl dX3_readChoice_30 ?_
        refine x_iload_n C 1 dX3_readChoice_33 rfl rfl ?_
        refine x_iload_n C 3 dX3_readChoice_34 rfl rfl ?_
        obtain ⟨hi5, hF⟩ := f_chk hF
        refine x_iast C sh_72 hi5 dX3_readChoice_35 ?_
        refine x_letM hF (fun μ6 hF => ?_)
        refine x_aload_n C 0 dX3_readChoice_36 rfl rfl ?_
        refine x_iload_n C 2 dX3_readChoice_37 rfl rfl ?_
        refine x_putI C fc_X3 fl_X3_41 sh_71 (by decide) rfl rfl rfl ⟨rfl, rfl⟩ dX3_readChoice_38 ?_
        refine x_letM hF (fun μ7 hF => ?_)
        refine x_iconst (v := 1) C dX3_readChoice_41 (by decide) ?_
        exact x_zret C dX3_readChoice_42 (by decide) (Prod.mk.inj (Option.some.inj hF)).1 (Prod.mk.inj (Option.some.inj hF)).2
set_option maxHeartbeats 4000000 in
theorem w_X3_readChoice {G : Gl} {p : Program} {l : Launch} {e : Env} {s0 : State} {m : MethodId} {args : Array Value} {below : List Frame} {meth : Method} {c : Code} (C : Cx G p s0 m args meth c cX3_readChoice 4 RX3 (some .boolean)) {r : Int32} {μf : Mu}  (x1 : Int32) (μ : Mu) (hF : f_X3_readChoice x1 μ = some (r, μf)) : X G p l e 6 183 s0 m args below meth c 4 (some (.int r)) μf μ 0 [(0, .ref (G.ad 71)), (1, .int x1)] [] := by
  unfold f_X3_readChoice at hF
  refine x_aload_n C 0 dX3_readChoice_0 rfl rfl ?_
  obtain ⟨q1, hq1, hF⟩ := f_bind hF
  refine x_cVv (rest := []) C (c_X3_skipBlanks l C.2.2.2.2.2.2.2.2 μ hq1) cw_X3_44 sh_71 rfl rfl ⟨by decide, by decide⟩ rfl rfl (Nat.le_of_ble_eq_true rfl) dX3_readChoice_1 ?_
  refine x_aload_n C 0 dX3_readChoice_4 rfl rfl ?_
  obtain ⟨q2, hq2, hF⟩ := f_bind hF
  refine x_cVi (rest := []) C (c_X3_wordEnd l C.2.2.2.2.2.2.2.2 q1 hq2) cw_X3_72 sh_71 rfl rfl ⟨by decide, by decide⟩ rfl rfl (Nat.le_of_ble_eq_true rfl) dX3_readChoice_5 ?_
  refine x_istore_n C [(2, .int q2), (0, .ref (G.ad 71)), (1, .int x1)] dX3_readChoice_8 rfl (by decide) rfl ?_
  refine x_iconst (v := 0) C dX3_readChoice_9 (by decide) ?_
  refine x_istore_n C [(3, .int 0), (2, .int q2), (0, .ref (G.ad 71)), (1, .int x1)] dX3_readChoice_10 rfl (by decide) rfl ?_
  exact x_pick [(0, .ref (G.ad 71)), (1, .int x1), (2, .int q2), (3, .int 0)] [2, 3, 1, 0] rfl (w_X3_readChoice_L11 C fu x1 q2 0 q1 hF)
set_option maxHeartbeats 4000000 in
theorem c_X3_readChoice {G : Gl} (l : Launch) (hA : Ap G) {r : Int32} {μf : Mu}  (x1 : Int32) (μ : Mu) (hF : f_X3_readChoice x1 μ = some (r, μf)) : Mth G l yX3_readChoice cX3_readChoice 4 (some .boolean) 6 183 [.ref (G.ad 71), .int x1] (some (.int r)) μf μ := Mth.of hA (by decide) rfl (Nat.le_of_ble_eq_true rfl) (fun p e s0 m args below meth c C => w_X3_readChoice C x1 μ hF)
set_option maxHeartbeats 4000000 in
theorem w_X3_readHead_L7 {G : Gl} {p : Program} {l : Launch} {e : Env} {s0 : State} {m : MethodId} {args : Array Value} {below : List Frame} {meth : Method} {c : Code} (C : Cx G p s0 m args meth c cX3_readHead 3 RX3 (some .int)) {r : Int32} {μf : Mu}  : ∀ (n : Nat) (x1 : Int32) (x2 : Int32) (μ : Mu), f_X3_readHead_L7 n x1 x2 μ = some (r, μf) → X G p l e 6 183 s0 m args below meth c 3 (some (.int r)) μf μ 7 [(0, .ref (G.ad 71)), (1, .int x1), (2, .int x2)] [] := by
  intro n
  induction n with
  | zero =>
    intro x1 x2 μ hF
    rw [f_X3_readHead_L7] at hF
    cases hF
  | succ n ih =>
    intro x1 x2 μ hF
    rw [f_X3_readHead_L7] at hF
    refine x_iload_n C 2 dX3_readHead_7 rfl rfl ?_
    refine x_bipush (v := 10) C dX3_readHead_8 (by decide) ?_
    refine x_icmp_ge (tgt := 43) C dX3_readHead_10 (by decide) (fun hc => ?_) (fun hc => ?_)
    · replace hF := f_t hc hF
      refine x_iconst (v := (-1)) C dX3_readHead_43 (by decide) ?_
      exact x_iret C dX3_readHead_44 (Prod.mk.inj (Option.some.inj hF)).1 (Prod.mk.inj (Option.some.inj hF)).2
    · replace hF := f_f hc hF
      refine x_iload_n C 2 dX3_readHead_13 rfl rfl ?_
      refine x_iconst (v := 3) C dX3_readHead_14 (by decide) ?_
      refine x_icmp_eq (tgt := 37) C dX3_readHead_15 (by decide) (fun hc => ?_) (fun hc => ?_)
      · replace hF := f_t hc hF
        refine x_iinc C [(2, .int (x2 + 1)), (0, .ref (G.ad 71)), (1, .int x1)] 2 dX3_readHead_37 rfl rfl (by decide) rfl ?_
        refine x_goto (tgt := 7) C dX3_readHead_40 (by decide) ?_
        exact x_pick [(0, .ref (G.ad 71)), (1, .int x1), (2, .int (x2 + 1))] [1, 2, 0] rfl (ih x1 (x2 + 1) μ hF)
      · replace hF := f_f hc hF
        refine x_aload_n C 0 dX3_readHead_18 rfl rfl ?_
        refine x_iload_n C 1 dX3_readHead_19 rfl rfl ?_
        refine x_iload_n C 2 dX3_readHead_20 rfl rfl ?_
        refine x_cSr (rest := [.int x1, .ref (G.ad 71)]) C (c_X3_headOf l C.2.2.2.2.2.2.2.2 x2 μ) cw_X3_75 ⟨by decide, by decide⟩ rfl rfl (Nat.le_of_ble_eq_true rfl) dX3_readHead_21 ?_
        obtain ⟨hs1, hF⟩ := f_chk hF
        obtain ⟨q2, hq2, hF⟩ := f_bind hF
        refine x_cVi (rest := []) C (c_X3_spells l C.2.2.2.2.2.2.2.2 (of_decide_eq_true hs1) x1 μ hq2) cw_X3_79 sh_71 rfl rfl ⟨by decide, by decide⟩ rfl rfl (Nat.le_of_ble_eq_true rfl) dX3_readHead_24 ?_
        refine x_if_eq (tgt := 37) C dX3_readHead_27 (by decide) (fun hc => ?_) (fun hc => ?_)
        · replace hF := f_t hc hF
          refine x_iinc C [(2, .int (x2 + 1)), (0, .ref (G.ad 71)), (1, .int x1)] 2 dX3_readHead_37 rfl rfl (by decide) rfl ?_
          refine x_goto (tgt := 7) C dX3_readHead_40 (by decide) ?_
          exact x_pick [(0, .ref (G.ad 71)), (1, .int x1), (2, .int (x2 + 1))] [1, 2, 0] rfl (ih x1 (x2 + 1) μ hF)
        · replace hF := f_f hc hF
          refine x_aload_n C 0 dX3_readHead_30 rfl rfl ?_
          refine x_iload_n C 1 dX3_readHead_31 rfl rfl ?_
          refine x_putI C fc_X3 fl_X3_41 sh_71 (by decide) rfl rfl rfl ⟨rfl, rfl⟩ dX3_readHead_32 ?_
          refine x_letM hF (fun μ3 hF => ?_)
          refine x_iload_n C 2 dX3_readHead_35 rfl rfl ?_
          exact x_iret C dX3_readHead_36 (Prod.mk.inj (Option.some.inj hF)).1 (Prod.mk.inj (Option.some.inj hF)).2
set_option maxHeartbeats 4000000 in
theorem w_X3_readHead {G : Gl} {p : Program} {l : Launch} {e : Env} {s0 : State} {m : MethodId} {args : Array Value} {below : List Frame} {meth : Method} {c : Code} (C : Cx G p s0 m args meth c cX3_readHead 3 RX3 (some .int)) {r : Int32} {μf : Mu}  (μ : Mu) (hF : f_X3_readHead μ = some (r, μf)) : X G p l e 6 183 s0 m args below meth c 3 (some (.int r)) μf μ 0 [(0, .ref (G.ad 71))] [] := by
  unfold f_X3_readHead at hF
  refine x_aload_n C 0 dX3_readHead_0 rfl rfl ?_
  obtain ⟨q1, hq1, hF⟩ := f_bind hF
  refine x_cVi (rest := []) C (c_X3_wordEnd l C.2.2.2.2.2.2.2.2 μ hq1) cw_X3_72 sh_71 rfl rfl ⟨by decide, by decide⟩ rfl rfl (Nat.le_of_ble_eq_true rfl) dX3_readHead_1 ?_
  refine x_istore_n C [(1, .int q1), (0, .ref (G.ad 71))] dX3_readHead_4 rfl (by decide) rfl ?_
  refine x_iconst (v := 0) C dX3_readHead_5 (by decide) ?_
  refine x_istore_n C [(2, .int 0), (1, .int q1), (0, .ref (G.ad 71))] dX3_readHead_6 rfl (by decide) rfl ?_
  exact x_pick [(0, .ref (G.ad 71)), (1, .int q1), (2, .int 0)] [2, 1, 0] rfl (w_X3_readHead_L7 C fu q1 0 μ hF)
set_option maxHeartbeats 4000000 in
theorem c_X3_readHead {G : Gl} (l : Launch) (hA : Ap G) {r : Int32} {μf : Mu}  (μ : Mu) (hF : f_X3_readHead μ = some (r, μf)) : Mth G l yX3_readHead cX3_readHead 3 (some .int) 6 183 [.ref (G.ad 71)] (some (.int r)) μf μ := Mth.of hA (by decide) rfl (Nat.le_of_ble_eq_true rfl) (fun p e s0 m args below meth c C => w_X3_readHead C μ hF)
set_option maxHeartbeats 4000000 in
theorem w_X3_readNumber_b76 {G : Gl} {p : Program} {l : Launch} {e : Env} {s0 : State} {m : MethodId} {args : Array Value} {below : List Frame} {meth : Method} {c : Code} (C : Cx G p s0 m args meth c cX3_readNumber 4 RX3 (some .boolean)) {r : Int32} {μf : Mu}  (x1 : Int32) (x2 : Int32) (x3 : Int32) (μ : Mu) (hF : f_X3_readNumber_b76 x1 x2 x3 μ = some (r, μf)) : X G p l e 2 44 s0 m args below meth c 4 (some (.int r)) μf μ 76 [(0, .ref (G.ad 71)), (1, .int x1), (2, .int x2), (3, .int x3)] [] := by
  unfold f_X3_readNumber_b76 at hF
  refine x_iload_n C 2 dX3_readNumber_76 rfl rfl ?_
  refine x_aload_n C 0 dX3_readNumber_77 rfl rfl ?_
  refine x_getI C fc_X3 fl_X3_41 sh_71 (by decide) rfl dX3_readNumber_78 ?_
  refine x_icmp_ne (tgt := 94) C dX3_readNumber_81 (by decide) (fun hc => ?_) (fun hc => ?_)
  · replace hF := f_f hc hF
    refine x_iload_n C 2 dX3_readNumber_94 rfl rfl ?_
    refine x_aload_n C 0 dX3_readNumber_95 rfl rfl ?_
    refine x_getI C fc_X3 fl_X3_41 sh_71 (by decide) rfl dX3_readNumber_96 ?_
    refine x_isub C dX3_readNumber_99 ?_
    refine x_iconst (v := 2) C dX3_readNumber_100 (by decide) ?_
    refine x_icmp_gt (tgt := 113) C dX3_readNumber_101 (by decide) (fun hc => ?_) (fun hc => ?_)
    · replace hF := f_t hc hF
      refine x_aload_n C 0 dX3_readNumber_113 rfl rfl ?_
      refine x_iconst (v := 2) C dX3_readNumber_114 (by decide) ?_
      refine x_aload_n C 0 dX3_readNumber_115 rfl rfl ?_
      refine x_getI C fc_X3 fl_X3_41 sh_71 (by decide) rfl dX3_readNumber_116 ?_
      obtain ⟨q1, hq1, hF⟩ := f_bind hF
      refine x_cVi (rest := []) C (c_X3_blame l C.2.2.2.2.2.2.2.2 2 (μ 71 6) μ hq1) cw_X3_55 sh_71 rfl rfl ⟨by decide, by decide⟩ rfl rfl (Nat.le_of_ble_eq_true rfl) dX3_readNumber_119 ?_
      obtain ⟨hb2, hF⟩ := f_chk hF
      exact x_zret C dX3_readNumber_122 hb2 (Prod.mk.inj (Option.some.inj hF)).1 (Prod.mk.inj (Option.some.inj hF)).2
    · replace hF := f_f hc hF
      refine x_aload_n C 0 dX3_readNumber_104 rfl rfl ?_
      refine x_iload_n C 1 dX3_readNumber_105 rfl rfl ?_
      refine x_iload_n C 3 dX3_readNumber_106 rfl rfl ?_
      obtain ⟨q3, hq3, hF⟩ := f_bind hF
      refine x_cVi (rest := []) C (c_X3_isInBounds l C.2.2.2.2.2.2.2.2 x1 x3 μ hq3) cw_X3_87 sh_71 rfl rfl ⟨by decide, by decide⟩ rfl rfl (Nat.le_of_ble_eq_true rfl) dX3_readNumber_107 ?_
      refine x_if_ne (tgt := 123) C dX3_readNumber_110 (by decide) (fun hc => ?_) (fun hc => ?_)
      · replace hF := f_f hc hF
        refine x_aload_n C 0 dX3_readNumber_123 rfl rfl ?_
        refine x_getR C fc_X3 fl_X3_9 sh_71 (by decide) rfl dX3_readNumber_124 ?_
        refine x_iload_n C 1 dX3_readNumber_127 rfl rfl ?_
        refine x_iload_n C 3 dX3_readNumber_128 rfl rfl ?_
        obtain ⟨hi4, hF⟩ := f_chk hF
        refine x_iast C sh_72 hi4 dX3_readNumber_129 ?_
        refine x_letM hF (fun μ5 hF => ?_)
        refine x_aload_n C 0 dX3_readNumber_130 rfl rfl ?_
        refine x_iload_n C 2 dX3_readNumber_131 rfl rfl ?_
        refine x_putI C fc_X3 fl_X3_41 sh_71 (by decide) rfl rfl rfl ⟨rfl, rfl⟩ dX3_readNumber_132 ?_
        refine x_letM hF (fun μ6 hF => ?_)
        refine x_iconst (v := 1) C dX3_readNumber_135 (by decide) ?_
        exact x_zret C dX3_readNumber_136 (by decide) (Prod.mk.inj (Option.some.inj hF)).1 (Prod.mk.inj (Option.some.inj hF)).2
      · replace hF := f_t hc hF
        refine x_aload_n C 0 dX3_readNumber_113 rfl rfl ?_
        refine x_iconst (v := 2) C dX3_readNumber_114 (by decide) ?_
        refine x_aload_n C 0 dX3_readNumber_115 rfl rfl ?_
        refine x_getI C fc_X3 fl_X3_41 sh_71 (by decide) rfl dX3_readNumber_116 ?_
        obtain ⟨q7, hq7, hF⟩ := f_bind hF
        refine x_cVi (rest := []) C (c_X3_blame l C.2.2.2.2.2.2.2.2 2 (μ 71 6) μ hq7) cw_X3_55 sh_71 rfl rfl ⟨by decide, by decide⟩ rfl rfl (Nat.le_of_ble_eq_true rfl) dX3_readNumber_119 ?_
        obtain ⟨hb8, hF⟩ := f_chk hF
        exact x_zret C dX3_readNumber_122 hb8 (Prod.mk.inj (Option.some.inj hF)).1 (Prod.mk.inj (Option.some.inj hF)).2
  · replace hF := f_t hc hF
    refine x_aload_n C 0 dX3_readNumber_84 rfl rfl ?_
    refine x_iconst (v := 1) C dX3_readNumber_85 (by decide) ?_
    refine x_aload_n C 0 dX3_readNumber_86 rfl rfl ?_
    refine x_getI C fc_X3 fl_X3_41 sh_71 (by decide) rfl dX3_readNumber_87 ?_
    obtain ⟨q9, hq9, hF⟩ := f_bind hF
    refine x_cVi (rest := []) C (c_X3_blame l C.2.2.2.2.2.2.2.2 1 (μ 71 6) μ hq9) cw_X3_55 sh_71 rfl rfl ⟨by decide, by decide⟩ rfl rfl (Nat.le_of_ble_eq_true rfl) dX3_readNumber_90 ?_
    obtain ⟨hb10, hF⟩ := f_chk hF
    exact x_zret C dX3_readNumber_93 hb10 (Prod.mk.inj (Option.some.inj hF)).1 (Prod.mk.inj (Option.some.inj hF)).2
set_option maxHeartbeats 4000000 in
theorem w_X3_readNumber_L11 {G : Gl} {p : Program} {l : Launch} {e : Env} {s0 : State} {m : MethodId} {args : Array Value} {below : List Frame} {meth : Method} {c : Code} (C : Cx G p s0 m args meth c cX3_readNumber 4 RX3 (some .boolean)) {r : Int32} {μf : Mu}  : ∀ (n : Nat) (x1 : Int32) (x2 : Int32) (x3 : Int32) (μ : Mu), f_X3_readNumber_L11 n x1 x2 x3 μ = some (r, μf) → X G p l e 2 44 s0 m args below meth c 4 (some (.int r)) μf μ 11 [(0, .ref (G.ad 71)), (1, .int x1), (2, .int x2), (3, .int x3)] [] := by
  intro n
  induction n with
  | zero =>
    intro x1 x2 x3 μ hF
    rw [f_X3_readNumber_L11] at hF
    cases hF
  | succ n ih =>
    intro x1 x2 x3 μ hF
    rw [f_X3_readNumber_L11] at hF
    refine x_iload_n C 2 dX3_readNumber_11 rfl rfl ?_
    refine x_aload_n C 0 dX3_readNumber_12 rfl rfl ?_
    refine x_getI C fc_X3 fl_X3_26 sh_71 (by decide) rfl dX3_readNumber_13 ?_
    refine x_icmp_ge (tgt := 76) C dX3_readNumber_16 (by decide) (fun hc => ?_) (fun hc => ?_)
    · replace hF := f_t hc hF
      exact x_pick [(0, .ref (G.ad 71)), (1, .int x1), (2, .int x2), (3, .int x3)] [0, 1, 2, 3] rfl (w_X3_readNumber_b76 C x1 x2 x3 μ hF)
    · replace hF := f_f hc hF
      refine x_aload_n C 0 dX3_readNumber_19 rfl rfl ?_
      refine x_getR C fc_X3 fl_X3_19 sh_71 (by decide) rfl dX3_readNumber_20 ?_
      refine x_iload_n C 2 dX3_readNumber_23 rfl rfl ?_
      obtain ⟨hi1, hF⟩ := f_chk hF
      refine x_iald C sh_73 hi1 dX3_readNumber_24 ?_
      refine x_bipush (v := 48) C dX3_readNumber_25 (by decide) ?_
      refine x_icmp_lt (tgt := 76) C dX3_readNumber_27 (by decide) (fun hc => ?_) (fun hc => ?_)
      · replace hF := f_t hc hF
        exact x_pick [(0, .ref (G.ad 71)), (1, .int x1), (2, .int x2), (3, .int x3)] [0, 1, 2, 3] rfl (w_X3_readNumber_b76 C x1 x2 x3 μ hF)
      · replace hF := f_f hc hF
        refine x_aload_n C 0 dX3_readNumber_30 rfl rfl ?_
        refine x_getR C fc_X3 fl_X3_19 sh_71 (by decide) rfl dX3_readNumber_31 ?_
        refine x_iload_n C 2 dX3_readNumber_34 rfl rfl ?_
        refine x_iald C sh_73 hi1 dX3_readNumber_35 ?_
        refine x_bipush (v := 57) C dX3_readNumber_36 (by decide) ?_
        refine x_icmp_gt (tgt := 76) C dX3_readNumber_38 (by decide) (fun hc => ?_) (fun hc => ?_)
        · replace hF := f_t hc hF
          exact x_pick [(0, .ref (G.ad 71)), (1, .int x1), (2, .int x2), (3, .int x3)] [0, 1, 2, 3] rfl (w_X3_readNumber_b76 C x1 x2 x3 μ hF)
        · replace hF := f_f hc hF
          refine x_iload_n C 2 dX3_readNumber_41 rfl rfl ?_
          refine x_aload_n C 0 dX3_readNumber_42 rfl rfl ?_
          refine x_getI C fc_X3 fl_X3_41 sh_71 (by decide) rfl dX3_readNumber_43 ?_
          refine x_isub C dX3_readNumber_46 ?_
          refine x_iconst (v := 2) C dX3_readNumber_47 (by decide) ?_
          refine x_icmp_ge (tgt := 68) C dX3_readNumber_48 (by decide) (fun hc => ?_) (fun hc => ?_)
          · replace hF := f_t hc hF
            refine x_iload_n C 3 dX3_readNumber_68 rfl rfl ?_
            refine x_istore_n C [(3, .int x3), (0, .ref (G.ad 71)), (1, .int x1), (2, .int x2)] dX3_readNumber_69 rfl (by decide) rfl ?_
            refine x_iinc C [(2, .int (x2 + 1)), (3, .int x3), (0, .ref (G.ad 71)), (1, .int x1)] 3 dX3_readNumber_70 rfl rfl (by decide) rfl ?_
            refine x_goto (tgt := 11) C dX3_readNumber_73 (by decide) ?_
            exact x_pick [(0, .ref (G.ad 71)), (1, .int x1), (2, .int (x2 + 1)), (3, .int x3)] [2, 3, 0, 1] rfl (ih x1 (x2 + 1) x3 μ hF)
          · replace hF := f_f hc hF
            refine x_iload_n C 3 dX3_readNumber_51 rfl rfl ?_
            refine x_bipush (v := 10) C dX3_readNumber_52 (by decide) ?_
            refine x_imul C dX3_readNumber_54 ?_
            refine x_aload_n C 0 dX3_readNumber_55 rfl rfl ?_
            refine x_getR C fc_X3 fl_X3_19 sh_71 (by decide) rfl dX3_readNumber_56 ?_
            refine x_iload_n C 2 dX3_readNumber_59 rfl rfl ?_
            refine x_iald C sh_73 hi1 dX3_readNumber_60 ?_
            refine x_iadd C dX3_readNumber_61 ?_
            refine x_bipush (v := 48) C dX3_readNumber_62 (by decide) ?_
            refine x_isub C dX3_readNumber_64 ?_
            refine x_goto (tgt := 69) C dX3_readNumber_65 (by decide) ?_
            refine x_letI hF (fun y2 hF => ?_)
            refine x_istore_n C [(3, .int y2), (0, .ref (G.ad 71)), (1, .int x1), (2, .int x2)] dX3_readNumber_69 rfl (by decide) rfl ?_
            refine x_iinc C [(2, .int (x2 + 1)), (3, .int y2), (0, .ref (G.ad 71)), (1, .int x1)] 3 dX3_readNumber_70 rfl rfl (by decide) rfl ?_
            refine x_goto (tgt := 11) C dX3_readNumber_73 (by decide) ?_
            exact x_pick [(0, .ref (G.ad 71)), (1, .int x1), (2, .int (x2 + 1)), (3, .int y2)] [2, 3, 0, 1] rfl (ih x1 (x2 + 1) y2 μ hF)
set_option maxHeartbeats 4000000 in
theorem w_X3_readNumber {G : Gl} {p : Program} {l : Launch} {e : Env} {s0 : State} {m : MethodId} {args : Array Value} {below : List Frame} {meth : Method} {c : Code} (C : Cx G p s0 m args meth c cX3_readNumber 4 RX3 (some .boolean)) {r : Int32} {μf : Mu}  (x1 : Int32) (μ : Mu) (hF : f_X3_readNumber x1 μ = some (r, μf)) : X G p l e 2 44 s0 m args below meth c 4 (some (.int r)) μf μ 0 [(0, .ref (G.ad 71)), (1, .int x1)] [] := by
  unfold f_X3_readNumber at hF
  refine x_aload_n C 0 dX3_readNumber_0 rfl rfl ?_
  obtain ⟨q1, hq1, hF⟩ := f_bind hF
  refine x_cVv (rest := []) C (c_X3_skipBlanks l C.2.2.2.2.2.2.2.2 μ hq1) cw_X3_44 sh_71 rfl rfl ⟨by decide, by decide⟩ rfl rfl (Nat.le_of_ble_eq_true rfl) dX3_readNumber_1 ?_
  refine x_aload_n C 0 dX3_readNumber_4 rfl rfl ?_
  refine x_getI C fc_X3 fl_X3_41 sh_71 (by decide) rfl dX3_readNumber_5 ?_
  refine x_letI hF (fun y2 hF => ?_)
  refine x_istore_n C [(2, .int y2), (0, .ref (G.ad 71)), (1, .int x1)] dX3_readNumber_8 rfl (by decide) rfl ?_
  refine x_iconst (v := 0) C dX3_readNumber_9 (by decide) ?_
  refine x_istore_n C [(3, .int 0), (2, .int y2), (0, .ref (G.ad 71)), (1, .int x1)] dX3_readNumber_10 rfl (by decide) rfl ?_
  exact x_pick [(0, .ref (G.ad 71)), (1, .int x1), (2, .int y2), (3, .int 0)] [2, 3, 1, 0] rfl (w_X3_readNumber_L11 C fu x1 y2 0 q1 hF)
set_option maxHeartbeats 4000000 in
theorem c_X3_readNumber {G : Gl} (l : Launch) (hA : Ap G) {r : Int32} {μf : Mu}  (x1 : Int32) (μ : Mu) (hF : f_X3_readNumber x1 μ = some (r, μf)) : Mth G l yX3_readNumber cX3_readNumber 4 (some .boolean) 2 44 [.ref (G.ad 71), .int x1] (some (.int r)) μf μ := Mth.of hA (by decide) rfl (Nat.le_of_ble_eq_true rfl) (fun p e s0 m args below meth c C => w_X3_readNumber C x1 μ hF)
set_option maxHeartbeats 4000000 in
theorem w_X3_readShow {G : Gl} {p : Program} {l : Launch} {e : Env} {s0 : State} {m : MethodId} {args : Array Value} {below : List Frame} {meth : Method} {c : Code} (C : Cx G p s0 m args meth c cX3_readShow 2 RX3 (some .boolean)) {r : Int32} {μf : Mu}  (μ : Mu) (hF : f_X3_readShow μ = some (r, μf)) : X G p l e 6 183 s0 m args below meth c 2 (some (.int r)) μf μ 0 [(0, .ref (G.ad 71))] [] := by
  unfold f_X3_readShow at hF
  refine x_aload_n C 0 dX3_readShow_0 rfl rfl ?_
  obtain ⟨q1, hq1, hF⟩ := f_bind hF
  refine x_cVv (rest := []) C (c_X3_skipBlanks l C.2.2.2.2.2.2.2.2 μ hq1) cw_X3_44 sh_71 rfl rfl ⟨by decide, by decide⟩ rfl rfl (Nat.le_of_ble_eq_true rfl) dX3_readShow_1 ?_
  refine x_aload_n C 0 dX3_readShow_4 rfl rfl ?_
  obtain ⟨q2, hq2, hF⟩ := f_bind hF
  refine x_cVi (rest := []) C (c_X3_wordEnd l C.2.2.2.2.2.2.2.2 q1 hq2) cw_X3_72 sh_71 rfl rfl ⟨by decide, by decide⟩ rfl rfl (Nat.le_of_ble_eq_true rfl) dX3_readShow_5 ?_
  refine x_istore_n C [(1, .int q2), (0, .ref (G.ad 71))] dX3_readShow_8 rfl (by decide) rfl ?_
  refine x_aload_n C 1 dX3_readShow_9 rfl rfl ?_
  refine x_iload_n C 0 dX3_readShow_10 rfl rfl ?_
  refine x_iconst (v := 3) C dX3_readShow_11 (by decide) ?_
  refine x_cSr (rest := [.int q2, .ref (G.ad 71)]) C (c_X3_headOf l C.2.2.2.2.2.2.2.2 3 q1) cw_X3_75 ⟨by decide, by decide⟩ rfl rfl (Nat.le_of_ble_eq_true rfl) dX3_readShow_12 ?_
  obtain ⟨hs3, hF⟩ := f_chk hF
  obtain ⟨q4, hq4, hF⟩ := f_bind hF
  refine x_cVi (rest := []) C (c_X3_spells l C.2.2.2.2.2.2.2.2 (of_decide_eq_true hs3) q2 q1 hq4) cw_X3_79 sh_71 rfl rfl ⟨by decide, by decide⟩ rfl rfl (Nat.le_of_ble_eq_true rfl) dX3_readShow_15 ?_
  refine x_if_ne (tgt := 31) C dX3_readShow_18 (by decide) (fun hc => ?_) (fun hc => ?_)
  · replace hF := f_f hc hF
    refine x_aload_n C 1 dX3_readShow_31 rfl rfl ?_
    refine x_iload_n C 0 dX3_readShow_32 rfl rfl ?_
    refine x_putI C fc_X3 fl_X3_41 sh_71 (by decide) rfl rfl rfl ⟨rfl, rfl⟩ dX3_readShow_33 ?_
    refine x_letM hF (fun μ5 hF => ?_)
    refine x_iconst (v := 1) C dX3_readShow_36 (by decide) ?_
    exact x_zret C dX3_readShow_37 (by decide) (Prod.mk.inj (Option.some.inj hF)).1 (Prod.mk.inj (Option.some.inj hF)).2
  · replace hF := f_t hc hF
    refine x_aload_n C 1 dX3_readShow_21 rfl rfl ?_
    refine x_iconst (v := 1) C dX3_readShow_22 (by decide) ?_
    refine x_aload_n C 1 dX3_readShow_23 rfl rfl ?_
    refine x_getI C fc_X3 fl_X3_41 sh_71 (by decide) rfl dX3_readShow_24 ?_
    obtain ⟨q6, hq6, hF⟩ := f_bind hF
    refine x_cVi (rest := []) C (c_X3_blame l C.2.2.2.2.2.2.2.2 1 (q1 71 6) q1 hq6) cw_X3_55 sh_71 rfl rfl ⟨by decide, by decide⟩ rfl rfl (Nat.le_of_ble_eq_true rfl) dX3_readShow_27 ?_
    obtain ⟨hb7, hF⟩ := f_chk hF
    exact x_zret C dX3_readShow_30 hb7 (Prod.mk.inj (Option.some.inj hF)).1 (Prod.mk.inj (Option.some.inj hF)).2
set_option maxHeartbeats 4000000 in
theorem c_X3_readShow {G : Gl} (l : Launch) (hA : Ap G) {r : Int32} {μf : Mu}  (μ : Mu) (hF : f_X3_readShow μ = some (r, μf)) : Mth G l yX3_readShow cX3_readShow 2 (some .boolean) 6 183 [.ref (G.ad 71)] (some (.int r)) μf μ := Mth.of hA (by decide) rfl (Nat.le_of_ble_eq_true rfl) (fun p e s0 m args below meth c C => w_X3_readShow C μ hF)
set_option maxHeartbeats 4000000 in
theorem w_X3_readEnd {G : Gl} {p : Program} {l : Launch} {e : Env} {s0 : State} {m : MethodId} {args : Array Value} {below : List Frame} {meth : Method} {c : Code} (C : Cx G p s0 m args meth c cX3_readEnd 1 RX3 (some .boolean)) {r : Int32} {μf : Mu}  (μ : Mu) (hF : f_X3_readEnd μ = some (r, μf)) : X G p l e 1 22 s0 m args below meth c 1 (some (.int r)) μf μ 0 [(0, .ref (G.ad 71))] [] := by
  unfold f_X3_readEnd at hF
  refine x_aload_n C 0 dX3_readEnd_0 rfl rfl ?_
  obtain ⟨q1, hq1, hF⟩ := f_bind hF
  refine x_cVv (rest := []) C (c_X3_skipBlanks l C.2.2.2.2.2.2.2.2 μ hq1) cw_X3_44 sh_71 rfl rfl ⟨by decide, by decide⟩ rfl rfl (Nat.le_of_ble_eq_true rfl) dX3_readEnd_1 ?_
  refine x_aload_n C 0 dX3_readEnd_4 rfl rfl ?_
  refine x_getI C fc_X3 fl_X3_41 sh_71 (by decide) rfl dX3_readEnd_5 ?_
  refine x_aload_n C 0 dX3_readEnd_8 rfl rfl ?_
  refine x_getI C fc_X3 fl_X3_26 sh_71 (by decide) rfl dX3_readEnd_9 ?_
  refine x_icmp_ge (tgt := 29) C dX3_readEnd_12 (by decide) (fun hc => ?_) (fun hc => ?_)
  · replace hF := f_t hc hF
    refine x_aload_n C 0 dX3_readEnd_29 rfl rfl ?_
    refine x_iconst (v := 1) C dX3_readEnd_30 (by decide) ?_
    refine x_aload_n C 0 dX3_readEnd_31 rfl rfl ?_
    refine x_getI C fc_X3 fl_X3_41 sh_71 (by decide) rfl dX3_readEnd_32 ?_
    obtain ⟨q2, hq2, hF⟩ := f_bind hF
    refine x_cVi (rest := []) C (c_X3_blame l C.2.2.2.2.2.2.2.2 1 (q1 71 6) q1 hq2) cw_X3_55 sh_71 rfl rfl ⟨by decide, by decide⟩ rfl rfl (Nat.le_of_ble_eq_true rfl) dX3_readEnd_35 ?_
    obtain ⟨hb3, hF⟩ := f_chk hF
    exact x_zret C dX3_readEnd_38 hb3 (Prod.mk.inj (Option.some.inj hF)).1 (Prod.mk.inj (Option.some.inj hF)).2
  · replace hF := f_f hc hF
    refine x_aload_n C 0 dX3_readEnd_15 rfl rfl ?_
    refine x_getR C fc_X3 fl_X3_19 sh_71 (by decide) rfl dX3_readEnd_16 ?_
    refine x_aload_n C 0 dX3_readEnd_19 rfl rfl ?_
    refine x_getI C fc_X3 fl_X3_41 sh_71 (by decide) rfl dX3_readEnd_20 ?_
    obtain ⟨hi4, hF⟩ := f_chk hF
    refine x_iald C sh_73 hi4 dX3_readEnd_23 ?_
    refine x_bipush (v := 59) C dX3_readEnd_24 (by decide) ?_
    refine x_icmp_eq (tgt := 39) C dX3_readEnd_26 (by decide) (fun hc => ?_) (fun hc => ?_)
    · replace hF := f_t hc hF
      refine x_aload_n C 0 dX3_readEnd_39 rfl rfl ?_
      refine x_dup C dX3_readEnd_40 rfl ?_
      refine x_getI C fc_X3 fl_X3_41 sh_71 (by decide) rfl dX3_readEnd_41 ?_
      refine x_iconst (v := 1) C dX3_readEnd_44 (by decide) ?_
      refine x_iadd C dX3_readEnd_45 ?_
      refine x_putI C fc_X3 fl_X3_41 sh_71 (by decide) rfl rfl rfl ⟨rfl, rfl⟩ dX3_readEnd_46 ?_
      refine x_letM hF (fun μ5 hF => ?_)
      refine x_iconst (v := 1) C dX3_readEnd_49 (by decide) ?_
      exact x_zret C dX3_readEnd_50 (by decide) (Prod.mk.inj (Option.some.inj hF)).1 (Prod.mk.inj (Option.some.inj hF)).2
    · replace hF := f_f hc hF
      refine x_aload_n C 0 dX3_readEnd_29 rfl rfl ?_
      refine x_iconst (v := 1) C dX3_readEnd_30 (by decide) ?_
      refine x_aload_n C 0 dX3_readEnd_31 rfl rfl ?_
      refine x_getI C fc_X3 fl_X3_41 sh_71 (by decide) rfl dX3_readEnd_32 ?_
      obtain ⟨q6, hq6, hF⟩ := f_bind hF
      refine x_cVi (rest := []) C (c_X3_blame l C.2.2.2.2.2.2.2.2 1 (q1 71 6) q1 hq6) cw_X3_55 sh_71 rfl rfl ⟨by decide, by decide⟩ rfl rfl (Nat.le_of_ble_eq_true rfl) dX3_readEnd_35 ?_
      obtain ⟨hb7, hF⟩ := f_chk hF
      exact x_zret C dX3_readEnd_38 hb7 (Prod.mk.inj (Option.some.inj hF)).1 (Prod.mk.inj (Option.some.inj hF)).2
set_option maxHeartbeats 4000000 in
theorem c_X3_readEnd {G : Gl} (l : Launch) (hA : Ap G) {r : Int32} {μf : Mu}  (μ : Mu) (hF : f_X3_readEnd μ = some (r, μf)) : Mth G l yX3_readEnd cX3_readEnd 1 (some .boolean) 1 22 [.ref (G.ad 71)] (some (.int r)) μf μ := Mth.of hA (by decide) rfl (Nat.le_of_ble_eq_true rfl) (fun p e s0 m args below meth c C => w_X3_readEnd C μ hF)
set_option maxHeartbeats 4000000 in
theorem w_X3_readClause_b102 {G : Gl} {p : Program} {l : Launch} {e : Env} {s0 : State} {m : MethodId} {args : Array Value} {below : List Frame} {meth : Method} {c : Code} (C : Cx G p s0 m args meth c cX3_readClause 4 RX3 (some .boolean)) {r : Int32} {μf : Mu}  (x2 : Int32) (t0 : Int32) (μ : Mu) (hF : f_X3_readClause_b102 x2 t0 μ = some (r, μf)) : X G p l e 7 206 s0 m args below meth c 4 (some (.int r)) μf μ 102 [(0, .ref (G.ad 71)), (2, .int x2)] [.int t0] := by
  unfold f_X3_readClause_b102 at hF
  refine x_istore_n C [(3, .int t0), (0, .ref (G.ad 71)), (2, .int x2)] dX3_readClause_102 rfl (by decide) rfl ?_
  refine x_iload_n C 0 dX3_readClause_103 rfl rfl ?_
  refine x_if_eq (tgt := 118) C dX3_readClause_104 (by decide) (fun hc => ?_) (fun hc => ?_)
  · replace hF := f_t hc hF
    refine x_aload_n C 1 dX3_readClause_118 rfl rfl ?_
    refine x_iload_n C 2 dX3_readClause_119 rfl rfl ?_
    obtain ⟨q1, hq1, hF⟩ := f_bind hF
    refine x_cVi (rest := []) C (c_X3_readChoice l C.2.2.2.2.2.2.2.2 x2 μ hq1) cw_X3_69 sh_71 rfl rfl ⟨by decide, by decide⟩ rfl rfl (Nat.le_of_ble_eq_true rfl) dX3_readClause_120 ?_
    refine x_if_eq (tgt := 137) C dX3_readClause_123 (by decide) (fun hc => ?_) (fun hc => ?_)
    · replace hF := f_t hc hF
      refine x_iconst (v := 0) C dX3_readClause_137 (by decide) ?_
      exact x_zret C dX3_readClause_138 (by decide) (Prod.mk.inj (Option.some.inj hF)).1 (Prod.mk.inj (Option.some.inj hF)).2
    · replace hF := f_f hc hF
      refine x_aload_n C 1 dX3_readClause_126 rfl rfl ?_
      obtain ⟨q2, hq2, hF⟩ := f_bind hF
      refine x_cVi (rest := []) C (c_X3_readEnd l C.2.2.2.2.2.2.2.2 q1.2 hq2) cw_X3_66 sh_71 rfl rfl ⟨by decide, by decide⟩ rfl rfl (Nat.le_of_ble_eq_true rfl) dX3_readClause_127 ?_
      refine x_if_eq (tgt := 137) C dX3_readClause_130 (by decide) (fun hc => ?_) (fun hc => ?_)
      · replace hF := f_t hc hF
        refine x_iconst (v := 0) C dX3_readClause_137 (by decide) ?_
        exact x_zret C dX3_readClause_138 (by decide) (Prod.mk.inj (Option.some.inj hF)).1 (Prod.mk.inj (Option.some.inj hF)).2
      · replace hF := f_f hc hF
        refine x_iconst (v := 1) C dX3_readClause_133 (by decide) ?_
        refine x_goto (tgt := 138) C dX3_readClause_134 (by decide) ?_
        exact x_zret C dX3_readClause_138 (by decide) (Prod.mk.inj (Option.some.inj hF)).1 (Prod.mk.inj (Option.some.inj hF)).2
  · replace hF := f_f hc hF
    refine x_aload_n C 1 dX3_readClause_107 rfl rfl ?_
    refine x_iload_n C 2 dX3_readClause_108 rfl rfl ?_
    obtain ⟨q3, hq3, hF⟩ := f_bind hF
    refine x_cVi (rest := []) C (c_X3_readNumber l C.2.2.2.2.2.2.2.2 x2 μ hq3) cw_X3_59 sh_71 rfl rfl ⟨by decide, by decide⟩ rfl rfl (Nat.le_of_ble_eq_true rfl) dX3_readClause_109 ?_
    refine x_if_eq (tgt := 137) C dX3_readClause_112 (by decide) (fun hc => ?_) (fun hc => ?_)
    · replace hF := f_t hc hF
      refine x_iconst (v := 0) C dX3_readClause_137 (by decide) ?_
      exact x_zret C dX3_readClause_138 (by decide) (Prod.mk.inj (Option.some.inj hF)).1 (Prod.mk.inj (Option.some.inj hF)).2
    · replace hF := f_f hc hF
      refine x_goto (tgt := 126) C dX3_readClause_115 (by decide) ?_
      refine x_aload_n C 1 dX3_readClause_126 rfl rfl ?_
      obtain ⟨q4, hq4, hF⟩ := f_bind hF
      refine x_cVi (rest := []) C (c_X3_readEnd l C.2.2.2.2.2.2.2.2 q3.2 hq4) cw_X3_66 sh_71 rfl rfl ⟨by decide, by decide⟩ rfl rfl (Nat.le_of_ble_eq_true rfl) dX3_readClause_127 ?_
      refine x_if_eq (tgt := 137) C dX3_readClause_130 (by decide) (fun hc => ?_) (fun hc => ?_)
      · replace hF := f_t hc hF
        refine x_iconst (v := 0) C dX3_readClause_137 (by decide) ?_
        exact x_zret C dX3_readClause_138 (by decide) (Prod.mk.inj (Option.some.inj hF)).1 (Prod.mk.inj (Option.some.inj hF)).2
      · replace hF := f_f hc hF
        refine x_iconst (v := 1) C dX3_readClause_133 (by decide) ?_
        refine x_goto (tgt := 138) C dX3_readClause_134 (by decide) ?_
        exact x_zret C dX3_readClause_138 (by decide) (Prod.mk.inj (Option.some.inj hF)).1 (Prod.mk.inj (Option.some.inj hF)).2
set_option maxHeartbeats 4000000 in
theorem w_X3_readClause {G : Gl} {p : Program} {l : Launch} {e : Env} {s0 : State} {m : MethodId} {args : Array Value} {below : List Frame} {meth : Method} {c : Code} (C : Cx G p s0 m args meth c cX3_readClause 4 RX3 (some .boolean)) {r : Int32} {μf : Mu}  (μ : Mu) (hF : f_X3_readClause μ = some (r, μf)) : X G p l e 7 206 s0 m args below meth c 4 (some (.int r)) μf μ 0 [(0, .ref (G.ad 71))] [] := by
  unfold f_X3_readClause at hF
  refine x_aload_n C 0 dX3_readClause_0 rfl rfl ?_
  refine x_getI C fc_X3 fl_X3_41 sh_71 (by decide) rfl dX3_readClause_1 ?_
  refine x_letI hF (fun y1 hF => ?_)
  refine x_istore_n C [(1, .int y1), (0, .ref (G.ad 71))] dX3_readClause_4 rfl (by decide) rfl ?_
  refine x_aload_n C 1 dX3_readClause_5 rfl rfl ?_
  obtain ⟨q2, hq2, hF⟩ := f_bind hF
  refine x_cVi (rest := []) C (c_X3_readHead l C.2.2.2.2.2.2.2.2 μ hq2) cw_X3_51 sh_71 rfl rfl ⟨by decide, by decide⟩ rfl rfl (Nat.le_of_ble_eq_true rfl) dX3_readClause_6 ?_
  refine x_istore_n C [(2, .int q2.1), (1, .int y1), (0, .ref (G.ad 71))] dX3_readClause_9 rfl (by decide) rfl ?_
  refine x_iload_n C 0 dX3_readClause_10 rfl rfl ?_
  refine x_iconst (v := (-1)) C dX3_readClause_11 (by decide) ?_
  refine x_icmp_ne (tgt := 22) C dX3_readClause_12 (by decide) (fun hc => ?_) (fun hc => ?_)
  · replace hF := f_f hc hF
    refine x_aload_n C 2 dX3_readClause_22 rfl rfl ?_
    refine x_getR C fc_X3 fl_X3_22 sh_71 (by decide) rfl dX3_readClause_23 ?_
    refine x_iload_n C 0 dX3_readClause_26 rfl rfl ?_
    obtain ⟨hi3, hF⟩ := f_chk hF
    refine x_zald C sh_74 hi3 dX3_readClause_27 ?_
    refine x_if_eq (tgt := 38) C dX3_readClause_28 (by decide) (fun hc => ?_) (fun hc => ?_)
    · replace hF := f_t hc hF
      refine x_aload_n C 2 dX3_readClause_38 rfl rfl ?_
      refine x_getR C fc_X3 fl_X3_22 sh_71 (by decide) rfl dX3_readClause_39 ?_
      refine x_iload_n C 0 dX3_readClause_42 rfl rfl ?_
      refine x_iconst (v := 1) C dX3_readClause_43 (by decide) ?_
      refine x_zast C sh_74 hi3 (by decide) dX3_readClause_44 ?_
      refine x_letM hF (fun μ4 hF => ?_)
      refine x_iload_n C 0 dX3_readClause_45 rfl rfl ?_
      refine x_iconst (v := 2) C dX3_readClause_46 (by decide) ?_
      refine x_icmp_ne (tgt := 86) C dX3_readClause_47 (by decide) (fun hc => ?_) (fun hc => ?_)
      · replace hF := f_f hc hF
        refine x_iload_n C 0 dX3_readClause_86 rfl rfl ?_
        refine x_iconst (v := 4) C dX3_readClause_87 (by decide) ?_
        refine x_icmp_eq (tgt := 97) C dX3_readClause_88 (by decide) (fun hc => ?_) (fun hc => ?_)
        · replace hF := f_t hc hF
          refine x_iconst (v := 1) C dX3_readClause_97 (by decide) ?_
          refine x_goto (tgt := 102) C dX3_readClause_98 (by decide) ?_
          exact x_pick [(0, .ref (G.ad 71)), (2, .int q2.1)] [2, 0] rfl (w_X3_readClause_b102 C q2.1 1 μ4 hF)
        · replace hF := f_f hc hF
          refine x_iload_n C 0 dX3_readClause_91 rfl rfl ?_
          refine x_bipush (v := 8) C dX3_readClause_92 (by decide) ?_
          refine x_icmp_ne (tgt := 101) C dX3_readClause_94 (by decide) (fun hc => ?_) (fun hc => ?_)
          · replace hF := f_f hc hF
            refine x_iconst (v := 0) C dX3_readClause_101 (by decide) ?_
            exact x_pick [(0, .ref (G.ad 71)), (2, .int q2.1)] [2, 0] rfl (w_X3_readClause_b102 C q2.1 0 μ4 hF)
          · replace hF := f_t hc hF
            refine x_iconst (v := 1) C dX3_readClause_97 (by decide) ?_
            refine x_goto (tgt := 102) C dX3_readClause_98 (by decide) ?_
            exact x_pick [(0, .ref (G.ad 71)), (2, .int q2.1)] [2, 0] rfl (w_X3_readClause_b102 C q2.1 1 μ4 hF)
      · replace hF := f_t hc hF
        refine x_aload_n C 2 dX3_readClause_50 rfl rfl ?_
        refine x_iconst (v := 2) C dX3_readClause_51 (by decide) ?_
        obtain ⟨q5, hq5, hF⟩ := f_bind hF
        refine x_cVi (rest := []) C (c_X3_readNumber l C.2.2.2.2.2.2.2.2 2 μ4 hq5) cw_X3_59 sh_71 rfl rfl ⟨by decide, by decide⟩ rfl rfl (Nat.le_of_ble_eq_true rfl) dX3_readClause_52 ?_
        refine x_if_eq (tgt := 84) C dX3_readClause_55 (by decide) (fun hc => ?_) (fun hc => ?_)
        · replace hF := f_t hc hF
          refine x_iconst (v := 0) C dX3_readClause_84 (by decide) ?_
          exact x_zret C dX3_readClause_85 (by decide) (Prod.mk.inj (Option.some.inj hF)).1 (Prod.mk.inj (Option.some.inj hF)).2
        · replace hF := f_f hc hF
          refine x_aload_n C 2 dX3_readClause_58 rfl rfl ?_
          obtain ⟨q6, hq6, hF⟩ := f_bind hF
          refine x_cVi (rest := []) C (c_X3_readShow l C.2.2.2.2.2.2.2.2 q5.2 hq6) cw_X3_63 sh_71 rfl rfl ⟨by decide, by decide⟩ rfl rfl (Nat.le_of_ble_eq_true rfl) dX3_readClause_59 ?_
          refine x_if_eq (tgt := 84) C dX3_readClause_62 (by decide) (fun hc => ?_) (fun hc => ?_)
          · replace hF := f_t hc hF
            refine x_iconst (v := 0) C dX3_readClause_84 (by decide) ?_
            exact x_zret C dX3_readClause_85 (by decide) (Prod.mk.inj (Option.some.inj hF)).1 (Prod.mk.inj (Option.some.inj hF)).2
          · replace hF := f_f hc hF
            refine x_aload_n C 2 dX3_readClause_65 rfl rfl ?_
            refine x_iconst (v := 3) C dX3_readClause_66 (by decide) ?_
            obtain ⟨q7, hq7, hF⟩ := f_bind hF
            refine x_cVi (rest := []) C (c_X3_readNumber l C.2.2.2.2.2.2.2.2 3 q6.2 hq7) cw_X3_59 sh_71 rfl rfl ⟨by decide, by decide⟩ rfl rfl (Nat.le_of_ble_eq_true rfl) dX3_readClause_67 ?_
            refine x_if_eq (tgt := 84) C dX3_readClause_70 (by decide) (fun hc => ?_) (fun hc => ?_)
            · replace hF := f_t hc hF
              refine x_iconst (v := 0) C dX3_readClause_84 (by decide) ?_
              exact x_zret C dX3_readClause_85 (by decide) (Prod.mk.inj (Option.some.inj hF)).1 (Prod.mk.inj (Option.some.inj hF)).2
            · replace hF := f_f hc hF
              refine x_aload_n C 2 dX3_readClause_73 rfl rfl ?_
              obtain ⟨q8, hq8, hF⟩ := f_bind hF
              refine x_cVi (rest := []) C (c_X3_readEnd l C.2.2.2.2.2.2.2.2 q7.2 hq8) cw_X3_66 sh_71 rfl rfl ⟨by decide, by decide⟩ rfl rfl (Nat.le_of_ble_eq_true rfl) dX3_readClause_74 ?_
              refine x_if_eq (tgt := 84) C dX3_readClause_77 (by decide) (fun hc => ?_) (fun hc => ?_)
              · replace hF := f_t hc hF
                refine x_iconst (v := 0) C dX3_readClause_84 (by decide) ?_
                exact x_zret C dX3_readClause_85 (by decide) (Prod.mk.inj (Option.some.inj hF)).1 (Prod.mk.inj (Option.some.inj hF)).2
              · replace hF := f_f hc hF
                refine x_iconst (v := 1) C dX3_readClause_80 (by decide) ?_
                refine x_goto (tgt := 85) C dX3_readClause_81 (by decide) ?_
                exact x_zret C dX3_readClause_85 (by decide) (Prod.mk.inj (Option.some.inj hF)).1 (Prod.mk.inj (Option.some.inj hF)).2
    · replace hF := f_f hc hF
      refine x_aload_n C 2 dX3_readClause_31 rfl rfl ?_
      refine x_iconst (v := 3) C dX3_readClause_32 (by decide) ?_
      refine x_iload_n C 1 dX3_readClause_33 rfl rfl ?_
      obtain ⟨q9, hq9, hF⟩ := f_bind hF
      refine x_cVi (rest := []) C (c_X3_blame l C.2.2.2.2.2.2.2.2 3 y1 q2.2 hq9) cw_X3_55 sh_71 rfl rfl ⟨by decide, by decide⟩ rfl rfl (Nat.le_of_ble_eq_true rfl) dX3_readClause_34 ?_
      obtain ⟨hb10, hF⟩ := f_chk hF
      exact x_zret C dX3_readClause_37 hb10 (Prod.mk.inj (Option.some.inj hF)).1 (Prod.mk.inj (Option.some.inj hF)).2
  · replace hF := f_t hc hF
    refine x_aload_n C 2 dX3_readClause_15 rfl rfl ?_
    refine x_iconst (v := 1) C dX3_readClause_16 (by decide) ?_
    refine x_iload_n C 1 dX3_readClause_17 rfl rfl ?_
    obtain ⟨q11, hq11, hF⟩ := f_bind hF
    refine x_cVi (rest := []) C (c_X3_blame l C.2.2.2.2.2.2.2.2 1 y1 q2.2 hq11) cw_X3_55 sh_71 rfl rfl ⟨by decide, by decide⟩ rfl rfl (Nat.le_of_ble_eq_true rfl) dX3_readClause_18 ?_
    obtain ⟨hb12, hF⟩ := f_chk hF
    exact x_zret C dX3_readClause_21 hb12 (Prod.mk.inj (Option.some.inj hF)).1 (Prod.mk.inj (Option.some.inj hF)).2
set_option maxHeartbeats 4000000 in
theorem c_X3_readClause {G : Gl} (l : Launch) (hA : Ap G) {r : Int32} {μf : Mu}  (μ : Mu) (hF : f_X3_readClause μ = some (r, μf)) : Mth G l yX3_readClause cX3_readClause 4 (some .boolean) 7 206 [.ref (G.ad 71)] (some (.int r)) μf μ := Mth.of hA (by decide) rfl (Nat.le_of_ble_eq_true rfl) (fun p e s0 m args below meth c C => w_X3_readClause C μ hF)
