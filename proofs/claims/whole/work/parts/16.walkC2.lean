set_option maxHeartbeats 4000000 in
theorem w_X3_readText_L56 {G : Gl} {p : Program} {l : Launch} {e : Env} {s0 : State} {m : MethodId} {args : Array Value} {below : List Frame} {meth : Method} {c : Code} (C : Cx G p s0 m args meth c cX3_readText 2 RX3 (some .int)) {r : Int32} {μf : Mu}  : ∀ (n : Nat) (x1 : Int32) (μ : Mu), f_X3_readText_L56 n x1 μ = some (r, μf) → X G p l e 8 229 s0 m args below meth c 2 (some (.int r)) μf μ 56 [(0, .ref (G.ad 71)), (1, .int x1)] [] := by
  intro n
  induction n with
  | zero =>
    intro x1 μ hF
    rw [f_X3_readText_L56] at hF
    cases hF
  | succ n ih =>
    intro x1 μ hF
    rw [f_X3_readText_L56] at hF
    refine x_iload_n C 1 dX3_readText_56 rfl rfl ?_
    refine x_bipush (v := 10) C dX3_readText_57 (by decide) ?_
    refine x_icmp_ge (tgt := 90) C dX3_readText_59 (by decide) (fun hc => ?_) (fun hc => ?_)
    · replace hF := f_t hc hF
      refine x_aload_n C 0 dX3_readText_90 rfl rfl ?_
      refine x_iconst (v := 0) C dX3_readText_91 (by decide) ?_
      refine x_putI C fc_X3 fl_X3_26 sh_71 (by decide) rfl rfl rfl ⟨rfl, rfl⟩ dX3_readText_92 ?_
      refine x_letM hF (fun μ1 hF => ?_)
      refine x_iload_n C 1 dX3_readText_95 rfl rfl ?_
      exact x_iret C dX3_readText_96 (Prod.mk.inj (Option.some.inj hF)).1 (Prod.mk.inj (Option.some.inj hF)).2
    · replace hF := f_f hc hF
      refine x_aload_n C 0 dX3_readText_62 rfl rfl ?_
      refine x_getI C fc_X3 fl_X3_41 sh_71 (by decide) rfl dX3_readText_63 ?_
      refine x_aload_n C 0 dX3_readText_66 rfl rfl ?_
      refine x_getI C fc_X3 fl_X3_26 sh_71 (by decide) rfl dX3_readText_67 ?_
      refine x_icmp_ge (tgt := 90) C dX3_readText_70 (by decide) (fun hc => ?_) (fun hc => ?_)
      · replace hF := f_t hc hF
        refine x_aload_n C 0 dX3_readText_90 rfl rfl ?_
        refine x_iconst (v := 0) C dX3_readText_91 (by decide) ?_
        refine x_putI C fc_X3 fl_X3_26 sh_71 (by decide) rfl rfl rfl ⟨rfl, rfl⟩ dX3_readText_92 ?_
        refine x_letM hF (fun μ2 hF => ?_)
        refine x_iload_n C 1 dX3_readText_95 rfl rfl ?_
        exact x_iret C dX3_readText_96 (Prod.mk.inj (Option.some.inj hF)).1 (Prod.mk.inj (Option.some.inj hF)).2
      · replace hF := f_f hc hF
        refine x_aload_n C 0 dX3_readText_73 rfl rfl ?_
        obtain ⟨q3, hq3, hF⟩ := f_bind hF
        refine x_cVi (rest := []) C (c_X3_readClause l C.2.2.2.2.2.2.2.2 μ hq3) cw_X3_47 sh_71 rfl rfl ⟨by decide, by decide⟩ rfl rfl (Nat.le_of_ble_eq_true rfl) dX3_readText_74 ?_
        refine x_if_eq (tgt := 90) C dX3_readText_77 (by decide) (fun hc => ?_) (fun hc => ?_)
        · replace hF := f_t hc hF
          refine x_aload_n C 0 dX3_readText_90 rfl rfl ?_
          refine x_iconst (v := 0) C dX3_readText_91 (by decide) ?_
          refine x_putI C fc_X3 fl_X3_26 sh_71 (by decide) rfl rfl rfl ⟨rfl, rfl⟩ dX3_readText_92 ?_
          refine x_letM hF (fun μ4 hF => ?_)
          refine x_iload_n C 1 dX3_readText_95 rfl rfl ?_
          exact x_iret C dX3_readText_96 (Prod.mk.inj (Option.some.inj hF)).1 (Prod.mk.inj (Option.some.inj hF)).2
        · replace hF := f_f hc hF
          refine x_iinc C [(1, .int (x1 + 1)), (0, .ref (G.ad 71))] 1 dX3_readText_80 rfl rfl (by decide) rfl ?_
          refine x_aload_n C 1 dX3_readText_83 rfl rfl ?_
          obtain ⟨q5, hq5, hF⟩ := f_bind hF
          refine x_cVv (rest := []) C (c_X3_skipBlanks l C.2.2.2.2.2.2.2.2 q3.2 hq5) cw_X3_44 sh_71 rfl rfl ⟨by decide, by decide⟩ rfl rfl (Nat.le_of_ble_eq_true rfl) dX3_readText_84 ?_
          refine x_goto (tgt := 56) C dX3_readText_87 (by decide) ?_
          exact x_pick [(0, .ref (G.ad 71)), (1, .int (x1 + 1))] [1, 0] rfl (ih (x1 + 1) q5 hF)
set_option maxHeartbeats 4000000 in
theorem w_X3_readText_L16 {G : Gl} {p : Program} {l : Launch} {e : Env} {s0 : State} {m : MethodId} {args : Array Value} {below : List Frame} {meth : Method} {c : Code} (C : Cx G p s0 m args meth c cX3_readText 2 RX3 (some .int)) {r : Int32} {μf : Mu}  : ∀ (n : Nat) (x1 : Int32) (μ : Mu), f_X3_readText_L16 n x1 μ = some (r, μf) → X G p l e 8 229 s0 m args below meth c 2 (some (.int r)) μf μ 16 [(0, .ref (G.ad 71)), (1, .int x1)] [] := by
  intro n
  induction n with
  | zero =>
    intro x1 μ hF
    rw [f_X3_readText_L16] at hF
    cases hF
  | succ n ih =>
    intro x1 μ hF
    rw [f_X3_readText_L16] at hF
    refine x_iload_n C 1 dX3_readText_16 rfl rfl ?_
    refine x_bipush (v := 10) C dX3_readText_17 (by decide) ?_
    refine x_icmp_ge (tgt := 35) C dX3_readText_19 (by decide) (fun hc => ?_) (fun hc => ?_)
    · replace hF := f_t hc hF
      refine x_aload_n C 0 dX3_readText_35 rfl rfl ?_
      refine x_iconst (v := 0) C dX3_readText_36 (by decide) ?_
      refine x_putI C fc_X3 fl_X3_38 sh_71 (by decide) rfl rfl rfl ⟨rfl, rfl⟩ dX3_readText_37 ?_
      refine x_letM hF (fun μ1 hF => ?_)
      refine x_aload_n C 0 dX3_readText_40 rfl rfl ?_
      refine x_iconst (v := (-1)) C dX3_readText_41 (by decide) ?_
      refine x_putI C fc_X3 fl_X3_15 sh_71 (by decide) rfl rfl rfl ⟨rfl, rfl⟩ dX3_readText_42 ?_
      refine x_letM hF (fun μ2 hF => ?_)
      refine x_aload_n C 0 dX3_readText_45 rfl rfl ?_
      refine x_iconst (v := 0) C dX3_readText_46 (by decide) ?_
      refine x_putI C fc_X3 fl_X3_41 sh_71 (by decide) rfl rfl rfl ⟨rfl, rfl⟩ dX3_readText_47 ?_
      refine x_letM hF (fun μ3 hF => ?_)
      refine x_iconst (v := 0) C dX3_readText_50 (by decide) ?_
      refine x_istore_n C [(1, .int 0), (0, .ref (G.ad 71))] dX3_readText_51 rfl (by decide) rfl ?_
      refine x_aload_n C 1 dX3_readText_52 rfl rfl ?_
      obtain ⟨q4, hq4, hF⟩ := f_bind hF
      refine x_cVv (rest := []) C (c_X3_skipBlanks l C.2.2.2.2.2.2.2.2 μ3 hq4) cw_X3_44 sh_71 rfl rfl ⟨by decide, by decide⟩ rfl rfl (Nat.le_of_ble_eq_true rfl) dX3_readText_53 ?_
      exact x_pick [(0, .ref (G.ad 71)), (1, .int 0)] [1, 0] rfl (w_X3_readText_L56 C fu 0 q4 hF)
    · replace hF := f_f hc hF
      refine x_aload_n C 0 dX3_readText_22 rfl rfl ?_
      refine x_getR C fc_X3 fl_X3_22 sh_71 (by decide) rfl dX3_readText_23 ?_
      refine x_iload_n C 1 dX3_readText_26 rfl rfl ?_
      refine x_iconst (v := 0) C dX3_readText_27 (by decide) ?_
      obtain ⟨hi5, hF⟩ := f_chk hF
      refine x_zast C sh_74 hi5 (by decide) dX3_readText_28 ?_
      refine x_letM hF (fun μ6 hF => ?_)
      refine x_iinc C [(1, .int (x1 + 1)), (0, .ref (G.ad 71))] 1 dX3_readText_29 rfl rfl (by decide) rfl ?_
      refine x_goto (tgt := 16) C dX3_readText_32 (by decide) ?_
      exact x_pick [(0, .ref (G.ad 71)), (1, .int (x1 + 1))] [1, 0] rfl (ih (x1 + 1) μ6 hF)
set_option maxHeartbeats 4000000 in
theorem w_X3_readText {G : Gl} {p : Program} {l : Launch} {e : Env} {s0 : State} {m : MethodId} {args : Array Value} {below : List Frame} {meth : Method} {c : Code} (C : Cx G p s0 m args meth c cX3_readText 2 RX3 (some .int)) {r : Int32} {μf : Mu}  (μ : Mu) (hF : f_X3_readText μ = some (r, μf)) : X G p l e 8 229 s0 m args below meth c 2 (some (.int r)) μf μ 0 [(0, .ref (G.ad 71))] [] := by
  unfold f_X3_readText at hF
  refine x_stat_FIRST_STYLE C dX3_readText_0 ?_
  refine x_iconst (v := 0) C dX3_readText_3 (by decide) ?_
  refine x_aload_n C 0 dX3_readText_4 rfl rfl ?_
  refine x_getR C fc_X3 fl_X3_9 sh_71 (by decide) rfl dX3_readText_5 ?_
  refine x_iconst (v := 0) C dX3_readText_8 (by decide) ?_
  refine x_bipush (v := 10) C dX3_readText_9 (by decide) ?_
  obtain ⟨hi1, hF⟩ := f_chk hF
  refine x_copyT C cwA_X3_32 sh_72 hi1 ⟨by decide, Nat.le_of_ble_eq_true rfl⟩ dX3_readText_11 ?_
  refine x_letM hF (fun μ2 hF => ?_)
  refine x_iconst (v := 0) C dX3_readText_14 (by decide) ?_
  refine x_istore_n C [(1, .int 0), (0, .ref (G.ad 71))] dX3_readText_15 rfl (by decide) rfl ?_
  exact x_pick [(0, .ref (G.ad 71)), (1, .int 0)] [1, 0] rfl (w_X3_readText_L16 C fu 0 μ2 hF)
set_option maxHeartbeats 4000000 in
theorem c_X3_readText {G : Gl} (l : Launch) (hA : Ap G) {r : Int32} {μf : Mu}  (μ : Mu) (hF : f_X3_readText μ = some (r, μf)) : Mth G l yX3_readText cX3_readText 2 (some .int) 8 229 [.ref (G.ad 71)] (some (.int r)) μf μ := Mth.of hA (by decide) rfl (Nat.le_of_ble_eq_true rfl) (fun p e s0 m args below meth c C => w_X3_readText C μ hF)
set_option maxHeartbeats 4000000 in
theorem w_X4_addAuthor {G : Gl} {p : Program} {l : Launch} {e : Env} {s0 : State} {m : MethodId} {args : Array Value} {below : List Frame} {meth : Method} {c : Code} (C : Cx G p s0 m args meth c cX4_addAuthor 6 RX4 none) {μf : Mu}  (x1 : Int32) (x2 : Int32) (x3 : Int32) (x4 : Int32) (μ : Mu) (hF : f_X4_addAuthor x1 x2 x3 x4 μ = some μf) : X G p l e 0 0 s0 m args below meth c 6 none μf μ 0 [(0, .ref (G.ad 1)), (1, .int x1), (2, .int x2), (3, .int x3), (4, .int x4)] [] := by
  unfold f_X4_addAuthor at hF
  refine x_iload_n C 1 dX4_addAuthor_0 rfl rfl ?_
  refine x_iconst (v := 4) C dX4_addAuthor_1 (by decide) ?_
  refine x_imul C dX4_addAuthor_2 ?_
  refine x_aload_n C 0 dX4_addAuthor_3 rfl rfl ?_
  refine x_getR C fc_X4 fl_X4_9 sh_1 (by decide) rfl dX4_addAuthor_4 ?_
  refine x_iload_n C 1 dX4_addAuthor_7 rfl rfl ?_
  obtain ⟨hi1, hF⟩ := f_chk hF
  refine x_iald C sh_2 hi1 dX4_addAuthor_8 ?_
  refine x_iadd C dX4_addAuthor_9 ?_
  refine x_letI hF (fun y2 hF => ?_)
  refine x_istore C [(5, .int y2), (0, .ref (G.ad 1)), (1, .int x1), (2, .int x2), (3, .int x3), (4, .int x4)] dX4_addAuthor_10 (by decide) rfl ?_
  refine x_aload_n C 1 dX4_addAuthor_12 rfl rfl ?_
  refine x_getR C fc_X4 fl_X4_27 sh_1 (by decide) rfl dX4_addAuthor_13 ?_
  refine x_iload C 0 dX4_addAuthor_16 rfl ?_
  refine x_iload_n C 3 dX4_addAuthor_18 rfl rfl ?_
  obtain ⟨hi3, hF⟩ := f_chk hF
  refine x_iast C sh_7 hi3 dX4_addAuthor_19 ?_
  refine x_letM hF (fun μ4 hF => ?_)
  refine x_aload_n C 1 dX4_addAuthor_20 rfl rfl ?_
  refine x_getR C fc_X4 fl_X4_30 sh_1 (by decide) rfl dX4_addAuthor_21 ?_
  refine x_iload C 0 dX4_addAuthor_24 rfl ?_
  refine x_iload_n C 4 dX4_addAuthor_26 rfl rfl ?_
  refine x_iast C sh_8 hi3 dX4_addAuthor_27 ?_
  refine x_letM hF (fun μ5 hF => ?_)
  refine x_aload_n C 1 dX4_addAuthor_28 rfl rfl ?_
  refine x_getR C fc_X4 fl_X4_33 sh_1 (by decide) rfl dX4_addAuthor_29 ?_
  refine x_iload C 0 dX4_addAuthor_32 rfl ?_
  refine x_iload C 5 dX4_addAuthor_34 rfl ?_
  refine x_iast C sh_9 hi3 dX4_addAuthor_36 ?_
  refine x_letM hF (fun μ6 hF => ?_)
  refine x_aload_n C 1 dX4_addAuthor_37 rfl rfl ?_
  refine x_getR C fc_X4 fl_X4_9 sh_1 (by decide) rfl dX4_addAuthor_38 ?_
  refine x_iload_n C 2 dX4_addAuthor_41 rfl rfl ?_
  refine x_dup2 C dX4_addAuthor_42 rfl rfl ?_
  refine x_iald C sh_2 hi1 dX4_addAuthor_43 ?_
  refine x_iconst (v := 1) C dX4_addAuthor_44 (by decide) ?_
  refine x_iadd C dX4_addAuthor_45 ?_
  refine x_iast C sh_2 hi1 dX4_addAuthor_46 ?_
  refine x_letM hF (fun μ7 hF => ?_)
  exact x_vret C dX4_addAuthor_47 (Option.some.inj hF)
set_option maxHeartbeats 4000000 in
theorem c_X4_addAuthor {G : Gl} (l : Launch) (hA : Ap G) {μf : Mu}  (x1 : Int32) (x2 : Int32) (x3 : Int32) (x4 : Int32) (μ : Mu) (hF : f_X4_addAuthor x1 x2 x3 x4 μ = some μf) : Mth G l yX4_addAuthor cX4_addAuthor 6 none 0 0 [.ref (G.ad 1), .int x1, .int x2, .int x3, .int x4] none μf μ := Mth.of hA (by decide) rfl (Nat.le_of_ble_eq_true rfl) (fun p e s0 m args below meth c C => w_X4_addAuthor C x1 x2 x3 x4 μ hF)
set_option maxHeartbeats 4000000 in
theorem w_X4_addWork {G : Gl} {p : Program} {l : Launch} {e : Env} {s0 : State} {m : MethodId} {args : Array Value} {below : List Frame} {meth : Method} {c : Code} (C : Cx G p s0 m args meth c cX4_addWork 4 RX4 (some .int)) {r : Int32} {μf : Mu}  (x1 : Int32) (x2 : Int32) (μ : Mu) (hF : f_X4_addWork x1 x2 μ = some (r, μf)) : X G p l e 0 0 s0 m args below meth c 4 (some (.int r)) μf μ 0 [(0, .ref (G.ad 1)), (1, .int x1), (2, .int x2)] [] := by
  unfold f_X4_addWork at hF
  refine x_aload_n C 0 dX4_addWork_0 rfl rfl ?_
  refine x_getI C fc_X4 fl_X4_36 sh_1 (by decide) rfl dX4_addWork_1 ?_
  refine x_letI hF (fun y1 hF => ?_)
  refine x_istore_n C [(3, .int y1), (0, .ref (G.ad 1)), (1, .int x1), (2, .int x2)] dX4_addWork_4 rfl (by decide) rfl ?_
  refine x_aload_n C 1 dX4_addWork_5 rfl rfl ?_
  refine x_getR C fc_X4 fl_X4_15 sh_1 (by decide) rfl dX4_addWork_6 ?_
  refine x_iload_n C 0 dX4_addWork_9 rfl rfl ?_
  refine x_iload_n C 2 dX4_addWork_10 rfl rfl ?_
  obtain ⟨hi2, hF⟩ := f_chk hF
  refine x_iast C sh_3 hi2 dX4_addWork_11 ?_
  refine x_letM hF (fun μ3 hF => ?_)
  refine x_aload_n C 1 dX4_addWork_12 rfl rfl ?_
  refine x_getR C fc_X4 fl_X4_18 sh_1 (by decide) rfl dX4_addWork_13 ?_
  refine x_iload_n C 0 dX4_addWork_16 rfl rfl ?_
  refine x_iload_n C 3 dX4_addWork_17 rfl rfl ?_
  refine x_iast C sh_4 hi2 dX4_addWork_18 ?_
  refine x_letM hF (fun μ4 hF => ?_)
  refine x_aload_n C 1 dX4_addWork_19 rfl rfl ?_
  refine x_getR C fc_X4 fl_X4_21 sh_1 (by decide) rfl dX4_addWork_20 ?_
  refine x_iload_n C 0 dX4_addWork_23 rfl rfl ?_
  refine x_iconst (v := (-1)) C dX4_addWork_24 (by decide) ?_
  refine x_iast C sh_5 hi2 dX4_addWork_25 ?_
  refine x_letM hF (fun μ5 hF => ?_)
  refine x_aload_n C 1 dX4_addWork_26 rfl rfl ?_
  refine x_getR C fc_X4 fl_X4_24 sh_1 (by decide) rfl dX4_addWork_27 ?_
  refine x_iload_n C 0 dX4_addWork_30 rfl rfl ?_
  refine x_iconst (v := (-1)) C dX4_addWork_31 (by decide) ?_
  refine x_iast C sh_6 hi2 dX4_addWork_32 ?_
  refine x_letM hF (fun μ6 hF => ?_)
  refine x_aload_n C 1 dX4_addWork_33 rfl rfl ?_
  refine x_dup C dX4_addWork_34 rfl ?_
  refine x_getI C fc_X4 fl_X4_36 sh_1 (by decide) rfl dX4_addWork_35 ?_
  refine x_iconst (v := 1) C dX4_addWork_38 (by decide) ?_
  refine x_iadd C dX4_addWork_39 ?_
  refine x_putI C fc_X4 fl_X4_36 sh_1 (by decide) rfl rfl rfl ⟨rfl, rfl⟩ dX4_addWork_40 ?_
  refine x_letM hF (fun μ7 hF => ?_)
  refine x_iload_n C 0 dX4_addWork_43 rfl rfl ?_
  exact x_iret C dX4_addWork_44 (Prod.mk.inj (Option.some.inj hF)).1 (Prod.mk.inj (Option.some.inj hF)).2
set_option maxHeartbeats 4000000 in
theorem c_X4_addWork {G : Gl} (l : Launch) (hA : Ap G) {r : Int32} {μf : Mu}  (x1 : Int32) (x2 : Int32) (μ : Mu) (hF : f_X4_addWork x1 x2 μ = some (r, μf)) : Mth G l yX4_addWork cX4_addWork 4 (some .int) 0 0 [.ref (G.ad 1), .int x1, .int x2] (some (.int r)) μf μ := Mth.of hA (by decide) rfl (Nat.le_of_ble_eq_true rfl) (fun p e s0 m args below meth c C => w_X4_addWork C x1 x2 μ hF)
set_option maxHeartbeats 4000000 in
theorem w_X4_compareAuthors {G : Gl} {p : Program} {l : Launch} {e : Env} {s0 : State} {m : MethodId} {args : Array Value} {below : List Frame} {meth : Method} {c : Code} (C : Cx G p s0 m args meth c cX4_compareAuthors 3 RX4 (some .int)) {r : Int32}  (x1 : Int32) (x2 : Int32) (μ : Mu) (hF : f_X4_compareAuthors x1 x2 μ = some r) : X G p l e 0 0 s0 m args below meth c 3 (some (.int r)) μ μ 0 [(0, .ref (G.ad 1)), (1, .int x1), (2, .int x2)] [] := by
  unfold f_X4_compareAuthors at hF
  refine x_aload_n C 0 dX4_compareAuthors_0 rfl rfl ?_
  refine x_getR C fc_X4 fl_X4_27 sh_1 (by decide) rfl dX4_compareAuthors_1 ?_
  refine x_iload_n C 1 dX4_compareAuthors_4 rfl rfl ?_
  obtain ⟨hi1, hF⟩ := f_chk hF
  refine x_iald C sh_7 hi1 dX4_compareAuthors_5 ?_
  refine x_aload_n C 0 dX4_compareAuthors_6 rfl rfl ?_
  refine x_getR C fc_X4 fl_X4_27 sh_1 (by decide) rfl dX4_compareAuthors_7 ?_
  refine x_iload_n C 2 dX4_compareAuthors_10 rfl rfl ?_
  obtain ⟨hi2, hF⟩ := f_chk hF
  refine x_iald C sh_7 hi2 dX4_compareAuthors_11 ?_
  refine x_icmp_eq (tgt := 29) C dX4_compareAuthors_12 (by decide) (fun hc => ?_) (fun hc => ?_)
  · replace hF := f_t hc hF
    refine x_aload_n C 0 dX4_compareAuthors_29 rfl rfl ?_
    refine x_getR C fc_X4 fl_X4_30 sh_1 (by decide) rfl dX4_compareAuthors_30 ?_
    refine x_iload_n C 1 dX4_compareAuthors_33 rfl rfl ?_
    refine x_iald C sh_8 hi1 dX4_compareAuthors_34 ?_
    refine x_aload_n C 0 dX4_compareAuthors_35 rfl rfl ?_
    refine x_getR C fc_X4 fl_X4_30 sh_1 (by decide) rfl dX4_compareAuthors_36 ?_
    refine x_iload_n C 2 dX4_compareAuthors_39 rfl rfl ?_
    refine x_iald C sh_8 hi2 dX4_compareAuthors_40 ?_
    refine x_icmp_eq (tgt := 60) C dX4_compareAuthors_41 (by decide) (fun hc => ?_) (fun hc => ?_)
    · replace hF := f_t hc hF
      refine x_aload_n C 0 dX4_compareAuthors_60 rfl rfl ?_
      refine x_getR C fc_X4 fl_X4_33 sh_1 (by decide) rfl dX4_compareAuthors_61 ?_
      refine x_iload_n C 1 dX4_compareAuthors_64 rfl rfl ?_
      refine x_iald C sh_9 hi1 dX4_compareAuthors_65 ?_
      refine x_aload_n C 0 dX4_compareAuthors_66 rfl rfl ?_
      refine x_getR C fc_X4 fl_X4_33 sh_1 (by decide) rfl dX4_compareAuthors_67 ?_
      refine x_iload_n C 2 dX4_compareAuthors_70 rfl rfl ?_
      refine x_iald C sh_9 hi2 dX4_compareAuthors_71 ?_
      refine x_isub C dX4_compareAuthors_72 ?_
      exact x_iret C dX4_compareAuthors_73 (Option.some.inj hF) rfl
    · replace hF := f_f hc hF
      refine x_aload_n C 0 dX4_compareAuthors_44 rfl rfl ?_
      refine x_getR C fc_X4 fl_X4_30 sh_1 (by decide) rfl dX4_compareAuthors_45 ?_
      refine x_iload_n C 1 dX4_compareAuthors_48 rfl rfl ?_
      refine x_iald C sh_8 hi1 dX4_compareAuthors_49 ?_
      refine x_aload_n C 0 dX4_compareAuthors_50 rfl rfl ?_
      refine x_getR C fc_X4 fl_X4_30 sh_1 (by decide) rfl dX4_compareAuthors_51 ?_
      refine x_iload_n C 2 dX4_compareAuthors_54 rfl rfl ?_
      refine x_iald C sh_8 hi2 dX4_compareAuthors_55 ?_
      refine x_isub C dX4_compareAuthors_56 ?_
      refine x_goto (tgt := 73) C dX4_compareAuthors_57 (by decide) ?_
      exact x_iret C dX4_compareAuthors_73 (Option.some.inj hF) rfl
  · replace hF := f_f hc hF
    refine x_aload_n C 0 dX4_compareAuthors_15 rfl rfl ?_
    refine x_getR C fc_X4 fl_X4_27 sh_1 (by decide) rfl dX4_compareAuthors_16 ?_
    refine x_iload_n C 1 dX4_compareAuthors_19 rfl rfl ?_
    refine x_iald C sh_7 hi1 dX4_compareAuthors_20 ?_
    refine x_aload_n C 0 dX4_compareAuthors_21 rfl rfl ?_
    refine x_getR C fc_X4 fl_X4_27 sh_1 (by decide) rfl dX4_compareAuthors_22 ?_
    refine x_iload_n C 2 dX4_compareAuthors_25 rfl rfl ?_
    refine x_iald C sh_7 hi2 dX4_compareAuthors_26 ?_
    refine x_isub C dX4_compareAuthors_27 ?_
    exact x_iret C dX4_compareAuthors_28 (Option.some.inj hF) rfl
set_option maxHeartbeats 4000000 in
theorem c_X4_compareAuthors {G : Gl} (l : Launch) (hA : Ap G) {r : Int32}  (x1 : Int32) (x2 : Int32) (μ : Mu) (hF : f_X4_compareAuthors x1 x2 μ = some r) : Mth G l yX4_compareAuthors cX4_compareAuthors 3 (some .int) 0 0 [.ref (G.ad 1), .int x1, .int x2] (some (.int r)) μ μ := Mth.of hA (by decide) rfl (Nat.le_of_ble_eq_true rfl) (fun p e s0 m args below meth c C => w_X4_compareAuthors C x1 x2 μ hF)
set_option maxHeartbeats 4000000 in
theorem w_X4_firstFamily {G : Gl} {p : Program} {l : Launch} {e : Env} {s0 : State} {m : MethodId} {args : Array Value} {below : List Frame} {meth : Method} {c : Code} (C : Cx G p s0 m args meth c cX4_firstFamily 2 RX4 (some .int)) {r : Int32}  (x1 : Int32) (μ : Mu) (hF : f_X4_firstFamily x1 μ = some r) : X G p l e 0 0 s0 m args below meth c 2 (some (.int r)) μ μ 0 [(0, .ref (G.ad 1)), (1, .int x1)] [] := by
  unfold f_X4_firstFamily at hF
  refine x_aload_n C 0 dX4_firstFamily_0 rfl rfl ?_
  refine x_getR C fc_X4 fl_X4_27 sh_1 (by decide) rfl dX4_firstFamily_1 ?_
  refine x_iload_n C 1 dX4_firstFamily_4 rfl rfl ?_
  refine x_iconst (v := 4) C dX4_firstFamily_5 (by decide) ?_
  refine x_imul C dX4_firstFamily_6 ?_
  obtain ⟨hi1, hF⟩ := f_chk hF
  refine x_iald C sh_7 hi1 dX4_firstFamily_7 ?_
  exact x_iret C dX4_firstFamily_8 (Option.some.inj hF) rfl
set_option maxHeartbeats 4000000 in
theorem c_X4_firstFamily {G : Gl} (l : Launch) (hA : Ap G) {r : Int32}  (x1 : Int32) (μ : Mu) (hF : f_X4_firstFamily x1 μ = some r) : Mth G l yX4_firstFamily cX4_firstFamily 2 (some .int) 0 0 [.ref (G.ad 1), .int x1] (some (.int r)) μ μ := Mth.of hA (by decide) rfl (Nat.le_of_ble_eq_true rfl) (fun p e s0 m args below meth c C => w_X4_firstFamily C x1 μ hF)
set_option maxHeartbeats 4000000 in
theorem w_X4_has {G : Gl} {p : Program} {l : Launch} {e : Env} {s0 : State} {m : MethodId} {args : Array Value} {below : List Frame} {meth : Method} {c : Code} (C : Cx G p s0 m args meth c cX4_has 2 RX4 (some .boolean)) {r : Int32}  (x1 : Int32) (μ : Mu) (hF : f_X4_has x1 μ = r) : X G p l e 0 0 s0 m args below meth c 2 (some (.int r)) μ μ 0 [(0, .ref (G.ad 1)), (1, .int x1)] [] := by
  unfold f_X4_has at hF
  refine x_iload_n C 1 dX4_has_0 rfl rfl ?_
  refine x_if_lt (tgt := 16) C dX4_has_1 (by decide) (fun hc => ?_) (fun hc => ?_)
  · replace hF := f_t hc hF
    refine x_iconst (v := 0) C dX4_has_16 (by decide) ?_
    exact x_zret C dX4_has_17 (by decide) hF rfl
  · replace hF := f_f hc hF
    refine x_iload_n C 1 dX4_has_4 rfl rfl ?_
    refine x_aload_n C 0 dX4_has_5 rfl rfl ?_
    refine x_getI C fc_X4 fl_X4_36 sh_1 (by decide) rfl dX4_has_6 ?_
    refine x_icmp_ge (tgt := 16) C dX4_has_9 (by decide) (fun hc => ?_) (fun hc => ?_)
    · replace hF := f_t hc hF
      refine x_iconst (v := 0) C dX4_has_16 (by decide) ?_
      exact x_zret C dX4_has_17 (by decide) hF rfl
    · replace hF := f_f hc hF
      refine x_iconst (v := 1) C dX4_has_12 (by decide) ?_
      refine x_goto (tgt := 17) C dX4_has_13 (by decide) ?_
      exact x_zret C dX4_has_17 (by decide) hF rfl
set_option maxHeartbeats 4000000 in
theorem c_X4_has {G : Gl} (l : Launch) (hA : Ap G) (x1 : Int32) (μ : Mu) : Mth G l yX4_has cX4_has 2 (some .boolean) 0 0 [.ref (G.ad 1), .int x1] (some (.int (f_X4_has x1 μ))) μ μ := Mth.of hA (by decide) rfl (Nat.le_of_ble_eq_true rfl) (fun p e s0 m args below meth c C => w_X4_has C x1 μ rfl)
set_option maxHeartbeats 4000000 in
theorem w_X4_initialsOf {G : Gl} {p : Program} {l : Launch} {e : Env} {s0 : State} {m : MethodId} {args : Array Value} {below : List Frame} {meth : Method} {c : Code} (C : Cx G p s0 m args meth c cX4_initialsOf 3 RX4 (some .int)) {r : Int32}  (x1 : Int32) (μ : Mu) (hF : f_X4_initialsOf x1 μ = some r) : X G p l e 0 0 s0 m args below meth c 3 (some (.int r)) μ μ 0 [(0, .ref (G.ad 1)), (1, .int x1)] [] := by
  unfold f_X4_initialsOf at hF
  refine x_iload_n C 1 dX4_initialsOf_0 rfl rfl ?_
  refine x_iconst (v := 4) C dX4_initialsOf_1 (by decide) ?_
  refine x_imul C dX4_initialsOf_2 ?_
  refine x_letI hF (fun y1 hF => ?_)
  refine x_istore_n C [(2, .int y1), (0, .ref (G.ad 1)), (1, .int x1)] dX4_initialsOf_3 rfl (by decide) rfl ?_
  refine x_aload_n C 1 dX4_initialsOf_4 rfl rfl ?_
  refine x_getR C fc_X4 fl_X4_30 sh_1 (by decide) rfl dX4_initialsOf_5 ?_
  refine x_iload_n C 0 dX4_initialsOf_8 rfl rfl ?_
  obtain ⟨hi2, hF⟩ := f_chk hF
  refine x_iald C sh_8 hi2 dX4_initialsOf_9 ?_
  refine x_if_eq (tgt := 17) C dX4_initialsOf_10 (by decide) (fun hc => ?_) (fun hc => ?_)
  · replace hF := f_t hc hF
    refine x_iconst (v := 0) C dX4_initialsOf_17 (by decide) ?_
    refine x_aload_n C 1 dX4_initialsOf_18 rfl rfl ?_
    refine x_getR C fc_X4 fl_X4_33 sh_1 (by decide) rfl dX4_initialsOf_19 ?_
    refine x_iload_n C 0 dX4_initialsOf_22 rfl rfl ?_
    refine x_iald C sh_9 hi2 dX4_initialsOf_23 ?_
    refine x_if_eq (tgt := 31) C dX4_initialsOf_24 (by decide) (fun hc => ?_) (fun hc => ?_)
    · replace hF := f_t hc hF
      refine x_iconst (v := 0) C dX4_initialsOf_31 (by decide) ?_
      refine x_iadd C dX4_initialsOf_32 ?_
      exact x_iret C dX4_initialsOf_33 (Option.some.inj hF) rfl
    · replace hF := f_f hc hF
      refine x_iconst (v := 1) C dX4_initialsOf_27 (by decide) ?_
      refine x_goto (tgt := 32) C dX4_initialsOf_28 (by decide) ?_
      refine x_iadd C dX4_initialsOf_32 ?_
      exact x_iret C dX4_initialsOf_33 (Option.some.inj hF) rfl
  · replace hF := f_f hc hF
    refine x_iconst (v := 1) C dX4_initialsOf_13 (by decide) ?_
    refine x_goto (tgt := 18) C dX4_initialsOf_14 (by decide) ?_
    refine x_aload_n C 1 dX4_initialsOf_18 rfl rfl ?_
    refine x_getR C fc_X4 fl_X4_33 sh_1 (by decide) rfl dX4_initialsOf_19 ?_
    refine x_iload_n C 0 dX4_initialsOf_22 rfl rfl ?_
    refine x_iald C sh_9 hi2 dX4_initialsOf_23 ?_
    refine x_if_eq (tgt := 31) C dX4_initialsOf_24 (by decide) (fun hc => ?_) (fun hc => ?_)
    · replace hF := f_t hc hF
      refine x_iconst (v := 0) C dX4_initialsOf_31 (by decide) ?_
      refine x_iadd C dX4_initialsOf_32 ?_
      exact x_iret C dX4_initialsOf_33 (Option.some.inj hF) rfl
    · replace hF := f_f hc hF
      refine x_iconst (v := 1) C dX4_initialsOf_27 (by decide) ?_
      refine x_goto (tgt := 32) C dX4_initialsOf_28 (by decide) ?_
      refine x_iadd C dX4_initialsOf_32 ?_
      exact x_iret C dX4_initialsOf_33 (Option.some.inj hF) rfl
set_option maxHeartbeats 4000000 in
theorem c_X4_initialsOf {G : Gl} (l : Launch) (hA : Ap G) {r : Int32}  (x1 : Int32) (μ : Mu) (hF : f_X4_initialsOf x1 μ = some r) : Mth G l yX4_initialsOf cX4_initialsOf 3 (some .int) 0 0 [.ref (G.ad 1), .int x1] (some (.int r)) μ μ := Mth.of hA (by decide) rfl (Nat.le_of_ble_eq_true rfl) (fun p e s0 m args below meth c C => w_X4_initialsOf C x1 μ hF)
set_option maxHeartbeats 4000000 in
theorem w_X4_isAhead_L60 {G : Gl} {p : Program} {l : Launch} {e : Env} {s0 : State} {m : MethodId} {args : Array Value} {below : List Frame} {meth : Method} {c : Code} (C : Cx G p s0 m args meth c cX4_isAhead 7 RX4 (some .boolean)) {r : Int32}  (μ : Mu) : ∀ (n : Nat) (x1 : Int32) (x2 : Int32) (x4 : Int32) (x5 : Int32), f_X4_isAhead_L60 μ n x1 x2 x4 x5 = some r → X G p l e 1 40 s0 m args below meth c 7 (some (.int r)) μ μ 60 [(0, .ref (G.ad 1)), (1, .int x1), (2, .int x2), (4, .int x4), (5, .int x5)] [] := by
  intro n
  induction n with
  | zero =>
    intro x1 x2 x4 x5 hF
    rw [f_X4_isAhead_L60] at hF
    cases hF
  | succ n ih =>
    intro x1 x2 x4 x5 hF
    rw [f_X4_isAhead_L60] at hF
    refine x_iload C 4 dX4_isAhead_60 rfl ?_
    refine x_iload C 3 dX4_isAhead_62 rfl ?_
    refine x_icmp_ge (tgt := 107) C dX4_isAhead_64 (by decide) (fun hc => ?_) (fun hc => ?_)
    · replace hF := f_t hc hF
      refine x_aload_n C 0 dX4_isAhead_107 rfl rfl ?_
      refine x_getR C fc_X4 fl_X4_9 sh_1 (by decide) rfl dX4_isAhead_108 ?_
      refine x_iload_n C 1 dX4_isAhead_111 rfl rfl ?_
      obtain ⟨hi1, hF⟩ := f_chk hF
      refine x_iald C sh_2 hi1 dX4_isAhead_112 ?_
      refine x_aload_n C 0 dX4_isAhead_113 rfl rfl ?_
      refine x_getR C fc_X4 fl_X4_9 sh_1 (by decide) rfl dX4_isAhead_114 ?_
      refine x_iload_n C 2 dX4_isAhead_117 rfl rfl ?_
      obtain ⟨hi2, hF⟩ := f_chk hF
      refine x_iald C sh_2 hi2 dX4_isAhead_118 ?_
      refine x_icmp_eq (tgt := 143) C dX4_isAhead_119 (by decide) (fun hc => ?_) (fun hc => ?_)
      · replace hF := f_t hc hF
        refine x_aload_n C 0 dX4_isAhead_143 rfl rfl ?_
        refine x_getR C fc_X4 fl_X4_15 sh_1 (by decide) rfl dX4_isAhead_144 ?_
        refine x_iload_n C 1 dX4_isAhead_147 rfl rfl ?_
        refine x_iald C sh_3 hi1 dX4_isAhead_148 ?_
        refine x_aload_n C 0 dX4_isAhead_149 rfl rfl ?_
        refine x_getR C fc_X4 fl_X4_15 sh_1 (by decide) rfl dX4_isAhead_150 ?_
        refine x_iload_n C 2 dX4_isAhead_153 rfl rfl ?_
        refine x_iald C sh_3 hi2 dX4_isAhead_154 ?_
        refine x_icmp_eq (tgt := 179) C dX4_isAhead_155 (by decide) (fun hc => ?_) (fun hc => ?_)
        · replace hF := f_t hc hF
          refine x_aload_n C 0 dX4_isAhead_179 rfl rfl ?_
          refine x_getR C fc_X4 fl_X4_18 sh_1 (by decide) rfl dX4_isAhead_180 ?_
          refine x_iload_n C 1 dX4_isAhead_183 rfl rfl ?_
          refine x_iald C sh_4 hi1 dX4_isAhead_184 ?_
          refine x_aload_n C 0 dX4_isAhead_185 rfl rfl ?_
          refine x_getR C fc_X4 fl_X4_18 sh_1 (by decide) rfl dX4_isAhead_186 ?_
          refine x_iload_n C 2 dX4_isAhead_189 rfl rfl ?_
          refine x_iald C sh_4 hi2 dX4_isAhead_190 ?_
          refine x_icmp_eq (tgt := 217) C dX4_isAhead_191 (by decide) (fun hc => ?_) (fun hc => ?_)
          · replace hF := f_t hc hF
            refine x_iload_n C 1 dX4_isAhead_217 rfl rfl ?_
            refine x_iload_n C 2 dX4_isAhead_218 rfl rfl ?_
            refine x_icmp_ge (tgt := 226) C dX4_isAhead_219 (by decide) (fun hc => ?_) (fun hc => ?_)
            · replace hF := f_t hc hF
              refine x_iconst (v := 0) C dX4_isAhead_226 (by decide) ?_
              exact x_zret C dX4_isAhead_227 (by decide) (Option.some.inj hF) rfl
            · replace hF := f_f hc hF
              refine x_iconst (v := 1) C dX4_isAhead_222 (by decide) ?_
              refine x_goto (tgt := 227) C dX4_isAhead_223 (by decide) ?_
              exact x_zret C dX4_isAhead_227 (by decide) (Option.some.inj hF) rfl
          · replace hF := f_f hc hF
            refine x_aload_n C 0 dX4_isAhead_194 rfl rfl ?_
            refine x_getR C fc_X4 fl_X4_18 sh_1 (by decide) rfl dX4_isAhead_195 ?_
            refine x_iload_n C 1 dX4_isAhead_198 rfl rfl ?_
            refine x_iald C sh_4 hi1 dX4_isAhead_199 ?_
            refine x_aload_n C 0 dX4_isAhead_200 rfl rfl ?_
            refine x_getR C fc_X4 fl_X4_18 sh_1 (by decide) rfl dX4_isAhead_201 ?_
            refine x_iload_n C 2 dX4_isAhead_204 rfl rfl ?_
            refine x_iald C sh_4 hi2 dX4_isAhead_205 ?_
            refine x_icmp_ge (tgt := 213) C dX4_isAhead_206 (by decide) (fun hc => ?_) (fun hc => ?_)
            · replace hF := f_t hc hF
              refine x_iconst (v := 0) C dX4_isAhead_213 (by decide) ?_
              refine x_goto (tgt := 227) C dX4_isAhead_214 (by decide) ?_
              exact x_zret C dX4_isAhead_227 (by decide) (Option.some.inj hF) rfl
            · replace hF := f_f hc hF
              refine x_iconst (v := 1) C dX4_isAhead_209 (by decide) ?_
              refine x_goto (tgt := 227) C dX4_isAhead_210 (by decide) ?_
              exact x_zret C dX4_isAhead_227 (by decide) (Option.some.inj hF) rfl
        · replace hF := f_f hc hF
          refine x_aload_n C 0 dX4_isAhead_158 rfl rfl ?_
          refine x_getR C fc_X4 fl_X4_15 sh_1 (by decide) rfl dX4_isAhead_159 ?_
          refine x_iload_n C 1 dX4_isAhead_162 rfl rfl ?_
          refine x_iald C sh_3 hi1 dX4_isAhead_163 ?_
          refine x_aload_n C 0 dX4_isAhead_164 rfl rfl ?_
          refine x_getR C fc_X4 fl_X4_15 sh_1 (by decide) rfl dX4_isAhead_165 ?_
          refine x_iload_n C 2 dX4_isAhead_168 rfl rfl ?_
          refine x_iald C sh_3 hi2 dX4_isAhead_169 ?_
          refine x_icmp_ge (tgt := 177) C dX4_isAhead_170 (by decide) (fun hc => ?_) (fun hc => ?_)
          · replace hF := f_t hc hF
            refine x_iconst (v := 0) C dX4_isAhead_177 (by decide) ?_
            exact x_zret C dX4_isAhead_178 (by decide) (Option.some.inj hF) rfl
          · replace hF := f_f hc hF
            refine x_iconst (v := 1) C dX4_isAhead_173 (by decide) ?_
            refine x_goto (tgt := 178) C dX4_isAhead_174 (by decide) ?_
            exact x_zret C dX4_isAhead_178 (by decide) (Option.some.inj hF) rfl
      · replace hF := f_f hc hF
        refine x_aload_n C 0 dX4_isAhead_122 rfl rfl ?_
        refine x_getR C fc_X4 fl_X4_9 sh_1 (by decide) rfl dX4_isAhead_123 ?_
        refine x_iload_n C 1 dX4_isAhead_126 rfl rfl ?_
        refine x_iald C sh_2 hi1 dX4_isAhead_127 ?_
        refine x_aload_n C 0 dX4_isAhead_128 rfl rfl ?_
        refine x_getR C fc_X4 fl_X4_9 sh_1 (by decide) rfl dX4_isAhead_129 ?_
        refine x_iload_n C 2 dX4_isAhead_132 rfl rfl ?_
        refine x_iald C sh_2 hi2 dX4_isAhead_133 ?_
        refine x_icmp_ge (tgt := 141) C dX4_isAhead_134 (by decide) (fun hc => ?_) (fun hc => ?_)
        · replace hF := f_t hc hF
          refine x_iconst (v := 0) C dX4_isAhead_141 (by decide) ?_
          exact x_zret C dX4_isAhead_142 (by decide) (Option.some.inj hF) rfl
        · replace hF := f_f hc hF
          refine x_iconst (v := 1) C dX4_isAhead_137 (by decide) ?_
          refine x_goto (tgt := 142) C dX4_isAhead_138 (by decide) ?_
          exact x_zret C dX4_isAhead_142 (by decide) (Option.some.inj hF) rfl
    · replace hF := f_f hc hF
      refine x_aload_n C 0 dX4_isAhead_67 rfl rfl ?_
      refine x_iload_n C 1 dX4_isAhead_68 rfl rfl ?_
      refine x_iconst (v := 4) C dX4_isAhead_69 (by decide) ?_
      refine x_imul C dX4_isAhead_70 ?_
      refine x_iload C 4 dX4_isAhead_71 rfl ?_
      refine x_iadd C dX4_isAhead_73 ?_
      refine x_iload_n C 2 dX4_isAhead_74 rfl rfl ?_
      refine x_iconst (v := 4) C dX4_isAhead_75 (by decide) ?_
      refine x_imul C dX4_isAhead_76 ?_
      refine x_iload C 4 dX4_isAhead_77 rfl ?_
      refine x_iadd C dX4_isAhead_79 ?_
      obtain ⟨q3, hq3, hF⟩ := f_bind hF
      refine x_cVi (rest := []) C (c_X4_compareAuthors l C.2.2.2.2.2.2.2.2 ((x1 * 4) + x5) ((x2 * 4) + x5) μ hq3) cw_X4_46 sh_1 rfl rfl ⟨by decide, by decide⟩ rfl rfl (Nat.le_of_ble_eq_true rfl) dX4_isAhead_80 ?_
      refine x_istore C [(6, .int q3), (0, .ref (G.ad 1)), (1, .int x1), (2, .int x2), (4, .int x4), (5, .int x5)] dX4_isAhead_83 (by decide) rfl ?_
      refine x_iload C 0 dX4_isAhead_85 rfl ?_
      refine x_if_eq (tgt := 101) C dX4_isAhead_87 (by decide) (fun hc => ?_) (fun hc => ?_)
      · replace hF := f_t hc hF
        refine x_iinc C [(5, .int (x5 + 1)), (6, .int q3), (0, .ref (G.ad 1)), (1, .int x1), (2, .int x2), (4, .int x4)] 5 dX4_isAhead_101 rfl rfl (by decide) rfl ?_
        refine x_goto (tgt := 60) C dX4_isAhead_104 (by decide) ?_
        exact x_pick [(0, .ref (G.ad 1)), (1, .int x1), (2, .int x2), (4, .int x4), (5, .int (x5 + 1))] [2, 3, 4, 5, 0] rfl (ih x1 x2 x4 (x5 + 1) hF)
      · replace hF := f_f hc hF
        refine x_iload C 0 dX4_isAhead_90 rfl ?_
        refine x_if_ge (tgt := 99) C dX4_isAhead_92 (by decide) (fun hc => ?_) (fun hc => ?_)
        · replace hF := f_t hc hF
          refine x_iconst (v := 0) C dX4_isAhead_99 (by decide) ?_
          exact x_zret C dX4_isAhead_100 (by decide) (Option.some.inj hF) rfl
        · replace hF := f_f hc hF
          refine x_iconst (v := 1) C dX4_isAhead_95 (by decide) ?_
          refine x_goto (tgt := 100) C dX4_isAhead_96 (by decide) ?_
          exact x_zret C dX4_isAhead_100 (by decide) (Option.some.inj hF) rfl
set_option maxHeartbeats 4000000 in
theorem w_X4_isAhead_b40 {G : Gl} {p : Program} {l : Launch} {e : Env} {s0 : State} {m : MethodId} {args : Array Value} {below : List Frame} {meth : Method} {c : Code} (C : Cx G p s0 m args meth c cX4_isAhead 7 RX4 (some .boolean)) {r : Int32}  (μ : Mu) (x1 : Int32) (x2 : Int32) (hF : f_X4_isAhead_b40 μ x1 x2 = some r) : X G p l e 1 40 s0 m args below meth c 7 (some (.int r)) μ μ 40 [(0, .ref (G.ad 1)), (1, .int x1), (2, .int x2)] [] := by
  unfold f_X4_isAhead_b40 at hF
  refine x_aload_n C 0 dX4_isAhead_40 rfl rfl ?_
  refine x_getR C fc_X4 fl_X4_9 sh_1 (by decide) rfl dX4_isAhead_41 ?_
  refine x_iload_n C 1 dX4_isAhead_44 rfl rfl ?_
  obtain ⟨hi1, hF⟩ := f_chk hF
  refine x_iald C sh_2 hi1 dX4_isAhead_45 ?_
  refine x_aload_n C 0 dX4_isAhead_46 rfl rfl ?_
  refine x_getR C fc_X4 fl_X4_9 sh_1 (by decide) rfl dX4_isAhead_47 ?_
  refine x_iload_n C 2 dX4_isAhead_50 rfl rfl ?_
  obtain ⟨hi2, hF⟩ := f_chk hF
  refine x_iald C sh_2 hi2 dX4_isAhead_51 ?_
  refine x_min C cwM_X4_40 ⟨by decide, Nat.le_of_ble_eq_true rfl⟩ dX4_isAhead_52 ?_
  refine x_letI hF (fun y3 hF => ?_)
  refine x_istore C [(4, .int y3), (0, .ref (G.ad 1)), (1, .int x1), (2, .int x2)] dX4_isAhead_55 (by decide) rfl ?_
  refine x_iconst (v := 0) C dX4_isAhead_57 (by decide) ?_
  refine x_istore C [(5, .int 0), (4, .int y3), (0, .ref (G.ad 1)), (1, .int x1), (2, .int x2)] dX4_isAhead_58 (by decide) rfl ?_
  exact x_pick [(0, .ref (G.ad 1)), (1, .int x1), (2, .int x2), (4, .int y3), (5, .int 0)] [2, 3, 4, 1, 0] rfl (w_X4_isAhead_L60 C μ fu x1 x2 y3 0 hF)
set_option maxHeartbeats 4000000 in
theorem w_X4_isAhead {G : Gl} {p : Program} {l : Launch} {e : Env} {s0 : State} {m : MethodId} {args : Array Value} {below : List Frame} {meth : Method} {c : Code} (C : Cx G p s0 m args meth c cX4_isAhead 7 RX4 (some .boolean)) {r : Int32}  (x1 : Int32) (x2 : Int32) (x3 : Int32) (μ : Mu) (hF : f_X4_isAhead x1 x2 x3 μ = some r) : X G p l e 1 40 s0 m args below meth c 7 (some (.int r)) μ μ 0 [(0, .ref (G.ad 1)), (1, .int x1), (2, .int x2), (3, .int x3)] [] := by
  unfold f_X4_isAhead at hF
  refine x_iload_n C 3 dX4_isAhead_0 rfl rfl ?_
  refine x_if_eq (tgt := 40) C dX4_isAhead_1 (by decide) (fun hc => ?_) (fun hc => ?_)
  · replace hF := f_t hc hF
    exact x_pick [(0, .ref (G.ad 1)), (1, .int x1), (2, .int x2)] [0, 1, 2] rfl (w_X4_isAhead_b40 C μ x1 x2 hF)
  · replace hF := f_f hc hF
    refine x_aload_n C 0 dX4_isAhead_4 rfl rfl ?_
    refine x_getR C fc_X4 fl_X4_15 sh_1 (by decide) rfl dX4_isAhead_5 ?_
    refine x_iload_n C 1 dX4_isAhead_8 rfl rfl ?_
    obtain ⟨hi1, hF⟩ := f_chk hF
    refine x_iald C sh_3 hi1 dX4_isAhead_9 ?_
    refine x_aload_n C 0 dX4_isAhead_10 rfl rfl ?_
    refine x_getR C fc_X4 fl_X4_15 sh_1 (by decide) rfl dX4_isAhead_11 ?_
    refine x_iload_n C 2 dX4_isAhead_14 rfl rfl ?_
    obtain ⟨hi2, hF⟩ := f_chk hF
    refine x_iald C sh_3 hi2 dX4_isAhead_15 ?_
    refine x_icmp_eq (tgt := 40) C dX4_isAhead_16 (by decide) (fun hc => ?_) (fun hc => ?_)
    · replace hF := f_t hc hF
      exact x_pick [(0, .ref (G.ad 1)), (1, .int x1), (2, .int x2)] [0, 1, 2] rfl (w_X4_isAhead_b40 C μ x1 x2 hF)
    · replace hF := f_f hc hF
      refine x_aload_n C 0 dX4_isAhead_19 rfl rfl ?_
      refine x_getR C fc_X4 fl_X4_15 sh_1 (by decide) rfl dX4_isAhead_20 ?_
      refine x_iload_n C 1 dX4_isAhead_23 rfl rfl ?_
      refine x_iald C sh_3 hi1 dX4_isAhead_24 ?_
      refine x_aload_n C 0 dX4_isAhead_25 rfl rfl ?_
      refine x_getR C fc_X4 fl_X4_15 sh_1 (by decide) rfl dX4_isAhead_26 ?_
      refine x_iload_n C 2 dX4_isAhead_29 rfl rfl ?_
      refine x_iald C sh_3 hi2 dX4_isAhead_30 ?_
      refine x_icmp_ge (tgt := 38) C dX4_isAhead_31 (by decide) (fun hc => ?_) (fun hc => ?_)
      · replace hF := f_t hc hF
        refine x_iconst (v := 0) C dX4_isAhead_38 (by decide) ?_
        exact x_zret C dX4_isAhead_39 (by decide) (Option.some.inj hF) rfl
      · replace hF := f_f hc hF
        refine x_iconst (v := 1) C dX4_isAhead_34 (by decide) ?_
        refine x_goto (tgt := 39) C dX4_isAhead_35 (by decide) ?_
        exact x_zret C dX4_isAhead_39 (by decide) (Option.some.inj hF) rfl
set_option maxHeartbeats 4000000 in
theorem c_X4_isAhead {G : Gl} (l : Launch) (hA : Ap G) {r : Int32}  (x1 : Int32) (x2 : Int32) (x3 : Int32) (μ : Mu) (hF : f_X4_isAhead x1 x2 x3 μ = some r) : Mth G l yX4_isAhead cX4_isAhead 7 (some .boolean) 1 40 [.ref (G.ad 1), .int x1, .int x2, .int x3] (some (.int r)) μ μ := Mth.of hA (by decide) rfl (Nat.le_of_ble_eq_true rfl) (fun p e s0 m args below meth c C => w_X4_isAhead C x1 x2 x3 μ hF)
set_option maxHeartbeats 4000000 in
theorem w_X4_isBeyond {G : Gl} {p : Program} {l : Launch} {e : Env} {s0 : State} {m : MethodId} {args : Array Value} {below : List Frame} {meth : Method} {c : Code} (C : Cx G p s0 m args meth c cX4_isBeyond 3 RX4 (some .boolean)) {r : Int32}  (x1 : Int32) (x2 : Int32) (μ : Mu) (hF : f_X4_isBeyond x1 x2 μ = some r) : X G p l e 0 0 s0 m args below meth c 3 (some (.int r)) μ μ 0 [(0, .ref (G.ad 1)), (1, .int x1), (2, .int x2)] [] := by
  unfold f_X4_isBeyond at hF
  refine x_aload_n C 0 dX4_isBeyond_0 rfl rfl ?_
  refine x_getR C fc_X4 fl_X4_9 sh_1 (by decide) rfl dX4_isBeyond_1 ?_
  refine x_iload_n C 1 dX4_isBeyond_4 rfl rfl ?_
  obtain ⟨hi1, hF⟩ := f_chk hF
  refine x_iald C sh_2 hi1 dX4_isBeyond_5 ?_
  refine x_iload_n C 2 dX4_isBeyond_6 rfl rfl ?_
  refine x_icmp_le (tgt := 14) C dX4_isBeyond_7 (by decide) (fun hc => ?_) (fun hc => ?_)
  · replace hF := f_t hc hF
    refine x_iconst (v := 0) C dX4_isBeyond_14 (by decide) ?_
    exact x_zret C dX4_isBeyond_15 (by decide) (Option.some.inj hF) rfl
  · replace hF := f_f hc hF
    refine x_iconst (v := 1) C dX4_isBeyond_10 (by decide) ?_
    refine x_goto (tgt := 15) C dX4_isBeyond_11 (by decide) ?_
    exact x_zret C dX4_isBeyond_15 (by decide) (Option.some.inj hF) rfl
set_option maxHeartbeats 4000000 in
theorem c_X4_isBeyond {G : Gl} (l : Launch) (hA : Ap G) {r : Int32}  (x1 : Int32) (x2 : Int32) (μ : Mu) (hF : f_X4_isBeyond x1 x2 μ = some r) : Mth G l yX4_isBeyond cX4_isBeyond 3 (some .boolean) 0 0 [.ref (G.ad 1), .int x1, .int x2] (some (.int r)) μ μ := Mth.of hA (by decide) rfl (Nat.le_of_ble_eq_true rfl) (fun p e s0 m args below meth c C => w_X4_isBeyond C x1 x2 μ hF)
set_option maxHeartbeats 4000000 in
theorem w_X4_isLike_L96 {G : Gl} {p : Program} {l : Launch} {e : Env} {s0 : State} {m : MethodId} {args : Array Value} {below : List Frame} {meth : Method} {c : Code} (C : Cx G p s0 m args meth c cX4_isLike 7 RX4 (some .boolean)) {r : Int32}  (μ : Mu) : ∀ (n : Nat) (x1 : Int32) (x2 : Int32) (x5 : Int32) (x6 : Int32), f_X4_isLike_L96 μ n x1 x2 x5 x6 = some r → X G p l e 0 0 s0 m args below meth c 7 (some (.int r)) μ μ 96 [(0, .ref (G.ad 1)), (1, .int x1), (2, .int x2), (5, .int x5), (6, .int x6)] [] := by
  intro n
  induction n with
  | zero =>
    intro x1 x2 x5 x6 hF
    rw [f_X4_isLike_L96] at hF
    cases hF
  | succ n ih =>
    intro x1 x2 x5 x6 hF
    rw [f_X4_isLike_L96] at hF
    refine x_iload C 4 dX4_isLike_96 rfl ?_
    refine x_iload C 3 dX4_isLike_98 rfl ?_
    refine x_icmp_ge (tgt := 136) C dX4_isLike_100 (by decide) (fun hc => ?_) (fun hc => ?_)
    · replace hF := f_t hc hF
      refine x_iconst (v := 1) C dX4_isLike_136 (by decide) ?_
      exact x_zret C dX4_isLike_137 (by decide) (Option.some.inj hF) rfl
    · replace hF := f_f hc hF
      refine x_aload_n C 0 dX4_isLike_103 rfl rfl ?_
      refine x_getR C fc_X4 fl_X4_27 sh_1 (by decide) rfl dX4_isLike_104 ?_
      refine x_iload_n C 1 dX4_isLike_107 rfl rfl ?_
      refine x_iconst (v := 4) C dX4_isLike_108 (by decide) ?_
      refine x_imul C dX4_isLike_109 ?_
      refine x_iload C 4 dX4_isLike_110 rfl ?_
      refine x_iadd C dX4_isLike_112 ?_
      obtain ⟨hi1, hF⟩ := f_chk hF
      refine x_iald C sh_7 hi1 dX4_isLike_113 ?_
      refine x_aload_n C 0 dX4_isLike_114 rfl rfl ?_
      refine x_getR C fc_X4 fl_X4_27 sh_1 (by decide) rfl dX4_isLike_115 ?_
      refine x_iload_n C 2 dX4_isLike_118 rfl rfl ?_
      refine x_iconst (v := 4) C dX4_isLike_119 (by decide) ?_
      refine x_imul C dX4_isLike_120 ?_
      refine x_iload C 4 dX4_isLike_121 rfl ?_
      refine x_iadd C dX4_isLike_123 ?_
      obtain ⟨hi2, hF⟩ := f_chk hF
      refine x_iald C sh_7 hi2 dX4_isLike_124 ?_
      refine x_icmp_eq (tgt := 130) C dX4_isLike_125 (by decide) (fun hc => ?_) (fun hc => ?_)
      · replace hF := f_t hc hF
        refine x_iinc C [(6, .int (x6 + 1)), (0, .ref (G.ad 1)), (1, .int x1), (2, .int x2), (5, .int x5)] 4 dX4_isLike_130 rfl rfl (by decide) rfl ?_
        refine x_goto (tgt := 96) C dX4_isLike_133 (by decide) ?_
        exact x_pick [(0, .ref (G.ad 1)), (1, .int x1), (2, .int x2), (5, .int x5), (6, .int (x6 + 1))] [1, 2, 3, 4, 0] rfl (ih x1 x2 x5 (x6 + 1) hF)
      · replace hF := f_f hc hF
        refine x_iconst (v := 0) C dX4_isLike_128 (by decide) ?_
        exact x_zret C dX4_isLike_129 (by decide) (Option.some.inj hF) rfl
set_option maxHeartbeats 4000000 in
theorem w_X4_isLike_b76 {G : Gl} {p : Program} {l : Launch} {e : Env} {s0 : State} {m : MethodId} {args : Array Value} {below : List Frame} {meth : Method} {c : Code} (C : Cx G p s0 m args meth c cX4_isLike 7 RX4 (some .boolean)) {r : Int32}  (μ : Mu) (x1 : Int32) (x2 : Int32) (x3 : Int32) (x4 : Int32) (hF : f_X4_isLike_b76 μ x1 x2 x3 x4 = some r) : X G p l e 0 0 s0 m args below meth c 7 (some (.int r)) μ μ 76 [(0, .ref (G.ad 1)), (1, .int x1), (2, .int x2), (3, .int x3), (4, .int x4)] [] := by
  unfold f_X4_isLike_b76 at hF
  refine x_iload C 4 dX4_isLike_76 rfl ?_
  refine x_if_eq (tgt := 85) C dX4_isLike_78 (by decide) (fun hc => ?_) (fun hc => ?_)
  · replace hF := f_t hc hF
    refine x_aload_n C 0 dX4_isLike_85 rfl rfl ?_
    refine x_getR C fc_X4 fl_X4_9 sh_1 (by decide) rfl dX4_isLike_86 ?_
    refine x_iload_n C 1 dX4_isLike_89 rfl rfl ?_
    obtain ⟨hi1, hF⟩ := f_chk hF
    refine x_iald C sh_2 hi1 dX4_isLike_90 ?_
    refine x_letI hF (fun y2 hF => ?_)
    refine x_istore C [(5, .int y2), (0, .ref (G.ad 1)), (1, .int x1), (2, .int x2), (3, .int x3), (4, .int x4)] dX4_isLike_91 (by decide) rfl ?_
    refine x_iconst (v := 0) C dX4_isLike_93 (by decide) ?_
    refine x_istore C [(6, .int 0), (5, .int y2), (0, .ref (G.ad 1)), (1, .int x1), (2, .int x2), (3, .int x3), (4, .int x4)] dX4_isLike_94 (by decide) rfl ?_
    exact x_pick [(0, .ref (G.ad 1)), (1, .int x1), (2, .int x2), (5, .int y2), (6, .int 0)] [2, 3, 4, 1, 0] rfl (w_X4_isLike_L96 C μ fu x1 x2 y2 0 hF)
  · replace hF := f_f hc hF
    refine x_iload_n C 3 dX4_isLike_81 rfl rfl ?_
    refine x_goto (tgt := 91) C dX4_isLike_82 (by decide) ?_
    refine x_istore C [(5, .int x3), (0, .ref (G.ad 1)), (1, .int x1), (2, .int x2), (3, .int x3), (4, .int x4)] dX4_isLike_91 (by decide) rfl ?_
    refine x_iconst (v := 0) C dX4_isLike_93 (by decide) ?_
    refine x_istore C [(6, .int 0), (5, .int x3), (0, .ref (G.ad 1)), (1, .int x1), (2, .int x2), (3, .int x3), (4, .int x4)] dX4_isLike_94 (by decide) rfl ?_
    exact x_pick [(0, .ref (G.ad 1)), (1, .int x1), (2, .int x2), (5, .int x3), (6, .int 0)] [2, 3, 4, 1, 0] rfl (w_X4_isLike_L96 C μ fu x1 x2 x3 0 hF)
set_option maxHeartbeats 4000000 in
theorem w_X4_isLike_b49 {G : Gl} {p : Program} {l : Launch} {e : Env} {s0 : State} {m : MethodId} {args : Array Value} {below : List Frame} {meth : Method} {c : Code} (C : Cx G p s0 m args meth c cX4_isLike 7 RX4 (some .boolean)) {r : Int32}  (μ : Mu) (x1 : Int32) (x2 : Int32) (x3 : Int32) (x4 : Int32) (t0 : Int32) (t1 : Int32) (hF : f_X4_isLike_b49 μ x1 x2 x3 x4 t0 t1 = some r) : X G p l e 0 0 s0 m args below meth c 7 (some (.int r)) μ μ 49 [(0, .ref (G.ad 1)), (1, .int x1), (2, .int x2), (3, .int x3), (4, .int x4)] [.int t1, .int t0] := by
  unfold f_X4_isLike_b49 at hF
  refine x_icmp_eq (tgt := 54) C dX4_isLike_49 (by decide) (fun hc => ?_) (fun hc => ?_)
  · replace hF := f_t hc hF
    refine x_iload C 4 dX4_isLike_54 rfl ?_
    refine x_if_ne (tgt := 76) C dX4_isLike_56 (by decide) (fun hc => ?_) (fun hc => ?_)
    · replace hF := f_f hc hF
      exact x_pick [(0, .ref (G.ad 1)), (1, .int x1), (2, .int x2), (3, .int x3), (4, .int x4)] [0, 1, 2, 3, 4] rfl (w_X4_isLike_b76 C μ x1 x2 x3 x4 hF)
    · replace hF := f_t hc hF
      refine x_aload_n C 0 dX4_isLike_59 rfl rfl ?_
      refine x_getR C fc_X4 fl_X4_9 sh_1 (by decide) rfl dX4_isLike_60 ?_
      refine x_iload_n C 1 dX4_isLike_63 rfl rfl ?_
      obtain ⟨hi1, hF⟩ := f_chk hF
      refine x_iald C sh_2 hi1 dX4_isLike_64 ?_
      refine x_aload_n C 0 dX4_isLike_65 rfl rfl ?_
      refine x_getR C fc_X4 fl_X4_9 sh_1 (by decide) rfl dX4_isLike_66 ?_
      refine x_iload_n C 2 dX4_isLike_69 rfl rfl ?_
      obtain ⟨hi2, hF⟩ := f_chk hF
      refine x_iald C sh_2 hi2 dX4_isLike_70 ?_
      refine x_icmp_eq (tgt := 76) C dX4_isLike_71 (by decide) (fun hc => ?_) (fun hc => ?_)
      · replace hF := f_t hc hF
        exact x_pick [(0, .ref (G.ad 1)), (1, .int x1), (2, .int x2), (3, .int x3), (4, .int x4)] [0, 1, 2, 3, 4] rfl (w_X4_isLike_b76 C μ x1 x2 x3 x4 hF)
      · replace hF := f_f hc hF
        refine x_iconst (v := 0) C dX4_isLike_74 (by decide) ?_
        exact x_zret C dX4_isLike_75 (by decide) (Option.some.inj hF) rfl
  · replace hF := f_f hc hF
    refine x_iconst (v := 0) C dX4_isLike_52 (by decide) ?_
    exact x_zret C dX4_isLike_53 (by decide) (Option.some.inj hF) rfl
set_option maxHeartbeats 4000000 in
theorem w_X4_isLike_b15 {G : Gl} {p : Program} {l : Launch} {e : Env} {s0 : State} {m : MethodId} {args : Array Value} {below : List Frame} {meth : Method} {c : Code} (C : Cx G p s0 m args meth c cX4_isLike 7 RX4 (some .boolean)) {r : Int32}  (μ : Mu) (x1 : Int32) (x2 : Int32) (x3 : Int32) (t0 : Int32) (hF : f_X4_isLike_b15 μ x1 x2 x3 t0 = some r) : X G p l e 0 0 s0 m args below meth c 7 (some (.int r)) μ μ 15 [(0, .ref (G.ad 1)), (1, .int x1), (2, .int x2), (3, .int x3)] [.int t0] := by
  unfold f_X4_isLike_b15 at hF
  refine x_istore C [(4, .int t0), (0, .ref (G.ad 1)), (1, .int x1), (2, .int x2), (3, .int x3)] dX4_isLike_15 (by decide) rfl ?_
  refine x_aload_n C 1 dX4_isLike_17 rfl rfl ?_
  refine x_getR C fc_X4 fl_X4_15 sh_1 (by decide) rfl dX4_isLike_18 ?_
  refine x_iload_n C 2 dX4_isLike_21 rfl rfl ?_
  obtain ⟨hi1, hF⟩ := f_chk hF
  refine x_iald C sh_3 hi1 dX4_isLike_22 ?_
  refine x_aload_n C 1 dX4_isLike_23 rfl rfl ?_
  refine x_getR C fc_X4 fl_X4_15 sh_1 (by decide) rfl dX4_isLike_24 ?_
  refine x_iload_n C 3 dX4_isLike_27 rfl rfl ?_
  obtain ⟨hi2, hF⟩ := f_chk hF
  refine x_iald C sh_3 hi2 dX4_isLike_28 ?_
  refine x_icmp_ne (tgt := 52) C dX4_isLike_29 (by decide) (fun hc => ?_) (fun hc => ?_)
  · replace hF := f_f hc hF
    refine x_iconst (v := 0) C dX4_isLike_52 (by decide) ?_
    exact x_zret C dX4_isLike_53 (by decide) (Option.some.inj hF) rfl
  · replace hF := f_t hc hF
    refine x_iload C 0 dX4_isLike_32 rfl ?_
    refine x_aload_n C 1 dX4_isLike_34 rfl rfl ?_
    refine x_getR C fc_X4 fl_X4_9 sh_1 (by decide) rfl dX4_isLike_35 ?_
    refine x_iload_n C 3 dX4_isLike_38 rfl rfl ?_
    refine x_iald C sh_2 hi2 dX4_isLike_39 ?_
    refine x_iload_n C 4 dX4_isLike_40 rfl rfl ?_
    refine x_icmp_le (tgt := 48) C dX4_isLike_41 (by decide) (fun hc => ?_) (fun hc => ?_)
    · replace hF := f_t hc hF
      refine x_iconst (v := 0) C dX4_isLike_48 (by decide) ?_
      exact x_pick [(0, .ref (G.ad 1)), (1, .int x1), (2, .int x2), (3, .int x3), (4, .int t0)] [1, 2, 3, 4, 0] rfl (w_X4_isLike_b49 C μ x1 x2 x3 t0 t0 0 hF)
    · replace hF := f_f hc hF
      refine x_iconst (v := 1) C dX4_isLike_44 (by decide) ?_
      refine x_goto (tgt := 49) C dX4_isLike_45 (by decide) ?_
      exact x_pick [(0, .ref (G.ad 1)), (1, .int x1), (2, .int x2), (3, .int x3), (4, .int t0)] [1, 2, 3, 4, 0] rfl (w_X4_isLike_b49 C μ x1 x2 x3 t0 t0 1 hF)
set_option maxHeartbeats 4000000 in
theorem w_X4_isLike {G : Gl} {p : Program} {l : Launch} {e : Env} {s0 : State} {m : MethodId} {args : Array Value} {below : List Frame} {meth : Method} {c : Code} (C : Cx G p s0 m args meth c cX4_isLike 7 RX4 (some .boolean)) {r : Int32}  (x1 : Int32) (x2 : Int32) (x3 : Int32) (μ : Mu) (hF : f_X4_isLike x1 x2 x3 μ = some r) : X G p l e 0 0 s0 m args below meth c 7 (some (.int r)) μ μ 0 [(0, .ref (G.ad 1)), (1, .int x1), (2, .int x2), (3, .int x3)] [] := by
  unfold f_X4_isLike at hF
  refine x_aload_n C 0 dX4_isLike_0 rfl rfl ?_
  refine x_getR C fc_X4 fl_X4_9 sh_1 (by decide) rfl dX4_isLike_1 ?_
  refine x_iload_n C 1 dX4_isLike_4 rfl rfl ?_
  obtain ⟨hi1, hF⟩ := f_chk hF
  refine x_iald C sh_2 hi1 dX4_isLike_5 ?_
  refine x_iload_n C 3 dX4_isLike_6 rfl rfl ?_
  refine x_icmp_le (tgt := 14) C dX4_isLike_7 (by decide) (fun hc => ?_) (fun hc => ?_)
  · replace hF := f_t hc hF
    refine x_iconst (v := 0) C dX4_isLike_14 (by decide) ?_
    exact x_pick [(0, .ref (G.ad 1)), (1, .int x1), (2, .int x2), (3, .int x3)] [0, 1, 2, 3] rfl (w_X4_isLike_b15 C μ x1 x2 x3 0 hF)
  · replace hF := f_f hc hF
    refine x_iconst (v := 1) C dX4_isLike_10 (by decide) ?_
    refine x_goto (tgt := 15) C dX4_isLike_11 (by decide) ?_
    exact x_pick [(0, .ref (G.ad 1)), (1, .int x1), (2, .int x2), (3, .int x3)] [0, 1, 2, 3] rfl (w_X4_isLike_b15 C μ x1 x2 x3 1 hF)
set_option maxHeartbeats 4000000 in
theorem c_X4_isLike {G : Gl} (l : Launch) (hA : Ap G) {r : Int32}  (x1 : Int32) (x2 : Int32) (x3 : Int32) (μ : Mu) (hF : f_X4_isLike x1 x2 x3 μ = some r) : Mth G l yX4_isLike cX4_isLike 7 (some .boolean) 0 0 [.ref (G.ad 1), .int x1, .int x2, .int x3] (some (.int r)) μ μ := Mth.of hA (by decide) rfl (Nat.le_of_ble_eq_true rfl) (fun p e s0 m args below meth c C => w_X4_isLike C x1 x2 x3 μ hF)
set_option maxHeartbeats 4000000 in
theorem w_X4_sameInitials {G : Gl} {p : Program} {l : Launch} {e : Env} {s0 : State} {m : MethodId} {args : Array Value} {below : List Frame} {meth : Method} {c : Code} (C : Cx G p s0 m args meth c cX4_sameInitials 3 RX4 (some .boolean)) {r : Int32}  (x1 : Int32) (x2 : Int32) (μ : Mu) (hF : f_X4_sameInitials x1 x2 μ = some r) : X G p l e 0 0 s0 m args below meth c 3 (some (.int r)) μ μ 0 [(0, .ref (G.ad 1)), (1, .int x1), (2, .int x2)] [] := by
  unfold f_X4_sameInitials at hF
  refine x_aload_n C 0 dX4_sameInitials_0 rfl rfl ?_
  refine x_getR C fc_X4 fl_X4_30 sh_1 (by decide) rfl dX4_sameInitials_1 ?_
  refine x_iload_n C 1 dX4_sameInitials_4 rfl rfl ?_
  refine x_iconst (v := 4) C dX4_sameInitials_5 (by decide) ?_
  refine x_imul C dX4_sameInitials_6 ?_
  obtain ⟨hi1, hF⟩ := f_chk hF
  refine x_iald C sh_8 hi1 dX4_sameInitials_7 ?_
  refine x_aload_n C 0 dX4_sameInitials_8 rfl rfl ?_
  refine x_getR C fc_X4 fl_X4_30 sh_1 (by decide) rfl dX4_sameInitials_9 ?_
  refine x_iload_n C 2 dX4_sameInitials_12 rfl rfl ?_
  refine x_iconst (v := 4) C dX4_sameInitials_13 (by decide) ?_
  refine x_imul C dX4_sameInitials_14 ?_
  obtain ⟨hi2, hF⟩ := f_chk hF
  refine x_iald C sh_8 hi2 dX4_sameInitials_15 ?_
  refine x_icmp_ne (tgt := 42) C dX4_sameInitials_16 (by decide) (fun hc => ?_) (fun hc => ?_)
  · replace hF := f_f hc hF
    refine x_iconst (v := 0) C dX4_sameInitials_42 (by decide) ?_
    exact x_zret C dX4_sameInitials_43 (by decide) (Option.some.inj hF) rfl
  · replace hF := f_t hc hF
    refine x_aload_n C 0 dX4_sameInitials_19 rfl rfl ?_
    refine x_getR C fc_X4 fl_X4_33 sh_1 (by decide) rfl dX4_sameInitials_20 ?_
    refine x_iload_n C 1 dX4_sameInitials_23 rfl rfl ?_
    refine x_iconst (v := 4) C dX4_sameInitials_24 (by decide) ?_
    refine x_imul C dX4_sameInitials_25 ?_
    refine x_iald C sh_9 hi1 dX4_sameInitials_26 ?_
    refine x_aload_n C 0 dX4_sameInitials_27 rfl rfl ?_
    refine x_getR C fc_X4 fl_X4_33 sh_1 (by decide) rfl dX4_sameInitials_28 ?_
    refine x_iload_n C 2 dX4_sameInitials_31 rfl rfl ?_
    refine x_iconst (v := 4) C dX4_sameInitials_32 (by decide) ?_
    refine x_imul C dX4_sameInitials_33 ?_
    refine x_iald C sh_9 hi2 dX4_sameInitials_34 ?_
    refine x_icmp_ne (tgt := 42) C dX4_sameInitials_35 (by decide) (fun hc => ?_) (fun hc => ?_)
    · replace hF := f_f hc hF
      refine x_iconst (v := 0) C dX4_sameInitials_42 (by decide) ?_
      exact x_zret C dX4_sameInitials_43 (by decide) (Option.some.inj hF) rfl
    · replace hF := f_t hc hF
      refine x_iconst (v := 1) C dX4_sameInitials_38 (by decide) ?_
      refine x_goto (tgt := 43) C dX4_sameInitials_39 (by decide) ?_
      exact x_zret C dX4_sameInitials_43 (by decide) (Option.some.inj hF) rfl
set_option maxHeartbeats 4000000 in
theorem c_X4_sameInitials {G : Gl} (l : Launch) (hA : Ap G) {r : Int32}  (x1 : Int32) (x2 : Int32) (μ : Mu) (hF : f_X4_sameInitials x1 x2 μ = some r) : Mth G l yX4_sameInitials cX4_sameInitials 3 (some .boolean) 0 0 [.ref (G.ad 1), .int x1, .int x2] (some (.int r)) μ μ := Mth.of hA (by decide) rfl (Nat.le_of_ble_eq_true rfl) (fun p e s0 m args below meth c C => w_X4_sameInitials C x1 x2 μ hF)
set_option maxHeartbeats 4000000 in
theorem w_X5_setTrial {G : Gl} {p : Program} {l : Launch} {e : Env} {s0 : State} {m : MethodId} {args : Array Value} {below : List Frame} {meth : Method} {c : Code} (C : Cx G p s0 m args meth c cX5_setTrial 4 RX5 none) {μf : Mu}  (x1 : Int32) (x2 : Int32) (x3 : Int32) (μ : Mu) (hF : f_X5_setTrial x1 x2 x3 μ = some μf) : X G p l e 0 0 s0 m args below meth c 4 none μf μ 0 [(0, .ref (G.ad 79)), (1, .int x1), (2, .int x2), (3, .int x3)] [] := by
  unfold f_X5_setTrial at hF
  refine x_aload_n C 0 dX5_setTrial_0 rfl rfl ?_
  refine x_getR C fc_X5 fl_X5_15 sh_79 (by decide) rfl dX5_setTrial_1 ?_
  refine x_iconst (v := 2) C dX5_setTrial_4 (by decide) ?_
  refine x_iload_n C 1 dX5_setTrial_5 rfl rfl ?_
  refine x_iast C sh_81 (by decide) dX5_setTrial_6 ?_
  refine x_letM hF (fun μ1 hF => ?_)
  refine x_aload_n C 0 dX5_setTrial_7 rfl rfl ?_
  refine x_getR C fc_X5 fl_X5_15 sh_79 (by decide) rfl dX5_setTrial_8 ?_
  refine x_iconst (v := 3) C dX5_setTrial_11 (by decide) ?_
  refine x_iload_n C 2 dX5_setTrial_12 rfl rfl ?_
  refine x_iast C sh_81 (by decide) dX5_setTrial_13 ?_
  refine x_letM hF (fun μ2 hF => ?_)
  refine x_aload_n C 0 dX5_setTrial_14 rfl rfl ?_
  refine x_getR C fc_X5 fl_X5_15 sh_79 (by decide) rfl dX5_setTrial_15 ?_
  refine x_iconst (v := 5) C dX5_setTrial_18 (by decide) ?_
  refine x_iload_n C 3 dX5_setTrial_19 rfl rfl ?_
  refine x_iconst (v := 2) C dX5_setTrial_20 (by decide) ?_
  refine x_ishr C dX5_setTrial_21 ?_
  refine x_iconst (v := 1) C dX5_setTrial_22 (by decide) ?_
  refine x_iand C dX5_setTrial_23 ?_
  refine x_iast C sh_81 (by decide) dX5_setTrial_24 ?_
  refine x_letM hF (fun μ3 hF => ?_)
  refine x_aload_n C 0 dX5_setTrial_25 rfl rfl ?_
  refine x_getR C fc_X5 fl_X5_15 sh_79 (by decide) rfl dX5_setTrial_26 ?_
  refine x_bipush (v := 6) C dX5_setTrial_29 (by decide) ?_
  refine x_iload_n C 3 dX5_setTrial_31 rfl rfl ?_
  refine x_iconst (v := 1) C dX5_setTrial_32 (by decide) ?_
  refine x_ishr C dX5_setTrial_33 ?_
  refine x_iconst (v := 1) C dX5_setTrial_34 (by decide) ?_
  refine x_iand C dX5_setTrial_35 ?_
  refine x_iast C sh_81 (by decide) dX5_setTrial_36 ?_
  refine x_letM hF (fun μ4 hF => ?_)
  refine x_aload_n C 0 dX5_setTrial_37 rfl rfl ?_
  refine x_getR C fc_X5 fl_X5_15 sh_79 (by decide) rfl dX5_setTrial_38 ?_
  refine x_bipush (v := 7) C dX5_setTrial_41 (by decide) ?_
  refine x_iload_n C 3 dX5_setTrial_43 rfl rfl ?_
  refine x_iconst (v := 1) C dX5_setTrial_44 (by decide) ?_
  refine x_iand C dX5_setTrial_45 ?_
  refine x_iast C sh_81 (by decide) dX5_setTrial_46 ?_
  refine x_letM hF (fun μ5 hF => ?_)
  exact x_vret C dX5_setTrial_47 (Option.some.inj hF)
set_option maxHeartbeats 4000000 in
theorem c_X5_setTrial {G : Gl} (l : Launch) (hA : Ap G) {μf : Mu}  (x1 : Int32) (x2 : Int32) (x3 : Int32) (μ : Mu) (hF : f_X5_setTrial x1 x2 x3 μ = some μf) : Mth G l yX5_setTrial cX5_setTrial 4 none 0 0 [.ref (G.ad 79), .int x1, .int x2, .int x3] none μf μ := Mth.of hA (by decide) rfl (Nat.le_of_ble_eq_true rfl) (fun p e s0 m args below meth c C => w_X5_setTrial C x1 x2 x3 μ hF)
set_option maxHeartbeats 4000000 in
theorem w_X6_hasLikeWork_L2 {G : Gl} {p : Program} {l : Launch} {e : Env} {s0 : State} {m : MethodId} {args : Array Value} {below : List Frame} {meth : Method} {c : Code} (C : Cx G p s0 m args meth c cX6_hasLikeWork 4 RX6 (some .boolean)) {d : Nat} (hv : isV d) {r : Int32}  (μ : Mu) : ∀ (n : Nat) (x1 : Int32) (x2 : Int32) (x3 : Int32), f_X6_hasLikeWork_L2 d μ n x1 x2 x3 = some r → X G p l e 1 26 s0 m args below meth c 4 (some (.int r)) μ μ 2 [(0, .ref (G.ad (d + 5))), (1, .int x1), (2, .int x2), (3, .int x3)] [] := by
  intro n
  induction n with
  | zero =>
    intro x1 x2 x3 hF
    rw [f_X6_hasLikeWork_L2] at hF
    cases hF
  | succ n ih =>
    intro x1 x2 x3 hF
    rw [f_X6_hasLikeWork_L2] at hF
    refine x_iload_n C 3 dX6_hasLikeWork_2 rfl rfl ?_
    refine x_aload_n C 0 dX6_hasLikeWork_3 rfl rfl ?_
    refine x_getI C fc_X6 fl_X6_118 (shV5 hv) (by decide) rfl dX6_hasLikeWork_4 ?_
    refine x_icmp_ge (tgt := 46) C dX6_hasLikeWork_7 (by decide) (fun hc => ?_) (fun hc => ?_)
    · replace hF := f_t hc hF
      refine x_iconst (v := 0) C dX6_hasLikeWork_46 (by decide) ?_
      exact x_zret C dX6_hasLikeWork_47 (by decide) (Option.some.inj hF) rfl
    · replace hF := f_f hc hF
      refine x_aload_n C 0 dX6_hasLikeWork_10 rfl rfl ?_
      refine x_getR C fc_X6 fl_X6_30 (shV5 hv) (by decide) rfl dX6_hasLikeWork_11 ?_
      refine x_iload_n C 3 dX6_hasLikeWork_14 rfl rfl ?_
      obtain ⟨hi1, hF⟩ := f_chk hF
      refine x_iald C (shV12 hv) hi1 dX6_hasLikeWork_15 ?_
      refine x_iload_n C 1 dX6_hasLikeWork_16 rfl rfl ?_
      refine x_icmp_eq (tgt := 40) C dX6_hasLikeWork_17 (by decide) (fun hc => ?_) (fun hc => ?_)
      · replace hF := f_t hc hF
        refine x_iinc C [(3, .int (x3 + 1)), (0, .ref (G.ad (d + 5))), (1, .int x1), (2, .int x2)] 3 dX6_hasLikeWork_40 rfl rfl (by decide) rfl ?_
        refine x_goto (tgt := 2) C dX6_hasLikeWork_43 (by decide) ?_
        exact x_pick [(0, .ref (G.ad (d + 5))), (1, .int x1), (2, .int x2), (3, .int (x3 + 1))] [1, 2, 3, 0] rfl (ih x1 x2 (x3 + 1) hF)
      · replace hF := f_f hc hF
        refine x_aload_n C 0 dX6_hasLikeWork_20 rfl rfl ?_
        refine x_getR C fc_X6 fl_X6_49 (shV5 hv) (by decide) rfl dX6_hasLikeWork_21 ?_
        refine x_iload_n C 1 dX6_hasLikeWork_24 rfl rfl ?_
        refine x_aload_n C 0 dX6_hasLikeWork_25 rfl rfl ?_
        refine x_getR C fc_X6 fl_X6_30 (shV5 hv) (by decide) rfl dX6_hasLikeWork_26 ?_
        refine x_iload_n C 3 dX6_hasLikeWork_29 rfl rfl ?_
        refine x_iald C (shV12 hv) hi1 dX6_hasLikeWork_30 ?_
        refine x_iload_n C 2 dX6_hasLikeWork_31 rfl rfl ?_
        obtain ⟨q2, hq2, hF⟩ := f_bind hF
        refine x_cVi (rest := []) C (c_X4_isLike l C.2.2.2.2.2.2.2.2 x1 (μ (d + 12) (ix x3)) x2 μ hq2) cw_X6_168 sh_1 rfl rfl ⟨by decide, by decide⟩ rfl rfl (Nat.le_of_ble_eq_true rfl) dX6_hasLikeWork_32 ?_
        refine x_if_eq (tgt := 40) C dX6_hasLikeWork_35 (by decide) (fun hc => ?_) (fun hc => ?_)
        · replace hF := f_t hc hF
          refine x_iinc C [(3, .int (x3 + 1)), (0, .ref (G.ad (d + 5))), (1, .int x1), (2, .int x2)] 3 dX6_hasLikeWork_40 rfl rfl (by decide) rfl ?_
          refine x_goto (tgt := 2) C dX6_hasLikeWork_43 (by decide) ?_
          exact x_pick [(0, .ref (G.ad (d + 5))), (1, .int x1), (2, .int x2), (3, .int (x3 + 1))] [1, 2, 3, 0] rfl (ih x1 x2 (x3 + 1) hF)
        · replace hF := f_f hc hF
          refine x_iconst (v := 1) C dX6_hasLikeWork_38 (by decide) ?_
          exact x_zret C dX6_hasLikeWork_39 (by decide) (Option.some.inj hF) rfl
set_option maxHeartbeats 4000000 in
theorem w_X6_hasLikeWork {G : Gl} {p : Program} {l : Launch} {e : Env} {s0 : State} {m : MethodId} {args : Array Value} {below : List Frame} {meth : Method} {c : Code} (C : Cx G p s0 m args meth c cX6_hasLikeWork 4 RX6 (some .boolean)) {d : Nat} (hv : isV d) {r : Int32}  (x1 : Int32) (x2 : Int32) (μ : Mu) (hF : f_X6_hasLikeWork d x1 x2 μ = some r) : X G p l e 1 26 s0 m args below meth c 4 (some (.int r)) μ μ 0 [(0, .ref (G.ad (d + 5))), (1, .int x1), (2, .int x2)] [] := by
  unfold f_X6_hasLikeWork at hF
  refine x_iconst (v := 0) C dX6_hasLikeWork_0 (by decide) ?_
  refine x_istore_n C [(3, .int 0), (0, .ref (G.ad (d + 5))), (1, .int x1), (2, .int x2)] dX6_hasLikeWork_1 rfl (by decide) rfl ?_
  exact x_pick [(0, .ref (G.ad (d + 5))), (1, .int x1), (2, .int x2), (3, .int 0)] [1, 2, 3, 0] rfl (w_X6_hasLikeWork_L2 C hv μ fu x1 x2 0 hF)
set_option maxHeartbeats 4000000 in
theorem c_X6_hasLikeWork {G : Gl} (l : Launch) (hA : Ap G) {d : Nat} (hv : isV d) {r : Int32}  (x1 : Int32) (x2 : Int32) (μ : Mu) (hF : f_X6_hasLikeWork d x1 x2 μ = some r) : Mth G l yX6_hasLikeWork cX6_hasLikeWork 4 (some .boolean) 1 26 [.ref (G.ad (d + 5)), .int x1, .int x2] (some (.int r)) μ μ := Mth.of hA (by decide) rfl (Nat.le_of_ble_eq_true rfl) (fun p e s0 m args below meth c C => w_X6_hasLikeWork C hv x1 x2 μ hF)
set_option maxHeartbeats 4000000 in
theorem w_X6_authorsShown_L39 {G : Gl} {p : Program} {l : Launch} {e : Env} {s0 : State} {m : MethodId} {args : Array Value} {below : List Frame} {meth : Method} {c : Code} (C : Cx G p s0 m args meth c cX6_authorsShown 6 RX6 (some .int)) {d : Nat} (hv : isV d) {a : Nat} (ha : sh a = .inl (0, 10)) {r : Int32}  (μ : Mu) : ∀ (n : Nat) (x1 : Int32) (x3 : Int32) (x4 : Int32) (x5 : Int32), f_X6_authorsShown_L39 d a μ n x1 x3 x4 x5 = some r → X G p l e 2 49 s0 m args below meth c 6 (some (.int r)) μ μ 39 [(0, .ref (G.ad (d + 5))), (1, .int x1), (3, .int x3), (4, .int x4), (5, .int x5)] [] := by
  intro n
  induction n with
  | zero =>
    intro x1 x3 x4 x5 hF
    rw [f_X6_authorsShown_L39] at hF
    cases hF
  | succ n ih =>
    intro x1 x3 x4 x5 hF
    rw [f_X6_authorsShown_L39] at hF
    refine x_iload C 4 dX6_authorsShown_39 rfl ?_
    refine x_iload_n C 2 dX6_authorsShown_41 rfl rfl ?_
    refine x_icmp_gt (tgt := 64) C dX6_authorsShown_42 (by decide) (fun hc => ?_) (fun hc => ?_)
    · replace hF := f_t hc hF
      refine x_iload C 3 dX6_authorsShown_64 rfl ?_
      exact x_iret C dX6_authorsShown_66 (Option.some.inj hF) rfl
    · replace hF := f_f hc hF
      refine x_aload_n C 0 dX6_authorsShown_45 rfl rfl ?_
      refine x_iload_n C 1 dX6_authorsShown_46 rfl rfl ?_
      refine x_iload C 4 dX6_authorsShown_47 rfl ?_
      obtain ⟨q1, hq1, hF⟩ := f_bind hF
      refine x_cVi (rest := []) C (c_X6_hasLikeWork l C.2.2.2.2.2.2.2.2 hv x1 x5 μ hq1) cw_X6_165 (shV5 hv) rfl rfl ⟨by decide, by decide⟩ rfl rfl (Nat.le_of_ble_eq_true rfl) dX6_authorsShown_49 ?_
      refine x_if_ne (tgt := 58) C dX6_authorsShown_52 (by decide) (fun hc => ?_) (fun hc => ?_)
      · replace hF := f_f hc hF
        refine x_iinc C [(5, .int (x5 + 1)), (0, .ref (G.ad (d + 5))), (1, .int x1), (3, .int x3), (4, .int x4)] 4 dX6_authorsShown_58 rfl rfl (by decide) rfl ?_
        refine x_goto (tgt := 39) C dX6_authorsShown_61 (by decide) ?_
        exact x_pick [(0, .ref (G.ad (d + 5))), (1, .int x1), (3, .int x3), (4, .int x4), (5, .int (x5 + 1))] [1, 2, 3, 4, 0] rfl (ih x1 x3 x4 (x5 + 1) hF)
      · replace hF := f_t hc hF
        refine x_iload C 4 dX6_authorsShown_55 rfl ?_
        exact x_iret C dX6_authorsShown_57 (Option.some.inj hF) rfl
set_option maxHeartbeats 4000000 in
theorem w_X6_authorsShown {G : Gl} {p : Program} {l : Launch} {e : Env} {s0 : State} {m : MethodId} {args : Array Value} {below : List Frame} {meth : Method} {c : Code} (C : Cx G p s0 m args meth c cX6_authorsShown 6 RX6 (some .int)) {d : Nat} (hv : isV d) {a : Nat} (ha : sh a = .inl (0, 10)) {r : Int32}  (x1 : Int32) (μ : Mu) (hF : f_X6_authorsShown d a x1 μ = some r) : X G p l e 2 49 s0 m args below meth c 6 (some (.int r)) μ μ 0 [(0, .ref (G.ad (d + 5))), (1, .int x1), (2, .ref (G.ad a))] [] := by
  unfold f_X6_authorsShown at hF
  refine x_aload_n C 0 dX6_authorsShown_0 rfl rfl ?_
  refine x_getR C fc_X6 fl_X6_49 (shV5 hv) (by decide) rfl dX6_authorsShown_1 ?_
  refine x_getR C fc_X4 fl_X6_162 sh_1 (by decide) rfl dX6_authorsShown_4 ?_
  refine x_iload_n C 1 dX6_authorsShown_7 rfl rfl ?_
  obtain ⟨hi1, hF⟩ := f_chk hF
  refine x_iald C sh_2 hi1 dX6_authorsShown_8 ?_
  refine x_letI hF (fun y2 hF => ?_)
  refine x_istore_n C [(3, .int y2), (0, .ref (G.ad (d + 5))), (1, .int x1), (2, .ref (G.ad a))] dX6_authorsShown_9 rfl (by decide) rfl ?_
  refine x_iload_n C 0 dX6_authorsShown_10 rfl rfl ?_
  refine x_aload_n C 3 dX6_authorsShown_11 rfl rfl ?_
  refine x_iconst (v := 2) C dX6_authorsShown_12 (by decide) ?_
  refine x_iald C ha (by decide) dX6_authorsShown_13 ?_
  refine x_icmp_gt (tgt := 21) C dX6_authorsShown_14 (by decide) (fun hc => ?_) (fun hc => ?_)
  · replace hF := f_t hc hF
    refine x_aload_n C 3 dX6_authorsShown_21 rfl rfl ?_
    refine x_iconst (v := 3) C dX6_authorsShown_22 (by decide) ?_
    refine x_iald C ha (by decide) dX6_authorsShown_23 ?_
    refine x_letI hF (fun y3 hF => ?_)
    refine x_istore C [(4, .int y3), (3, .int y2), (0, .ref (G.ad (d + 5))), (1, .int x1), (2, .ref (G.ad a))] dX6_authorsShown_24 (by decide) rfl ?_
    refine x_aload_n C 4 dX6_authorsShown_26 rfl rfl ?_
    refine x_iconst (v := 5) C dX6_authorsShown_27 (by decide) ?_
    refine x_iald C ha (by decide) dX6_authorsShown_28 ?_
    refine x_if_ne (tgt := 35) C dX6_authorsShown_29 (by decide) (fun hc => ?_) (fun hc => ?_)
    · replace hF := f_f hc hF
      refine x_iload C 0 dX6_authorsShown_35 rfl ?_
      refine x_istore C [(5, .int y3), (4, .int y3), (3, .int y2), (0, .ref (G.ad (d + 5))), (1, .int x1), (2, .ref (G.ad a))] dX6_authorsShown_37 (by decide) rfl ?_
      exact x_pick [(0, .ref (G.ad (d + 5))), (1, .int x1), (3, .int y2), (4, .int y3), (5, .int y3)] [3, 4, 2, 1, 0] rfl (w_X6_authorsShown_L39 C hv ha μ fu x1 y2 y3 y3 hF)
    · replace hF := f_t hc hF
      refine x_iload C 0 dX6_authorsShown_32 rfl ?_
      exact x_iret C dX6_authorsShown_34 (Option.some.inj hF) rfl
  · replace hF := f_f hc hF
    refine x_iload_n C 0 dX6_authorsShown_17 rfl rfl ?_
    refine x_goto (tgt := 24) C dX6_authorsShown_18 (by decide) ?_
    refine x_istore C [(4, .int y2), (3, .int y2), (0, .ref (G.ad (d + 5))), (1, .int x1), (2, .ref (G.ad a))] dX6_authorsShown_24 (by decide) rfl ?_
    refine x_aload_n C 4 dX6_authorsShown_26 rfl rfl ?_
    refine x_iconst (v := 5) C dX6_authorsShown_27 (by decide) ?_
    refine x_iald C ha (by decide) dX6_authorsShown_28 ?_
    refine x_if_ne (tgt := 35) C dX6_authorsShown_29 (by decide) (fun hc => ?_) (fun hc => ?_)
    · replace hF := f_f hc hF
      refine x_iload C 0 dX6_authorsShown_35 rfl ?_
      refine x_istore C [(5, .int y2), (4, .int y2), (3, .int y2), (0, .ref (G.ad (d + 5))), (1, .int x1), (2, .ref (G.ad a))] dX6_authorsShown_37 (by decide) rfl ?_
      exact x_pick [(0, .ref (G.ad (d + 5))), (1, .int x1), (3, .int y2), (4, .int y2), (5, .int y2)] [3, 4, 2, 1, 0] rfl (w_X6_authorsShown_L39 C hv ha μ fu x1 y2 y2 y2 hF)
    · replace hF := f_t hc hF
      refine x_iload C 0 dX6_authorsShown_32 rfl ?_
      exact x_iret C dX6_authorsShown_34 (Option.some.inj hF) rfl
set_option maxHeartbeats 4000000 in
theorem c_X6_authorsShown {G : Gl} (l : Launch) (hA : Ap G) {d : Nat} (hv : isV d) {a : Nat} (ha : sh a = .inl (0, 10)) {r : Int32}  (x1 : Int32) (μ : Mu) (hF : f_X6_authorsShown d a x1 μ = some r) : Mth G l yX6_authorsShown cX6_authorsShown 6 (some .int) 2 49 [.ref (G.ad (d + 5)), .int x1, .ref (G.ad a)] (some (.int r)) μ μ := Mth.of hA (by decide) rfl (Nat.le_of_ble_eq_true rfl) (fun p e s0 m args below meth c C => w_X6_authorsShown C hv ha x1 μ hF)
set_option maxHeartbeats 4000000 in
theorem w_X6_hasNamesake_L2 {G : Gl} {p : Program} {l : Launch} {e : Env} {s0 : State} {m : MethodId} {args : Array Value} {below : List Frame} {meth : Method} {c : Code} (C : Cx G p s0 m args meth c cX6_hasNamesake 4 RX6 (some .boolean)) {d : Nat} (hv : isV d) {r : Int32}  (μ : Mu) : ∀ (n : Nat) (x1 : Int32) (x2 : Int32), f_X6_hasNamesake_L2 d μ n x1 x2 = some r → X G p l e 1 22 s0 m args below meth c 4 (some (.int r)) μ μ 2 [(0, .ref (G.ad (d + 5))), (1, .int x1), (2, .int x2)] [] := by
  intro n
  induction n with
  | zero =>
    intro x1 x2 hF
    rw [f_X6_hasNamesake_L2] at hF
    cases hF
  | succ n ih =>
    intro x1 x2 hF
    rw [f_X6_hasNamesake_L2] at hF
    refine x_iload_n C 2 dX6_hasNamesake_2 rfl rfl ?_
    refine x_aload_n C 0 dX6_hasNamesake_3 rfl rfl ?_
    refine x_getI C fc_X6 fl_X6_118 (shV5 hv) (by decide) rfl dX6_hasNamesake_4 ?_
    refine x_icmp_ge (tgt := 56) C dX6_hasNamesake_7 (by decide) (fun hc => ?_) (fun hc => ?_)
    · replace hF := f_t hc hF
      refine x_iconst (v := 0) C dX6_hasNamesake_56 (by decide) ?_
      exact x_zret C dX6_hasNamesake_57 (by decide) (Option.some.inj hF) rfl
    · replace hF := f_f hc hF
      refine x_aload_n C 0 dX6_hasNamesake_10 rfl rfl ?_
      refine x_getR C fc_X6 fl_X6_30 (shV5 hv) (by decide) rfl dX6_hasNamesake_11 ?_
      refine x_iload_n C 2 dX6_hasNamesake_14 rfl rfl ?_
      obtain ⟨hi1, hF⟩ := f_chk hF
      refine x_iald C (shV12 hv) hi1 dX6_hasNamesake_15 ?_
      refine x_letI hF (fun y2 hF => ?_)
      refine x_istore_n C [(3, .int y2), (0, .ref (G.ad (d + 5))), (1, .int x1), (2, .int x2)] dX6_hasNamesake_16 rfl (by decide) rfl ?_
      refine x_aload_n C 1 dX6_hasNamesake_17 rfl rfl ?_
      refine x_getR C fc_X6 fl_X6_49 (shV5 hv) (by decide) rfl dX6_hasNamesake_18 ?_
      refine x_iload_n C 0 dX6_hasNamesake_21 rfl rfl ?_
      obtain ⟨q3, hq3, hF⟩ := f_bind hF
      refine x_cVi (rest := []) C (c_X4_firstFamily l C.2.2.2.2.2.2.2.2 y2 μ hq3) cw_X6_172 sh_1 rfl rfl ⟨by decide, by decide⟩ rfl rfl (Nat.le_of_ble_eq_true rfl) dX6_hasNamesake_22 ?_
      refine x_aload_n C 1 dX6_hasNamesake_25 rfl rfl ?_
      refine x_getR C fc_X6 fl_X6_49 (shV5 hv) (by decide) rfl dX6_hasNamesake_26 ?_
      refine x_iload_n C 2 dX6_hasNamesake_29 rfl rfl ?_
      obtain ⟨q4, hq4, hF⟩ := f_bind hF
      refine x_cVi (rest := [.int q3]) C (c_X4_firstFamily l C.2.2.2.2.2.2.2.2 x1 μ hq4) cw_X6_172 sh_1 rfl rfl ⟨by decide, by decide⟩ rfl rfl (Nat.le_of_ble_eq_true rfl) dX6_hasNamesake_30 ?_
      refine x_icmp_ne (tgt := 50) C dX6_hasNamesake_33 (by decide) (fun hc => ?_) (fun hc => ?_)
      · replace hF := f_f hc hF
        refine x_iinc C [(2, .int (x2 + 1)), (3, .int y2), (0, .ref (G.ad (d + 5))), (1, .int x1)] 3 dX6_hasNamesake_50 rfl rfl (by decide) rfl ?_
        refine x_goto (tgt := 2) C dX6_hasNamesake_53 (by decide) ?_
        exact x_pick [(0, .ref (G.ad (d + 5))), (1, .int x1), (2, .int (x2 + 1))] [2, 3, 0] rfl (ih x1 (x2 + 1) hF)
      · replace hF := f_t hc hF
        refine x_aload_n C 1 dX6_hasNamesake_36 rfl rfl ?_
        refine x_getR C fc_X6 fl_X6_49 (shV5 hv) (by decide) rfl dX6_hasNamesake_37 ?_
        refine x_iload_n C 0 dX6_hasNamesake_40 rfl rfl ?_
        refine x_iload_n C 2 dX6_hasNamesake_41 rfl rfl ?_
        obtain ⟨q5, hq5, hF⟩ := f_bind hF
        refine x_cVi (rest := []) C (c_X4_sameInitials l C.2.2.2.2.2.2.2.2 y2 x1 μ hq5) cw_X6_175 sh_1 rfl rfl ⟨by decide, by decide⟩ rfl rfl (Nat.le_of_ble_eq_true rfl) dX6_hasNamesake_42 ?_
        refine x_if_ne (tgt := 50) C dX6_hasNamesake_45 (by decide) (fun hc => ?_) (fun hc => ?_)
        · replace hF := f_f hc hF
          refine x_iinc C [(2, .int (x2 + 1)), (3, .int y2), (0, .ref (G.ad (d + 5))), (1, .int x1)] 3 dX6_hasNamesake_50 rfl rfl (by decide) rfl ?_
          refine x_goto (tgt := 2) C dX6_hasNamesake_53 (by decide) ?_
          exact x_pick [(0, .ref (G.ad (d + 5))), (1, .int x1), (2, .int (x2 + 1))] [2, 3, 0] rfl (ih x1 (x2 + 1) hF)
        · replace hF := f_t hc hF
          refine x_iconst (v := 1) C dX6_hasNamesake_48 (by decide) ?_
          exact x_zret C dX6_hasNamesake_49 (by decide) (Option.some.inj hF) rfl
set_option maxHeartbeats 4000000 in
theorem w_X6_hasNamesake {G : Gl} {p : Program} {l : Launch} {e : Env} {s0 : State} {m : MethodId} {args : Array Value} {below : List Frame} {meth : Method} {c : Code} (C : Cx G p s0 m args meth c cX6_hasNamesake 4 RX6 (some .boolean)) {d : Nat} (hv : isV d) {r : Int32}  (x1 : Int32) (μ : Mu) (hF : f_X6_hasNamesake d x1 μ = some r) : X G p l e 1 22 s0 m args below meth c 4 (some (.int r)) μ μ 0 [(0, .ref (G.ad (d + 5))), (1, .int x1)] [] := by
  unfold f_X6_hasNamesake at hF
  refine x_iconst (v := 0) C dX6_hasNamesake_0 (by decide) ?_
  refine x_istore_n C [(2, .int 0), (0, .ref (G.ad (d + 5))), (1, .int x1)] dX6_hasNamesake_1 rfl (by decide) rfl ?_
  exact x_pick [(0, .ref (G.ad (d + 5))), (1, .int x1), (2, .int 0)] [1, 2, 0] rfl (w_X6_hasNamesake_L2 C hv μ fu x1 0 hF)
set_option maxHeartbeats 4000000 in
theorem c_X6_hasNamesake {G : Gl} (l : Launch) (hA : Ap G) {d : Nat} (hv : isV d) {r : Int32}  (x1 : Int32) (μ : Mu) (hF : f_X6_hasNamesake d x1 μ = some r) : Mth G l yX6_hasNamesake cX6_hasNamesake 4 (some .boolean) 1 22 [.ref (G.ad (d + 5)), .int x1] (some (.int r)) μ μ := Mth.of hA (by decide) rfl (Nat.le_of_ble_eq_true rfl) (fun p e s0 m args below meth c C => w_X6_hasNamesake C hv x1 μ hF)
set_option maxHeartbeats 4000000 in
theorem w_X6_looksAlike {G : Gl} {p : Program} {l : Launch} {e : Env} {s0 : State} {m : MethodId} {args : Array Value} {below : List Frame} {meth : Method} {c : Code} (C : Cx G p s0 m args meth c cX6_looksAlike 3 RX6 (some .boolean)) {d : Nat} (hv : isV d) {r : Int32}  (x1 : Int32) (x2 : Int32) (μ : Mu) (hF : f_X6_looksAlike d x1 x2 μ = some r) : X G p l e 1 26 s0 m args below meth c 3 (some (.int r)) μ μ 0 [(0, .ref (G.ad (d + 5))), (1, .int x1), (2, .int x2)] [] := by
  unfold f_X6_looksAlike at hF
  refine x_aload_n C 0 dX6_looksAlike_0 rfl rfl ?_
  refine x_getR C fc_X6 fl_X6_36 (shV5 hv) (by decide) rfl dX6_looksAlike_1 ?_
  refine x_iload_n C 1 dX6_looksAlike_4 rfl rfl ?_
  obtain ⟨hi1, hF⟩ := f_chk hF
  refine x_iald C (shV14 hv) hi1 dX6_looksAlike_5 ?_
  refine x_aload_n C 0 dX6_looksAlike_6 rfl rfl ?_
  refine x_getR C fc_X6 fl_X6_36 (shV5 hv) (by decide) rfl dX6_looksAlike_7 ?_
  refine x_iload_n C 2 dX6_looksAlike_10 rfl rfl ?_
  obtain ⟨hi2, hF⟩ := f_chk hF
  refine x_iald C (shV14 hv) hi2 dX6_looksAlike_11 ?_
  refine x_icmp_ne (tgt := 73) C dX6_looksAlike_12 (by decide) (fun hc => ?_) (fun hc => ?_)
  · replace hF := f_f hc hF
    refine x_iconst (v := 0) C dX6_looksAlike_73 (by decide) ?_
    exact x_zret C dX6_looksAlike_74 (by decide) (Option.some.inj hF) rfl
  · replace hF := f_t hc hF
    refine x_aload_n C 0 dX6_looksAlike_15 rfl rfl ?_
    refine x_getR C fc_X6 fl_X6_49 (shV5 hv) (by decide) rfl dX6_looksAlike_16 ?_
    refine x_iload_n C 1 dX6_looksAlike_19 rfl rfl ?_
    refine x_iload_n C 2 dX6_looksAlike_20 rfl rfl ?_
    refine x_aload_n C 0 dX6_looksAlike_21 rfl rfl ?_
    refine x_getR C fc_X6 fl_X6_36 (shV5 hv) (by decide) rfl dX6_looksAlike_22 ?_
    refine x_iload_n C 1 dX6_looksAlike_25 rfl rfl ?_
    refine x_iald C (shV14 hv) hi1 dX6_looksAlike_26 ?_
    obtain ⟨q3, hq3, hF⟩ := f_bind hF
    refine x_cVi (rest := []) C (c_X4_isLike l C.2.2.2.2.2.2.2.2 x1 x2 (μ (d + 14) (ix x1)) μ hq3) cw_X6_168 sh_1 rfl rfl ⟨by decide, by decide⟩ rfl rfl (Nat.le_of_ble_eq_true rfl) dX6_looksAlike_27 ?_
    refine x_if_eq (tgt := 73) C dX6_looksAlike_30 (by decide) (fun hc => ?_) (fun hc => ?_)
    · replace hF := f_t hc hF
      refine x_iconst (v := 0) C dX6_looksAlike_73 (by decide) ?_
      exact x_zret C dX6_looksAlike_74 (by decide) (Option.some.inj hF) rfl
    · replace hF := f_f hc hF
      refine x_aload_n C 0 dX6_looksAlike_33 rfl rfl ?_
      refine x_getR C fc_X6 fl_X6_39 (shV5 hv) (by decide) rfl dX6_looksAlike_34 ?_
      refine x_iload_n C 1 dX6_looksAlike_37 rfl rfl ?_
      refine x_zald C (shV15 hv) hi1 dX6_looksAlike_38 ?_
      refine x_aload_n C 0 dX6_looksAlike_39 rfl rfl ?_
      refine x_getR C fc_X6 fl_X6_39 (shV5 hv) (by decide) rfl dX6_looksAlike_40 ?_
      refine x_iload_n C 2 dX6_looksAlike_43 rfl rfl ?_
      refine x_zald C (shV15 hv) hi2 dX6_looksAlike_44 ?_
      refine x_icmp_ne (tgt := 73) C dX6_looksAlike_45 (by decide) (fun hc => ?_) (fun hc => ?_)
      · replace hF := f_f hc hF
        refine x_iconst (v := 0) C dX6_looksAlike_73 (by decide) ?_
        exact x_zret C dX6_looksAlike_74 (by decide) (Option.some.inj hF) rfl
      · replace hF := f_t hc hF
        refine x_aload_n C 0 dX6_looksAlike_48 rfl rfl ?_
        refine x_getR C fc_X6 fl_X6_39 (shV5 hv) (by decide) rfl dX6_looksAlike_49 ?_
        refine x_iload_n C 1 dX6_looksAlike_52 rfl rfl ?_
        refine x_zald C (shV15 hv) hi1 dX6_looksAlike_53 ?_
        refine x_if_eq (tgt := 69) C dX6_looksAlike_54 (by decide) (fun hc => ?_) (fun hc => ?_)
        · replace hF := f_t hc hF
          refine x_iconst (v := 1) C dX6_looksAlike_69 (by decide) ?_
          refine x_goto (tgt := 74) C dX6_looksAlike_70 (by decide) ?_
          exact x_zret C dX6_looksAlike_74 (by decide) (Option.some.inj hF) rfl
        · replace hF := f_f hc hF
          refine x_aload_n C 0 dX6_looksAlike_57 rfl rfl ?_
          refine x_getR C fc_X6 fl_X6_49 (shV5 hv) (by decide) rfl dX6_looksAlike_58 ?_
          refine x_iload_n C 1 dX6_looksAlike_61 rfl rfl ?_
          refine x_iload_n C 2 dX6_looksAlike_62 rfl rfl ?_
          obtain ⟨q4, hq4, hF⟩ := f_bind hF
          refine x_cVi (rest := []) C (c_X4_sameInitials l C.2.2.2.2.2.2.2.2 x1 x2 μ hq4) cw_X6_175 sh_1 rfl rfl ⟨by decide, by decide⟩ rfl rfl (Nat.le_of_ble_eq_true rfl) dX6_looksAlike_63 ?_
          refine x_if_eq (tgt := 73) C dX6_looksAlike_66 (by decide) (fun hc => ?_) (fun hc => ?_)
          · replace hF := f_t hc hF
            refine x_iconst (v := 0) C dX6_looksAlike_73 (by decide) ?_
            exact x_zret C dX6_looksAlike_74 (by decide) (Option.some.inj hF) rfl
          · replace hF := f_f hc hF
            refine x_iconst (v := 1) C dX6_looksAlike_69 (by decide) ?_
            refine x_goto (tgt := 74) C dX6_looksAlike_70 (by decide) ?_
            exact x_zret C dX6_looksAlike_74 (by decide) (Option.some.inj hF) rfl
set_option maxHeartbeats 4000000 in
theorem c_X6_looksAlike {G : Gl} (l : Launch) (hA : Ap G) {d : Nat} (hv : isV d) {r : Int32}  (x1 : Int32) (x2 : Int32) (μ : Mu) (hF : f_X6_looksAlike d x1 x2 μ = some r) : Mth G l yX6_looksAlike cX6_looksAlike 3 (some .boolean) 1 26 [.ref (G.ad (d + 5)), .int x1, .int x2] (some (.int r)) μ μ := Mth.of hA (by decide) rfl (Nat.le_of_ble_eq_true rfl) (fun p e s0 m args below meth c C => w_X6_looksAlike C hv x1 x2 μ hF)
set_option maxHeartbeats 4000000 in
theorem w_X6_giveLetter_L16 {G : Gl} {p : Program} {l : Launch} {e : Env} {s0 : State} {m : MethodId} {args : Array Value} {below : List Frame} {meth : Method} {c : Code} (C : Cx G p s0 m args meth c cX6_giveLetter 7 RX6 none) {d : Nat} (hv : isV d) {μf : Mu}  : ∀ (n : Nat) (x1 : Int32) (x2 : Int32) (x3 : Int32) (x4 : Int32) (x5 : Int32) (x6 : Int32) (μ : Mu), f_X6_giveLetter_L16 d n x1 x2 x3 x4 x5 x6 μ = some μf → X G p l e 2 48 s0 m args below meth c 7 none μf μ 16 [(0, .ref (G.ad (d + 5))), (1, .int x1), (2, .int x2), (3, .int x3), (4, .int x4), (5, .int x5), (6, .int x6)] [] := by
  intro n
  induction n with
  | zero =>
    intro x1 x2 x3 x4 x5 x6 μ hF
    rw [f_X6_giveLetter_L16] at hF
    cases hF
  | succ n ih =>
    intro x1 x2 x3 x4 x5 x6 μ hF
    rw [f_X6_giveLetter_L16] at hF
    refine x_iload C 6 dX6_giveLetter_16 rfl ?_
    refine x_aload_n C 0 dX6_giveLetter_18 rfl rfl ?_
    refine x_getI C fc_X6 fl_X6_118 (shV5 hv) (by decide) rfl dX6_giveLetter_19 ?_
    refine x_icmp_ge (tgt := 71) C dX6_giveLetter_22 (by decide) (fun hc => ?_) (fun hc => ?_)
    · replace hF := f_t hc hF
      refine x_aload_n C 0 dX6_giveLetter_71 rfl rfl ?_
      refine x_getR C fc_X6 fl_X6_43 (shV5 hv) (by decide) rfl dX6_giveLetter_72 ?_
      refine x_iload_n C 3 dX6_giveLetter_75 rfl rfl ?_
      refine x_iload C 5 dX6_giveLetter_76 rfl ?_
      obtain ⟨hi1, hF⟩ := f_chk hF
      obtain ⟨hb2, hF⟩ := f_chk hF
      refine x_zast C (shV16 hv) hi1 hb2 dX6_giveLetter_78 ?_
      refine x_letM hF (fun μ3 hF => ?_)
      refine x_aload_n C 0 dX6_giveLetter_79 rfl rfl ?_
      refine x_getR C fc_X6 fl_X6_46 (shV5 hv) (by decide) rfl dX6_giveLetter_80 ?_
      refine x_iload_n C 3 dX6_giveLetter_83 rfl rfl ?_
      refine x_iload C 5 dX6_giveLetter_84 rfl ?_
      refine x_if_eq (tgt := 100) C dX6_giveLetter_86 (by decide) (fun hc => ?_) (fun hc => ?_)
      · replace hF := f_t hc hF
        refine x_iconst (v := 0) C dX6_giveLetter_100 (by decide) ?_
        refine x_iast C (shV17 hv) hi1 dX6_giveLetter_101 ?_
        refine x_letM hF (fun μ4 hF => ?_)
        exact x_vret C dX6_giveLetter_102 (Option.some.inj hF)
      · replace hF := f_f hc hF
        refine x_iload_n C 2 dX6_giveLetter_89 rfl rfl ?_
        refine x_if_eq (tgt := 100) C dX6_giveLetter_90 (by decide) (fun hc => ?_) (fun hc => ?_)
        · replace hF := f_t hc hF
          refine x_iconst (v := 0) C dX6_giveLetter_100 (by decide) ?_
          refine x_iast C (shV17 hv) hi1 dX6_giveLetter_101 ?_
          refine x_letM hF (fun μ5 hF => ?_)
          exact x_vret C dX6_giveLetter_102 (Option.some.inj hF)
        · replace hF := f_f hc hF
          refine x_iload C 4 dX6_giveLetter_93 rfl ?_
          refine x_iconst (v := 1) C dX6_giveLetter_95 (by decide) ?_
          refine x_iadd C dX6_giveLetter_96 ?_
          refine x_goto (tgt := 101) C dX6_giveLetter_97 (by decide) ?_
          refine x_iast C (shV17 hv) hi1 dX6_giveLetter_101 ?_
          refine x_letM hF (fun μ6 hF => ?_)
          exact x_vret C dX6_giveLetter_102 (Option.some.inj hF)
    · replace hF := f_f hc hF
      refine x_iload C 6 dX6_giveLetter_25 rfl ?_
      refine x_iload_n C 1 dX6_giveLetter_27 rfl rfl ?_
      refine x_icmp_eq (tgt := 65) C dX6_giveLetter_28 (by decide) (fun hc => ?_) (fun hc => ?_)
      · replace hF := f_t hc hF
        refine x_iinc C [(6, .int (x6 + 1)), (0, .ref (G.ad (d + 5))), (1, .int x1), (2, .int x2), (3, .int x3), (4, .int x4), (5, .int x5)] 6 dX6_giveLetter_65 rfl rfl (by decide) rfl ?_
        refine x_goto (tgt := 16) C dX6_giveLetter_68 (by decide) ?_
        exact x_pick [(0, .ref (G.ad (d + 5))), (1, .int x1), (2, .int x2), (3, .int x3), (4, .int x4), (5, .int x5), (6, .int (x6 + 1))] [1, 2, 3, 4, 5, 6, 0] rfl (ih x1 x2 x3 x4 x5 (x6 + 1) μ hF)
      · replace hF := f_f hc hF
        refine x_aload_n C 0 dX6_giveLetter_31 rfl rfl ?_
        refine x_iload_n C 3 dX6_giveLetter_32 rfl rfl ?_
        refine x_aload_n C 0 dX6_giveLetter_33 rfl rfl ?_
        refine x_getR C fc_X6 fl_X6_30 (shV5 hv) (by decide) rfl dX6_giveLetter_34 ?_
        refine x_iload C 6 dX6_giveLetter_37 rfl ?_
        obtain ⟨hi7, hF⟩ := f_chk hF
        refine x_iald C (shV12 hv) hi7 dX6_giveLetter_39 ?_
        obtain ⟨q8, hq8, hF⟩ := f_bind hF
        refine x_cVi (rest := []) C (c_X6_looksAlike l C.2.2.2.2.2.2.2.2 hv x3 (μ (d + 12) (ix x6)) μ hq8) cw_X6_178 (shV5 hv) rfl rfl ⟨by decide, by decide⟩ rfl rfl (Nat.le_of_ble_eq_true rfl) dX6_giveLetter_40 ?_
        refine x_if_eq (tgt := 65) C dX6_giveLetter_43 (by decide) (fun hc => ?_) (fun hc => ?_)
        · replace hF := f_t hc hF
          refine x_iinc C [(6, .int (x6 + 1)), (0, .ref (G.ad (d + 5))), (1, .int x1), (2, .int x2), (3, .int x3), (4, .int x4), (5, .int x5)] 6 dX6_giveLetter_65 rfl rfl (by decide) rfl ?_
          refine x_goto (tgt := 16) C dX6_giveLetter_68 (by decide) ?_
          exact x_pick [(0, .ref (G.ad (d + 5))), (1, .int x1), (2, .int x2), (3, .int x3), (4, .int x4), (5, .int x5), (6, .int (x6 + 1))] [1, 2, 3, 4, 5, 6, 0] rfl (ih x1 x2 x3 x4 x5 (x6 + 1) μ hF)
        · replace hF := f_f hc hF
          refine x_iconst (v := 1) C dX6_giveLetter_46 (by decide) ?_
          refine x_istore C [(5, .int 1), (0, .ref (G.ad (d + 5))), (1, .int x1), (2, .int x2), (3, .int x3), (4, .int x4), (6, .int x6)] dX6_giveLetter_47 (by decide) rfl ?_
          refine x_iload C 5 dX6_giveLetter_49 rfl ?_
          refine x_iload C 6 dX6_giveLetter_51 rfl ?_
          refine x_iload_n C 2 dX6_giveLetter_53 rfl rfl ?_
          refine x_icmp_ge (tgt := 61) C dX6_giveLetter_54 (by decide) (fun hc => ?_) (fun hc => ?_)
          · replace hF := f_t hc hF
            refine x_iconst (v := 0) C dX6_giveLetter_61 (by decide) ?_
            refine x_iadd C dX6_giveLetter_62 ?_
            refine x_letI hF (fun y9 hF => ?_)
            refine x_istore C [(4, .int y9), (5, .int 1), (0, .ref (G.ad (d + 5))), (1, .int x1), (2, .int x2), (3, .int x3), (6, .int x6)] dX6_giveLetter_63 (by decide) rfl ?_
            refine x_iinc C [(6, .int (x6 + 1)), (4, .int y9), (5, .int 1), (0, .ref (G.ad (d + 5))), (1, .int x1), (2, .int x2), (3, .int x3)] 6 dX6_giveLetter_65 rfl rfl (by decide) rfl ?_
            refine x_goto (tgt := 16) C dX6_giveLetter_68 (by decide) ?_
            exact x_pick [(0, .ref (G.ad (d + 5))), (1, .int x1), (2, .int x2), (3, .int x3), (4, .int y9), (5, .int 1), (6, .int (x6 + 1))] [3, 4, 5, 6, 1, 2, 0] rfl (ih x1 x2 x3 y9 1 (x6 + 1) μ hF)
          · replace hF := f_f hc hF
            refine x_iconst (v := 1) C dX6_giveLetter_57 (by decide) ?_
            refine x_goto (tgt := 62) C dX6_giveLetter_58 (by decide) ?_
            refine x_iadd C dX6_giveLetter_62 ?_
            refine x_letI hF (fun y10 hF => ?_)
            refine x_istore C [(4, .int y10), (5, .int 1), (0, .ref (G.ad (d + 5))), (1, .int x1), (2, .int x2), (3, .int x3), (6, .int x6)] dX6_giveLetter_63 (by decide) rfl ?_
            refine x_iinc C [(6, .int (x6 + 1)), (4, .int y10), (5, .int 1), (0, .ref (G.ad (d + 5))), (1, .int x1), (2, .int x2), (3, .int x3)] 6 dX6_giveLetter_65 rfl rfl (by decide) rfl ?_
            refine x_goto (tgt := 16) C dX6_giveLetter_68 (by decide) ?_
            exact x_pick [(0, .ref (G.ad (d + 5))), (1, .int x1), (2, .int x2), (3, .int x3), (4, .int y10), (5, .int 1), (6, .int (x6 + 1))] [3, 4, 5, 6, 1, 2, 0] rfl (ih x1 x2 x3 y10 1 (x6 + 1) μ hF)
set_option maxHeartbeats 4000000 in
theorem w_X6_giveLetter {G : Gl} {p : Program} {l : Launch} {e : Env} {s0 : State} {m : MethodId} {args : Array Value} {below : List Frame} {meth : Method} {c : Code} (C : Cx G p s0 m args meth c cX6_giveLetter 7 RX6 none) {d : Nat} (hv : isV d) {μf : Mu}  (x1 : Int32) (x2 : Int32) (μ : Mu) (hF : f_X6_giveLetter d x1 x2 μ = some μf) : X G p l e 2 48 s0 m args below meth c 7 none μf μ 0 [(0, .ref (G.ad (d + 5))), (1, .int x1), (2, .int x2)] [] := by
  unfold f_X6_giveLetter at hF
  refine x_aload_n C 0 dX6_giveLetter_0 rfl rfl ?_
  refine x_getR C fc_X6 fl_X6_30 (shV5 hv) (by decide) rfl dX6_giveLetter_1 ?_
  refine x_iload_n C 1 dX6_giveLetter_4 rfl rfl ?_
  obtain ⟨hi1, hF⟩ := f_chk hF
  refine x_iald C (shV12 hv) hi1 dX6_giveLetter_5 ?_
  refine x_letI hF (fun y2 hF => ?_)
  refine x_istore_n C [(3, .int y2), (0, .ref (G.ad (d + 5))), (1, .int x1), (2, .int x2)] dX6_giveLetter_6 rfl (by decide) rfl ?_
  refine x_iconst (v := 0) C dX6_giveLetter_7 (by decide) ?_
  refine x_istore C [(4, .int 0), (3, .int y2), (0, .ref (G.ad (d + 5))), (1, .int x1), (2, .int x2)] dX6_giveLetter_8 (by decide) rfl ?_
  refine x_iconst (v := 0) C dX6_giveLetter_10 (by decide) ?_
  refine x_istore C [(5, .int 0), (4, .int 0), (3, .int y2), (0, .ref (G.ad (d + 5))), (1, .int x1), (2, .int x2)] dX6_giveLetter_11 (by decide) rfl ?_
  refine x_iconst (v := 0) C dX6_giveLetter_13 (by decide) ?_
  refine x_istore C [(6, .int 0), (5, .int 0), (4, .int 0), (3, .int y2), (0, .ref (G.ad (d + 5))), (1, .int x1), (2, .int x2)] dX6_giveLetter_14 (by decide) rfl ?_
  exact x_pick [(0, .ref (G.ad (d + 5))), (1, .int x1), (2, .int x2), (3, .int y2), (4, .int 0), (5, .int 0), (6, .int 0)] [4, 5, 6, 3, 2, 1, 0] rfl (w_X6_giveLetter_L16 C hv fu x1 x2 y2 0 0 0 μ hF)
set_option maxHeartbeats 4000000 in
theorem c_X6_giveLetter {G : Gl} (l : Launch) (hA : Ap G) {d : Nat} (hv : isV d) {μf : Mu}  (x1 : Int32) (x2 : Int32) (μ : Mu) (hF : f_X6_giveLetter d x1 x2 μ = some μf) : Mth G l yX6_giveLetter cX6_giveLetter 7 none 2 48 [.ref (G.ad (d + 5)), .int x1, .int x2] none μf μ := Mth.of hA (by decide) rfl (Nat.le_of_ble_eq_true rfl) (fun p e s0 m args below meth c C => w_X6_giveLetter C hv x1 x2 μ hF)
set_option maxHeartbeats 4000000 in
theorem w_X6_present_L64 {G : Gl} {p : Program} {l : Launch} {e : Env} {s0 : State} {m : MethodId} {args : Array Value} {below : List Frame} {meth : Method} {c : Code} (C : Cx G p s0 m args meth c cX6_present 4 RX6 none) {d : Nat} (hv : isV d) {a : Nat} (ha : sh a = .inl (0, 10)) {μf : Mu}  : ∀ (n : Nat) (x2 : Int32) (μ : Mu), f_X6_present_L64 d a n x2 μ = some μf → X G p l e 3 74 s0 m args below meth c 4 none μf μ 64 [(0, .ref (G.ad (d + 5))), (1, .ref (G.ad a)), (2, .int x2)] [] := by
  intro n
  induction n with
  | zero =>
    intro x2 μ hF
    rw [f_X6_present_L64] at hF
    cases hF
  | succ n ih =>
    intro x2 μ hF
    rw [f_X6_present_L64] at hF
    refine x_iload_n C 2 dX6_present_64 rfl rfl ?_
    refine x_aload_n C 0 dX6_present_65 rfl rfl ?_
    refine x_getI C fc_X6 fl_X6_118 (shV5 hv) (by decide) rfl dX6_present_66 ?_
    refine x_icmp_ge (tgt := 96) C dX6_present_69 (by decide) (fun hc => ?_) (fun hc => ?_)
    · replace hF := f_t hc hF
      exact x_vret C dX6_present_96 (Option.some.inj hF)
    · replace hF := f_f hc hF
      refine x_aload_n C 0 dX6_present_72 rfl rfl ?_
      refine x_iload_n C 2 dX6_present_73 rfl rfl ?_
      refine x_aload_n C 1 dX6_present_74 rfl rfl ?_
      refine x_bipush (v := 7) C dX6_present_75 (by decide) ?_
      refine x_iald C ha (by decide) dX6_present_77 ?_
      refine x_iconst (v := 1) C dX6_present_78 (by decide) ?_
      refine x_icmp_ne (tgt := 86) C dX6_present_79 (by decide) (fun hc => ?_) (fun hc => ?_)
      · replace hF := f_f hc hF
        refine x_iconst (v := 0) C dX6_present_86 (by decide) ?_
        obtain ⟨q1, hq1, hF⟩ := f_bind hF
        refine x_cVv (rest := []) C (c_X6_giveLetter l C.2.2.2.2.2.2.2.2 hv x2 0 μ hq1) cw_X6_138 (shV5 hv) rfl rfl ⟨by decide, by decide⟩ rfl rfl (Nat.le_of_ble_eq_true rfl) dX6_present_87 ?_
        refine x_iinc C [(2, .int (x2 + 1)), (0, .ref (G.ad (d + 5))), (1, .ref (G.ad a))] 2 dX6_present_90 rfl rfl (by decide) rfl ?_
        refine x_goto (tgt := 64) C dX6_present_93 (by decide) ?_
        exact x_pick [(0, .ref (G.ad (d + 5))), (1, .ref (G.ad a)), (2, .int (x2 + 1))] [1, 2, 0] rfl (ih (x2 + 1) q1 hF)
      · replace hF := f_t hc hF
        refine x_iconst (v := 1) C dX6_present_82 (by decide) ?_
        refine x_goto (tgt := 87) C dX6_present_83 (by decide) ?_
        obtain ⟨q2, hq2, hF⟩ := f_bind hF
        refine x_cVv (rest := []) C (c_X6_giveLetter l C.2.2.2.2.2.2.2.2 hv x2 1 μ hq2) cw_X6_138 (shV5 hv) rfl rfl ⟨by decide, by decide⟩ rfl rfl (Nat.le_of_ble_eq_true rfl) dX6_present_87 ?_
        refine x_iinc C [(2, .int (x2 + 1)), (0, .ref (G.ad (d + 5))), (1, .ref (G.ad a))] 2 dX6_present_90 rfl rfl (by decide) rfl ?_
        refine x_goto (tgt := 64) C dX6_present_93 (by decide) ?_
        exact x_pick [(0, .ref (G.ad (d + 5))), (1, .ref (G.ad a)), (2, .int (x2 + 1))] [1, 2, 0] rfl (ih (x2 + 1) q2 hF)
set_option maxHeartbeats 4000000 in
theorem w_X6_present_L2 {G : Gl} {p : Program} {l : Launch} {e : Env} {s0 : State} {m : MethodId} {args : Array Value} {below : List Frame} {meth : Method} {c : Code} (C : Cx G p s0 m args meth c cX6_present 4 RX6 none) {d : Nat} (hv : isV d) {a : Nat} (ha : sh a = .inl (0, 10)) {μf : Mu}  : ∀ (n : Nat) (x2 : Int32) (μ : Mu), f_X6_present_L2 d a n x2 μ = some μf → X G p l e 3 74 s0 m args below meth c 4 none μf μ 2 [(0, .ref (G.ad (d + 5))), (1, .ref (G.ad a)), (2, .int x2)] [] := by
  intro n
  induction n with
  | zero =>
    intro x2 μ hF
    rw [f_X6_present_L2] at hF
    cases hF
  | succ n ih =>
    intro x2 μ hF
    rw [f_X6_present_L2] at hF
    refine x_iload_n C 2 dX6_present_2 rfl rfl ?_
    refine x_aload_n C 0 dX6_present_3 rfl rfl ?_
    refine x_getI C fc_X6 fl_X6_118 (shV5 hv) (by decide) rfl dX6_present_4 ?_
    refine x_icmp_ge (tgt := 62) C dX6_present_7 (by decide) (fun hc => ?_) (fun hc => ?_)
    · replace hF := f_t hc hF
      refine x_iconst (v := 0) C dX6_present_62 (by decide) ?_
      refine x_istore_n C [(2, .int 0), (0, .ref (G.ad (d + 5))), (1, .ref (G.ad a))] dX6_present_63 rfl (by decide) rfl ?_
      exact x_pick [(0, .ref (G.ad (d + 5))), (1, .ref (G.ad a)), (2, .int 0)] [1, 2, 0] rfl (w_X6_present_L64 C hv ha fu 0 μ hF)
    · replace hF := f_f hc hF
      refine x_aload_n C 0 dX6_present_10 rfl rfl ?_
      refine x_getR C fc_X6 fl_X6_30 (shV5 hv) (by decide) rfl dX6_present_11 ?_
      refine x_iload_n C 2 dX6_present_14 rfl rfl ?_
      obtain ⟨hi1, hF⟩ := f_chk hF
      refine x_iald C (shV12 hv) hi1 dX6_present_15 ?_
      refine x_letI hF (fun y2 hF => ?_)
      refine x_istore_n C [(3, .int y2), (0, .ref (G.ad (d + 5))), (1, .ref (G.ad a)), (2, .int x2)] dX6_present_16 rfl (by decide) rfl ?_
      refine x_aload_n C 1 dX6_present_17 rfl rfl ?_
      refine x_getR C fc_X6 fl_X6_36 (shV5 hv) (by decide) rfl dX6_present_18 ?_
      refine x_iload_n C 0 dX6_present_21 rfl rfl ?_
      refine x_aload_n C 1 dX6_present_22 rfl rfl ?_
      refine x_iload_n C 0 dX6_present_23 rfl rfl ?_
      refine x_aload_n C 2 dX6_present_24 rfl rfl ?_
      obtain ⟨q3, hq3, hF⟩ := f_bind hF
      refine x_cVi (rest := [.int y2, .ref (G.ad (d + 14))]) C (c_X6_authorsShown l C.2.2.2.2.2.2.2.2 hv ha y2 μ hq3) cw_X6_130 (shV5 hv) rfl rfl ⟨by decide, by decide⟩ rfl rfl (Nat.le_of_ble_eq_true rfl) dX6_present_25 ?_
      obtain ⟨hi4, hF⟩ := f_chk hF
      refine x_iast C (shV14 hv) hi4 dX6_present_28 ?_
      refine x_letM hF (fun μ5 hF => ?_)
      refine x_aload_n C 1 dX6_present_29 rfl rfl ?_
      refine x_getR C fc_X6 fl_X6_39 (shV5 hv) (by decide) rfl dX6_present_30 ?_
      refine x_iload_n C 0 dX6_present_33 rfl rfl ?_
      refine x_aload_n C 2 dX6_present_34 rfl rfl ?_
      refine x_bipush (v := 6) C dX6_present_35 (by decide) ?_
      refine x_iald C ha (by decide) dX6_present_37 ?_
      refine x_iconst (v := 1) C dX6_present_38 (by decide) ?_
      refine x_icmp_ne (tgt := 54) C dX6_present_39 (by decide) (fun hc => ?_) (fun hc => ?_)
      · replace hF := f_f hc hF
        refine x_iconst (v := 0) C dX6_present_54 (by decide) ?_
        refine x_zast C (shV15 hv) hi4 (by decide) dX6_present_55 ?_
        refine x_letM hF (fun μ6 hF => ?_)
        refine x_iinc C [(2, .int (x2 + 1)), (3, .int y2), (0, .ref (G.ad (d + 5))), (1, .ref (G.ad a))] 3 dX6_present_56 rfl rfl (by decide) rfl ?_
        refine x_goto (tgt := 2) C dX6_present_59 (by decide) ?_
        exact x_pick [(0, .ref (G.ad (d + 5))), (1, .ref (G.ad a)), (2, .int (x2 + 1))] [2, 3, 0] rfl (ih (x2 + 1) μ6 hF)
      · replace hF := f_t hc hF
        refine x_aload_n C 1 dX6_present_42 rfl rfl ?_
        refine x_iload_n C 0 dX6_present_43 rfl rfl ?_
        obtain ⟨q7, hq7, hF⟩ := f_bind hF
        refine x_cVi (rest := [.int y2, .ref (G.ad (d + 15))]) C (c_X6_hasNamesake l C.2.2.2.2.2.2.2.2 hv y2 μ5 hq7) cw_X6_134 (shV5 hv) rfl rfl ⟨by decide, by decide⟩ rfl rfl (Nat.le_of_ble_eq_true rfl) dX6_present_44 ?_
        refine x_if_eq (tgt := 54) C dX6_present_47 (by decide) (fun hc => ?_) (fun hc => ?_)
        · replace hF := f_t hc hF
          refine x_iconst (v := 0) C dX6_present_54 (by decide) ?_
          refine x_zast C (shV15 hv) hi4 (by decide) dX6_present_55 ?_
          refine x_letM hF (fun μ8 hF => ?_)
          refine x_iinc C [(2, .int (x2 + 1)), (3, .int y2), (0, .ref (G.ad (d + 5))), (1, .ref (G.ad a))] 3 dX6_present_56 rfl rfl (by decide) rfl ?_
          refine x_goto (tgt := 2) C dX6_present_59 (by decide) ?_
          exact x_pick [(0, .ref (G.ad (d + 5))), (1, .ref (G.ad a)), (2, .int (x2 + 1))] [2, 3, 0] rfl (ih (x2 + 1) μ8 hF)
        · replace hF := f_f hc hF
          refine x_iconst (v := 1) C dX6_present_50 (by decide) ?_
          refine x_goto (tgt := 55) C dX6_present_51 (by decide) ?_
          refine x_zast C (shV15 hv) hi4 (by decide) dX6_present_55 ?_
          refine x_letM hF (fun μ9 hF => ?_)
          refine x_iinc C [(2, .int (x2 + 1)), (3, .int y2), (0, .ref (G.ad (d + 5))), (1, .ref (G.ad a))] 3 dX6_present_56 rfl rfl (by decide) rfl ?_
          refine x_goto (tgt := 2) C dX6_present_59 (by decide) ?_
          exact x_pick [(0, .ref (G.ad (d + 5))), (1, .ref (G.ad a)), (2, .int (x2 + 1))] [2, 3, 0] rfl (ih (x2 + 1) μ9 hF)
set_option maxHeartbeats 4000000 in
theorem w_X6_present {G : Gl} {p : Program} {l : Launch} {e : Env} {s0 : State} {m : MethodId} {args : Array Value} {below : List Frame} {meth : Method} {c : Code} (C : Cx G p s0 m args meth c cX6_present 4 RX6 none) {d : Nat} (hv : isV d) {a : Nat} (ha : sh a = .inl (0, 10)) {μf : Mu}  (μ : Mu) (hF : f_X6_present d a μ = some μf) : X G p l e 3 74 s0 m args below meth c 4 none μf μ 0 [(0, .ref (G.ad (d + 5))), (1, .ref (G.ad a))] [] := by
  unfold f_X6_present at hF
  refine x_iconst (v := 0) C dX6_present_0 (by decide) ?_
  refine x_istore_n C [(2, .int 0), (0, .ref (G.ad (d + 5))), (1, .ref (G.ad a))] dX6_present_1 rfl (by decide) rfl ?_
  exact x_pick [(0, .ref (G.ad (d + 5))), (1, .ref (G.ad a)), (2, .int 0)] [1, 2, 0] rfl (w_X6_present_L2 C hv ha fu 0 μ hF)
set_option maxHeartbeats 4000000 in
theorem c_X6_present {G : Gl} (l : Launch) (hA : Ap G) {d : Nat} (hv : isV d) {a : Nat} (ha : sh a = .inl (0, 10)) {μf : Mu}  (μ : Mu) (hF : f_X6_present d a μ = some μf) : Mth G l yX6_present cX6_present 4 none 3 74 [.ref (G.ad (d + 5)), .ref (G.ad a)] none μf μ := Mth.of hA (by decide) rfl (Nat.le_of_ble_eq_true rfl) (fun p e s0 m args below meth c C => w_X6_present C hv ha μ hF)
set_option maxHeartbeats 4000000 in
theorem w_X6_unclearWorks_L4 {G : Gl} {p : Program} {l : Launch} {e : Env} {s0 : State} {m : MethodId} {args : Array Value} {below : List Frame} {meth : Method} {c : Code} (C : Cx G p s0 m args meth c cX6_unclearWorks 3 RX6 (some .int)) {d : Nat} (hv : isV d) {r : Int32}  (μ : Mu) : ∀ (n : Nat) (x1 : Int32) (x2 : Int32), f_X6_unclearWorks_L4 d μ n x1 x2 = some r → X G p l e 0 0 s0 m args below meth c 3 (some (.int r)) μ μ 4 [(0, .ref (G.ad (d + 5))), (1, .int x1), (2, .int x2)] [] := by
  intro n
  induction n with
  | zero =>
    intro x1 x2 hF
    rw [f_X6_unclearWorks_L4] at hF
    cases hF
  | succ n ih =>
    intro x1 x2 hF
    rw [f_X6_unclearWorks_L4] at hF
    refine x_iload_n C 2 dX6_unclearWorks_4 rfl rfl ?_
    refine x_aload_n C 0 dX6_unclearWorks_5 rfl rfl ?_
    refine x_getI C fc_X6 fl_X6_118 (shV5 hv) (by decide) rfl dX6_unclearWorks_6 ?_
    refine x_icmp_ge (tgt := 54) C dX6_unclearWorks_9 (by decide) (fun hc => ?_) (fun hc => ?_)
    · replace hF := f_t hc hF
      refine x_iload_n C 1 dX6_unclearWorks_54 rfl rfl ?_
      exact x_iret C dX6_unclearWorks_55 (Option.some.inj hF) rfl
    · replace hF := f_f hc hF
      refine x_iload_n C 1 dX6_unclearWorks_12 rfl rfl ?_
      refine x_aload_n C 0 dX6_unclearWorks_13 rfl rfl ?_
      refine x_getR C fc_X6 fl_X6_43 (shV5 hv) (by decide) rfl dX6_unclearWorks_14 ?_
      refine x_aload_n C 0 dX6_unclearWorks_17 rfl rfl ?_
      refine x_getR C fc_X6 fl_X6_30 (shV5 hv) (by decide) rfl dX6_unclearWorks_18 ?_
      refine x_iload_n C 2 dX6_unclearWorks_21 rfl rfl ?_
      obtain ⟨hi1, hF⟩ := f_chk hF
      refine x_iald C (shV12 hv) hi1 dX6_unclearWorks_22 ?_
      obtain ⟨hi2, hF⟩ := f_chk hF
      refine x_zald C (shV16 hv) hi2 dX6_unclearWorks_23 ?_
      refine x_if_eq (tgt := 45) C dX6_unclearWorks_24 (by decide) (fun hc => ?_) (fun hc => ?_)
      · replace hF := f_t hc hF
        refine x_iconst (v := 0) C dX6_unclearWorks_45 (by decide) ?_
        refine x_iadd C dX6_unclearWorks_46 ?_
        refine x_letI hF (fun y3 hF => ?_)
        refine x_istore_n C [(1, .int y3), (0, .ref (G.ad (d + 5))), (2, .int x2)] dX6_unclearWorks_47 rfl (by decide) rfl ?_
        refine x_iinc C [(2, .int (x2 + 1)), (1, .int y3), (0, .ref (G.ad (d + 5)))] 2 dX6_unclearWorks_48 rfl rfl (by decide) rfl ?_
        refine x_goto (tgt := 4) C dX6_unclearWorks_51 (by decide) ?_
        exact x_pick [(0, .ref (G.ad (d + 5))), (1, .int y3), (2, .int (x2 + 1))] [2, 1, 0] rfl (ih y3 (x2 + 1) hF)
      · replace hF := f_f hc hF
        refine x_aload_n C 0 dX6_unclearWorks_27 rfl rfl ?_
        refine x_getR C fc_X6 fl_X6_46 (shV5 hv) (by decide) rfl dX6_unclearWorks_28 ?_
        refine x_aload_n C 0 dX6_unclearWorks_31 rfl rfl ?_
        refine x_getR C fc_X6 fl_X6_30 (shV5 hv) (by decide) rfl dX6_unclearWorks_32 ?_
        refine x_iload_n C 2 dX6_unclearWorks_35 rfl rfl ?_
        refine x_iald C (shV12 hv) hi1 dX6_unclearWorks_36 ?_
        refine x_iald C (shV17 hv) hi2 dX6_unclearWorks_37 ?_
        refine x_if_ne (tgt := 45) C dX6_unclearWorks_38 (by decide) (fun hc => ?_) (fun hc => ?_)
        · replace hF := f_f hc hF
          refine x_iconst (v := 0) C dX6_unclearWorks_45 (by decide) ?_
          refine x_iadd C dX6_unclearWorks_46 ?_
          refine x_letI hF (fun y4 hF => ?_)
          refine x_istore_n C [(1, .int y4), (0, .ref (G.ad (d + 5))), (2, .int x2)] dX6_unclearWorks_47 rfl (by decide) rfl ?_
          refine x_iinc C [(2, .int (x2 + 1)), (1, .int y4), (0, .ref (G.ad (d + 5)))] 2 dX6_unclearWorks_48 rfl rfl (by decide) rfl ?_
          refine x_goto (tgt := 4) C dX6_unclearWorks_51 (by decide) ?_
          exact x_pick [(0, .ref (G.ad (d + 5))), (1, .int y4), (2, .int (x2 + 1))] [2, 1, 0] rfl (ih y4 (x2 + 1) hF)
        · replace hF := f_t hc hF
          refine x_iconst (v := 1) C dX6_unclearWorks_41 (by decide) ?_
          refine x_goto (tgt := 46) C dX6_unclearWorks_42 (by decide) ?_
          refine x_iadd C dX6_unclearWorks_46 ?_
          refine x_letI hF (fun y5 hF => ?_)
          refine x_istore_n C [(1, .int y5), (0, .ref (G.ad (d + 5))), (2, .int x2)] dX6_unclearWorks_47 rfl (by decide) rfl ?_
          refine x_iinc C [(2, .int (x2 + 1)), (1, .int y5), (0, .ref (G.ad (d + 5)))] 2 dX6_unclearWorks_48 rfl rfl (by decide) rfl ?_
          refine x_goto (tgt := 4) C dX6_unclearWorks_51 (by decide) ?_
          exact x_pick [(0, .ref (G.ad (d + 5))), (1, .int y5), (2, .int (x2 + 1))] [2, 1, 0] rfl (ih y5 (x2 + 1) hF)
set_option maxHeartbeats 4000000 in
theorem w_X6_unclearWorks {G : Gl} {p : Program} {l : Launch} {e : Env} {s0 : State} {m : MethodId} {args : Array Value} {below : List Frame} {meth : Method} {c : Code} (C : Cx G p s0 m args meth c cX6_unclearWorks 3 RX6 (some .int)) {d : Nat} (hv : isV d) {r : Int32}  (μ : Mu) (hF : f_X6_unclearWorks d μ = some r) : X G p l e 0 0 s0 m args below meth c 3 (some (.int r)) μ μ 0 [(0, .ref (G.ad (d + 5)))] [] := by
  unfold f_X6_unclearWorks at hF
  refine x_iconst (v := 0) C dX6_unclearWorks_0 (by decide) ?_
  refine x_istore_n C [(1, .int 0), (0, .ref (G.ad (d + 5)))] dX6_unclearWorks_1 rfl (by decide) rfl ?_
  refine x_iconst (v := 0) C dX6_unclearWorks_2 (by decide) ?_
  refine x_istore_n C [(2, .int 0), (1, .int 0), (0, .ref (G.ad (d + 5)))] dX6_unclearWorks_3 rfl (by decide) rfl ?_
  exact x_pick [(0, .ref (G.ad (d + 5))), (1, .int 0), (2, .int 0)] [2, 1, 0] rfl (w_X6_unclearWorks_L4 C hv μ fu 0 0 hF)
set_option maxHeartbeats 4000000 in
theorem c_X6_unclearWorks {G : Gl} (l : Launch) (hA : Ap G) {d : Nat} (hv : isV d) {r : Int32}  (μ : Mu) (hF : f_X6_unclearWorks d μ = some r) : Mth G l yX6_unclearWorks cX6_unclearWorks 3 (some .int) 0 0 [.ref (G.ad (d + 5))] (some (.int r)) μ μ := Mth.of hA (by decide) rfl (Nat.le_of_ble_eq_true rfl) (fun p e s0 m args below meth c C => w_X6_unclearWorks C hv μ hF)
set_option maxHeartbeats 4000000 in
theorem w_X6_roomOf_b61 {G : Gl} {p : Program} {l : Launch} {e : Env} {s0 : State} {m : MethodId} {args : Array Value} {below : List Frame} {meth : Method} {c : Code} (C : Cx G p s0 m args meth c cX6_roomOf 3 RX6 (some .int)) {d : Nat} (hv : isV d) {r : Int32}  (μ : Mu) (x1 : Int32) (t0 : Int32) (t1 : Int32) (hF : f_X6_roomOf_b61 d μ x1 t0 t1 = some r) : X G p l e 1 22 s0 m args below meth c 3 (some (.int r)) μ μ 61 [(0, .ref (G.ad (d + 5))), (1, .int x1)] [.int t1, .int t0] := by
  unfold f_X6_roomOf_b61 at hF
  refine x_iadd C dX6_roomOf_61 ?_
  refine x_letI hF (fun y1 hF => ?_)
  refine x_istore_n C [(2, .int y1), (0, .ref (G.ad (d + 5))), (1, .int x1)] dX6_roomOf_62 rfl (by decide) rfl ?_
  refine x_iload_n C 0 dX6_roomOf_63 rfl rfl ?_
  refine x_aload_n C 1 dX6_roomOf_64 rfl rfl ?_
  refine x_getR C fc_X6 fl_X6_46 (shV5 hv) (by decide) rfl dX6_roomOf_65 ?_
  refine x_iload_n C 2 dX6_roomOf_68 rfl rfl ?_
  obtain ⟨hi2, hF⟩ := f_chk hF
  refine x_iald C (shV17 hv) hi2 dX6_roomOf_69 ?_
  refine x_if_eq (tgt := 77) C dX6_roomOf_70 (by decide) (fun hc => ?_) (fun hc => ?_)
  · replace hF := f_t hc hF
    refine x_iconst (v := 0) C dX6_roomOf_77 (by decide) ?_
    refine x_iadd C dX6_roomOf_78 ?_
    refine x_letI hF (fun y3 hF => ?_)
    refine x_istore_n C [(2, .int y3), (0, .ref (G.ad (d + 5))), (1, .int x1)] dX6_roomOf_79 rfl (by decide) rfl ?_
    refine x_iload_n C 0 dX6_roomOf_80 rfl rfl ?_
    exact x_iret C dX6_roomOf_81 (Option.some.inj hF) rfl
  · replace hF := f_f hc hF
    refine x_iconst (v := 1) C dX6_roomOf_73 (by decide) ?_
    refine x_goto (tgt := 78) C dX6_roomOf_74 (by decide) ?_
    refine x_iadd C dX6_roomOf_78 ?_
    refine x_letI hF (fun y4 hF => ?_)
    refine x_istore_n C [(2, .int y4), (0, .ref (G.ad (d + 5))), (1, .int x1)] dX6_roomOf_79 rfl (by decide) rfl ?_
    refine x_iload_n C 0 dX6_roomOf_80 rfl rfl ?_
    exact x_iret C dX6_roomOf_81 (Option.some.inj hF) rfl
set_option maxHeartbeats 4000000 in
theorem w_X6_roomOf_b36 {G : Gl} {p : Program} {l : Launch} {e : Env} {s0 : State} {m : MethodId} {args : Array Value} {below : List Frame} {meth : Method} {c : Code} (C : Cx G p s0 m args meth c cX6_roomOf 3 RX6 (some .int)) {d : Nat} (hv : isV d) {r : Int32}  (μ : Mu) (x1 : Int32) (t0 : Int32) (t1 : Int32) (hF : f_X6_roomOf_b36 d μ x1 t0 t1 = some r) : X G p l e 1 22 s0 m args below meth c 3 (some (.int r)) μ μ 36 [(0, .ref (G.ad (d + 5))), (1, .int x1)] [.int t1, .int t0] := by
  unfold f_X6_roomOf_b36 at hF
  refine x_iadd C dX6_roomOf_36 ?_
  refine x_letI hF (fun y1 hF => ?_)
  refine x_istore_n C [(2, .int y1), (0, .ref (G.ad (d + 5))), (1, .int x1)] dX6_roomOf_37 rfl (by decide) rfl ?_
  refine x_iload_n C 0 dX6_roomOf_38 rfl rfl ?_
  refine x_aload_n C 1 dX6_roomOf_39 rfl rfl ?_
  refine x_getR C fc_X6 fl_X6_49 (shV5 hv) (by decide) rfl dX6_roomOf_40 ?_
  refine x_iload_n C 2 dX6_roomOf_43 rfl rfl ?_
  refine x_aload_n C 1 dX6_roomOf_44 rfl rfl ?_
  refine x_getR C fc_X6 fl_X6_36 (shV5 hv) (by decide) rfl dX6_roomOf_45 ?_
  refine x_iload_n C 2 dX6_roomOf_48 rfl rfl ?_
  obtain ⟨hi2, hF⟩ := f_chk hF
  refine x_iald C (shV14 hv) hi2 dX6_roomOf_49 ?_
  obtain ⟨q3, hq3, hF⟩ := f_bind hF
  refine x_cVi (rest := [.int y1]) C (c_X4_isBeyond l C.2.2.2.2.2.2.2.2 x1 (μ (d + 14) (ix x1)) μ hq3) cw_X6_127 sh_1 rfl rfl ⟨by decide, by decide⟩ rfl rfl (Nat.le_of_ble_eq_true rfl) dX6_roomOf_50 ?_
  refine x_if_eq (tgt := 60) C dX6_roomOf_53 (by decide) (fun hc => ?_) (fun hc => ?_)
  · replace hF := f_t hc hF
    refine x_iconst (v := 0) C dX6_roomOf_60 (by decide) ?_
    exact x_pick [(0, .ref (G.ad (d + 5))), (1, .int x1)] [1, 2] rfl (w_X6_roomOf_b61 C hv μ x1 y1 0 hF)
  · replace hF := f_f hc hF
    refine x_iconst (v := 5) C dX6_roomOf_56 (by decide) ?_
    refine x_goto (tgt := 61) C dX6_roomOf_57 (by decide) ?_
    exact x_pick [(0, .ref (G.ad (d + 5))), (1, .int x1)] [1, 2] rfl (w_X6_roomOf_b61 C hv μ x1 y1 5 hF)
set_option maxHeartbeats 4000000 in
theorem w_X6_roomOf {G : Gl} {p : Program} {l : Launch} {e : Env} {s0 : State} {m : MethodId} {args : Array Value} {below : List Frame} {meth : Method} {c : Code} (C : Cx G p s0 m args meth c cX6_roomOf 3 RX6 (some .int)) {d : Nat} (hv : isV d) {r : Int32}  (x1 : Int32) (μ : Mu) (hF : f_X6_roomOf d x1 μ = some r) : X G p l e 1 22 s0 m args below meth c 3 (some (.int r)) μ μ 0 [(0, .ref (G.ad (d + 5))), (1, .int x1)] [] := by
  unfold f_X6_roomOf at hF
  refine x_bipush (v := 8) C dX6_roomOf_0 (by decide) ?_
  refine x_aload_n C 0 dX6_roomOf_2 rfl rfl ?_
  refine x_getR C fc_X6 fl_X6_36 (shV5 hv) (by decide) rfl dX6_roomOf_3 ?_
  refine x_iload_n C 1 dX6_roomOf_6 rfl rfl ?_
  obtain ⟨hi1, hF⟩ := f_chk hF
  refine x_iald C (shV14 hv) hi1 dX6_roomOf_7 ?_
  refine x_imul C dX6_roomOf_8 ?_
  refine x_iconst (v := 4) C dX6_roomOf_9 (by decide) ?_
  refine x_iadd C dX6_roomOf_10 ?_
  refine x_letI hF (fun y2 hF => ?_)
  refine x_istore_n C [(2, .int y2), (0, .ref (G.ad (d + 5))), (1, .int x1)] dX6_roomOf_11 rfl (by decide) rfl ?_
  refine x_iload_n C 0 dX6_roomOf_12 rfl rfl ?_
  refine x_aload_n C 1 dX6_roomOf_13 rfl rfl ?_
  refine x_getR C fc_X6 fl_X6_39 (shV5 hv) (by decide) rfl dX6_roomOf_14 ?_
  refine x_iload_n C 2 dX6_roomOf_17 rfl rfl ?_
  refine x_zald C (shV15 hv) hi1 dX6_roomOf_18 ?_
  refine x_if_eq (tgt := 35) C dX6_roomOf_19 (by decide) (fun hc => ?_) (fun hc => ?_)
  · replace hF := f_t hc hF
    refine x_iconst (v := 0) C dX6_roomOf_35 (by decide) ?_
    exact x_pick [(0, .ref (G.ad (d + 5))), (1, .int x1)] [1, 2] rfl (w_X6_roomOf_b36 C hv μ x1 y2 0 hF)
  · replace hF := f_f hc hF
    refine x_iconst (v := 2) C dX6_roomOf_22 (by decide) ?_
    refine x_aload_n C 1 dX6_roomOf_23 rfl rfl ?_
    refine x_getR C fc_X6 fl_X6_49 (shV5 hv) (by decide) rfl dX6_roomOf_24 ?_
    refine x_iload_n C 2 dX6_roomOf_27 rfl rfl ?_
    obtain ⟨q3, hq3, hF⟩ := f_bind hF
    refine x_cVi (rest := [.int 2, .int y2]) C (c_X4_initialsOf l C.2.2.2.2.2.2.2.2 x1 μ hq3) cw_X6_124 sh_1 rfl rfl ⟨by decide, by decide⟩ rfl rfl (Nat.le_of_ble_eq_true rfl) dX6_roomOf_28 ?_
    refine x_imul C dX6_roomOf_31 ?_
    refine x_goto (tgt := 36) C dX6_roomOf_32 (by decide) ?_
    exact x_pick [(0, .ref (G.ad (d + 5))), (1, .int x1)] [1, 2] rfl (w_X6_roomOf_b36 C hv μ x1 y2 (2 * q3) hF)
set_option maxHeartbeats 4000000 in
theorem c_X6_roomOf {G : Gl} (l : Launch) (hA : Ap G) {d : Nat} (hv : isV d) {r : Int32}  (x1 : Int32) (μ : Mu) (hF : f_X6_roomOf d x1 μ = some r) : Mth G l yX6_roomOf cX6_roomOf 3 (some .int) 1 22 [.ref (G.ad (d + 5)), .int x1] (some (.int r)) μ μ := Mth.of hA (by decide) rfl (Nat.le_of_ble_eq_true rfl) (fun p e s0 m args below meth c C => w_X6_roomOf C hv x1 μ hF)
