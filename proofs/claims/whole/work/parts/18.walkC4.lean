set_option maxHeartbeats 4000000 in
theorem w_X7_call {G : Gl} {p : Program} {l : Launch} {e : Env} {s0 : State} {m : MethodId} {args : Array Value} {below : List Frame} {meth : Method} {c : Code} (C : Cx G p s0 m args meth c cX7_call 5 RX7 (some .int)) {r : Int32} {μf : Mu}  (x1 : Int32) (x2 : Int32) (x3 : Int32) (μ : Mu) (hF : f_X7_call x1 x2 x3 μ = some (r, μf)) : X G p l e 1 23 s0 m args below meth c 5 (some (.int r)) μf μ 0 [(0, .ref (G.ad 0)), (1, .int x1), (2, .int x2), (3, .int x3)] [] := by
  unfold f_X7_call at hF
  refine x_aload_n C 0 dX7_call_0 rfl rfl ?_
  refine x_getR C fc_X7 fl_X7_26 sh_0 (by decide) rfl dX7_call_1 ?_
  refine x_iload_n C 1 dX7_call_4 rfl rfl ?_
  refine x_cVi (rest := []) C (c_X1_has l C.2.2.2.2.2.2.2.2 isD_13 x1 μ) cw_X7_171 sh_13 rfl rfl ⟨by decide, by decide⟩ rfl rfl (Nat.le_of_ble_eq_true rfl) dX7_call_5 ?_
  refine x_if_eq (tgt := 22) C dX7_call_8 (by decide) (fun hc => ?_) (fun hc => ?_)
  · replace hF := f_t hc hF
    refine x_sipush (v := (-1001)) C dX7_call_22 (by decide) ?_
    exact x_iret C dX7_call_25 (Prod.mk.inj (Option.some.inj hF)).1 (Prod.mk.inj (Option.some.inj hF)).2
  · replace hF := f_f hc hF
    refine x_aload_n C 0 dX7_call_11 rfl rfl ?_
    refine x_getR C fc_X7 fl_X7_10 sh_0 (by decide) rfl dX7_call_12 ?_
    refine x_iload_n C 2 dX7_call_15 rfl rfl ?_
    refine x_cVi (rest := []) C (c_X4_has l C.2.2.2.2.2.2.2.2 x2 μ) cw_X7_96 sh_1 rfl rfl ⟨by decide, by decide⟩ rfl rfl (Nat.le_of_ble_eq_true rfl) dX7_call_16 ?_
    refine x_if_ne (tgt := 26) C dX7_call_19 (by decide) (fun hc => ?_) (fun hc => ?_)
    · replace hF := f_f hc hF
      refine x_iload_n C 3 dX7_call_26 rfl rfl ?_
      refine x_iconst (v := (-1)) C dX7_call_27 (by decide) ?_
      refine x_sipush (v := 9999) C dX7_call_28 (by decide) ?_
      refine x_cSi (rest := []) C (c_X7_within l C.2.2.2.2.2.2.2.2 x3 (-1) 9999 μ) cw_X7_78 ⟨by decide, by decide⟩ rfl rfl (Nat.le_of_ble_eq_true rfl) dX7_call_31 ?_
      refine x_if_ne (tgt := 41) C dX7_call_34 (by decide) (fun hc => ?_) (fun hc => ?_)
      · replace hF := f_f hc hF
        refine x_aload_n C 0 dX7_call_41 rfl rfl ?_
        refine x_getR C fc_X7 fl_X7_26 sh_0 (by decide) rfl dX7_call_42 ?_
        refine x_getR C fc_X1 fl_X7_172 sh_13 (by decide) rfl dX7_call_45 ?_
        refine x_iload_n C 1 dX7_call_48 rfl rfl ?_
        obtain ⟨hi1, hF⟩ := f_chk hF
        refine x_iald C sh_15 hi1 dX7_call_49 ?_
        refine x_iconst (v := 5) C dX7_call_50 (by decide) ?_
        refine x_icmp_ge (tgt := 66) C dX7_call_51 (by decide) (fun hc => ?_) (fun hc => ?_)
        · replace hF := f_t hc hF
          refine x_sipush (v := (-1004)) C dX7_call_66 (by decide) ?_
          exact x_iret C dX7_call_69 (Prod.mk.inj (Option.some.inj hF)).1 (Prod.mk.inj (Option.some.inj hF)).2
        · replace hF := f_f hc hF
          refine x_aload_n C 0 dX7_call_54 rfl rfl ?_
          refine x_getR C fc_X7 fl_X7_19 sh_0 (by decide) rfl dX7_call_55 ?_
          refine x_getI C fc_X0 fl_X7_182 sh_10 (by decide) rfl dX7_call_58 ?_
          refine x_bipush (v := 100) C dX7_call_61 (by decide) ?_
          refine x_icmp_lt (tgt := 70) C dX7_call_63 (by decide) (fun hc => ?_) (fun hc => ?_)
          · replace hF := f_t hc hF
            refine x_aload_n C 0 dX7_call_70 rfl rfl ?_
            refine x_getR C fc_X7 fl_X7_19 sh_0 (by decide) rfl dX7_call_71 ?_
            refine x_iload_n C 2 dX7_call_74 rfl rfl ?_
            refine x_iload_n C 3 dX7_call_75 rfl rfl ?_
            obtain ⟨q2, hq2, hF⟩ := f_bind hF
            refine x_cVi (rest := []) C (c_X0_addCall l C.2.2.2.2.2.2.2.2 x2 x3 μ hq2) cw_X7_183 sh_10 rfl rfl ⟨by decide, by decide⟩ rfl rfl (Nat.le_of_ble_eq_true rfl) dX7_call_76 ?_
            refine x_istore C [(4, .int q2.1), (0, .ref (G.ad 0)), (1, .int x1), (2, .int x2), (3, .int x3)] dX7_call_79 (by decide) rfl ?_
            refine x_aload_n C 1 dX7_call_81 rfl rfl ?_
            refine x_getR C fc_X7 fl_X7_26 sh_0 (by decide) rfl dX7_call_82 ?_
            refine x_iload_n C 2 dX7_call_85 rfl rfl ?_
            refine x_iload C 0 dX7_call_86 rfl ?_
            obtain ⟨q3, hq3, hF⟩ := f_bind hF
            refine x_cVv (rest := []) C (c_X1_addCall l C.2.2.2.2.2.2.2.2 isD_13 x1 q2.1 q2.2 hq3) cw_X7_186 sh_13 rfl rfl ⟨by decide, by decide⟩ rfl rfl (Nat.le_of_ble_eq_true rfl) dX7_call_88 ?_
            refine x_aload_n C 1 dX7_call_91 rfl rfl ?_
            obtain ⟨q4, hq4, hF⟩ := f_bind hF
            refine x_cVv (rest := []) C (c_X7_unsettle l C.2.2.2.2.2.2.2.2 q3 hq4) cw_X7_93 sh_0 rfl rfl ⟨by decide, by decide⟩ rfl rfl (Nat.le_of_ble_eq_true rfl) dX7_call_92 ?_
            refine x_iload C 0 dX7_call_95 rfl ?_
            exact x_iret C dX7_call_97 (Prod.mk.inj (Option.some.inj hF)).1 (Prod.mk.inj (Option.some.inj hF)).2
          · replace hF := f_f hc hF
            refine x_sipush (v := (-1004)) C dX7_call_66 (by decide) ?_
            exact x_iret C dX7_call_69 (Prod.mk.inj (Option.some.inj hF)).1 (Prod.mk.inj (Option.some.inj hF)).2
      · replace hF := f_t hc hF
        refine x_sipush (v := (-1002)) C dX7_call_37 (by decide) ?_
        exact x_iret C dX7_call_40 (Prod.mk.inj (Option.some.inj hF)).1 (Prod.mk.inj (Option.some.inj hF)).2
    · replace hF := f_t hc hF
      refine x_sipush (v := (-1001)) C dX7_call_22 (by decide) ?_
      exact x_iret C dX7_call_25 (Prod.mk.inj (Option.some.inj hF)).1 (Prod.mk.inj (Option.some.inj hF)).2
set_option maxHeartbeats 4000000 in
theorem c_X7_call {G : Gl} (l : Launch) (hA : Ap G) {r : Int32} {μf : Mu}  (x1 : Int32) (x2 : Int32) (x3 : Int32) (μ : Mu) (hF : f_X7_call x1 x2 x3 μ = some (r, μf)) : Mth G l yX7_call cX7_call 5 (some .int) 1 23 [.ref (G.ad 0), .int x1, .int x2, .int x3] (some (.int r)) μf μ := Mth.of hA (by decide) rfl (Nat.le_of_ble_eq_true rfl) (fun p e s0 m args below meth c C => w_X7_call C x1 x2 x3 μ hF)
set_option maxHeartbeats 4000000 in
theorem w_X7_count {G : Gl} {p : Program} {l : Launch} {e : Env} {s0 : State} {m : MethodId} {args : Array Value} {below : List Frame} {meth : Method} {c : Code} (C : Cx G p s0 m args meth c cX7_count 2 RX7 (some .int)) {r : Int32} {μf : Mu}  (x1 : Int32) (μ : Mu) (hF : f_X7_count x1 μ = some (r, μf)) : X G p l e 6 151 s0 m args below meth c 2 (some (.int r)) μf μ 0 [(0, .ref (G.ad 0)), (1, .int x1)] [] := by
  unfold f_X7_count at hF
  refine x_iload_n C 1 dX7_count_0 rfl rfl ?_
  by_cases hs0 : x1 = 0
  · replace hF := f_t hs0 hF
    refine x_tableIn (tgt := 52) (off := 51) C dX7_count_1 (by rw [hs0]; decide) (by rw [hs0]; decide) (by rw [hs0]; decide +kernel) (by decide) ?_
    refine x_aload_n C 0 dX7_count_52 rfl rfl ?_
    refine x_getR C fc_X7 fl_X7_10 sh_0 (by decide) rfl dX7_count_53 ?_
    refine x_getI C fc_X4 fl_X7_81 sh_1 (by decide) rfl dX7_count_56 ?_
    exact x_iret C dX7_count_59 (Prod.mk.inj (Option.some.inj hF)).1 (Prod.mk.inj (Option.some.inj hF)).2
  · replace hF := f_f hs0 hF
    by_cases hs1 : x1 = 1
    · replace hF := f_t hs1 hF
      refine x_tableIn (tgt := 60) (off := 59) C dX7_count_1 (by rw [hs1]; decide) (by rw [hs1]; decide) (by rw [hs1]; decide +kernel) (by decide) ?_
      refine x_aload_n C 0 dX7_count_60 rfl rfl ?_
      refine x_getR C fc_X7 fl_X7_26 sh_0 (by decide) rfl dX7_count_61 ?_
      obtain ⟨q1, hq1, hF⟩ := f_bind hF
      refine x_cVi (rest := []) C (c_X1_joinedWorks l C.2.2.2.2.2.2.2.2 isD_13 μ hq1) cw_X7_227 sh_13 rfl rfl ⟨by decide, by decide⟩ rfl rfl (Nat.le_of_ble_eq_true rfl) dX7_count_64 ?_
      exact x_iret C dX7_count_67 (Prod.mk.inj (Option.some.inj hF)).1 (Prod.mk.inj (Option.some.inj hF)).2
    · replace hF := f_f hs1 hF
      by_cases hs2 : x1 = 2
      · replace hF := f_t hs2 hF
        refine x_tableIn (tgt := 68) (off := 67) C dX7_count_1 (by rw [hs2]; decide) (by rw [hs2]; decide) (by rw [hs2]; decide +kernel) (by decide) ?_
        refine x_aload_n C 0 dX7_count_68 rfl rfl ?_
        refine x_getR C fc_X7 fl_X7_26 sh_0 (by decide) rfl dX7_count_69 ?_
        refine x_getI C fc_X1 fl_X7_164 sh_13 (by decide) rfl dX7_count_72 ?_
        exact x_iret C dX7_count_75 (Prod.mk.inj (Option.some.inj hF)).1 (Prod.mk.inj (Option.some.inj hF)).2
      · replace hF := f_f hs2 hF
        by_cases hs3 : x1 = 3
        · replace hF := f_t hs3 hF
          refine x_tableIn (tgt := 76) (off := 75) C dX7_count_1 (by rw [hs3]; decide) (by rw [hs3]; decide) (by rw [hs3]; decide +kernel) (by decide) ?_
          refine x_aload_n C 0 dX7_count_76 rfl rfl ?_
          obtain ⟨q2, hq2, hF⟩ := f_bind hF
          refine x_cVr (rest := []) C (c_X7_settledView l C.2.2.2.2.2.2.2.2 μ hq2) cw_X7_123 sh_0 rfl rfl ⟨by decide, by decide⟩ rfl rfl (Nat.le_of_ble_eq_true rfl) dX7_count_77 ?_
          refine x_getI C fc_X6 fl_X7_231 sh_18 (by decide) rfl dX7_count_80 ?_
          exact x_iret C dX7_count_83 (Prod.mk.inj (Option.some.inj hF)).1 (Prod.mk.inj (Option.some.inj hF)).2
        · replace hF := f_f hs3 hF
          by_cases hs4 : x1 = 4
          · replace hF := f_t hs4 hF
            refine x_tableIn (tgt := 84) (off := 83) C dX7_count_1 (by rw [hs4]; decide) (by rw [hs4]; decide) (by rw [hs4]; decide +kernel) (by decide) ?_
            refine x_aload_n C 0 dX7_count_84 rfl rfl ?_
            obtain ⟨q3, hq3, hF⟩ := f_bind hF
            refine x_cVr (rest := []) C (c_X7_settledView l C.2.2.2.2.2.2.2.2 μ hq3) cw_X7_123 sh_0 rfl rfl ⟨by decide, by decide⟩ rfl rfl (Nat.le_of_ble_eq_true rfl) dX7_count_85 ?_
            refine x_getI C fc_X6 fl_X7_158 sh_18 (by decide) rfl dX7_count_88 ?_
            exact x_iret C dX7_count_91 (Prod.mk.inj (Option.some.inj hF)).1 (Prod.mk.inj (Option.some.inj hF)).2
          · replace hF := f_f hs4 hF
            by_cases hs5 : x1 = 5
            · replace hF := f_t hs5 hF
              refine x_tableIn (tgt := 92) (off := 91) C dX7_count_1 (by rw [hs5]; decide) (by rw [hs5]; decide) (by rw [hs5]; decide +kernel) (by decide) ?_
              refine x_aload_n C 0 dX7_count_92 rfl rfl ?_
              obtain ⟨q4, hq4, hF⟩ := f_bind hF
              refine x_cVr (rest := []) C (c_X7_settledView l C.2.2.2.2.2.2.2.2 μ hq4) cw_X7_123 sh_0 rfl rfl ⟨by decide, by decide⟩ rfl rfl (Nat.le_of_ble_eq_true rfl) dX7_count_93 ?_
              obtain ⟨q5, hq5, hF⟩ := f_bind hF
              refine x_cVi (rest := []) C (c_X6_unclearWorks l C.2.2.2.2.2.2.2.2 isV_13 q4 hq5) cw_X7_234 sh_18 rfl rfl ⟨by decide, by decide⟩ rfl rfl (Nat.le_of_ble_eq_true rfl) dX7_count_96 ?_
              exact x_iret C dX7_count_99 (Prod.mk.inj (Option.some.inj hF)).1 (Prod.mk.inj (Option.some.inj hF)).2
            · replace hF := f_f hs5 hF
              by_cases hs6 : x1 = 6
              · replace hF := f_t hs6 hF
                refine x_tableIn (tgt := 100) (off := 99) C dX7_count_1 (by rw [hs6]; decide) (by rw [hs6]; decide) (by rw [hs6]; decide +kernel) (by decide) ?_
                refine x_aload_n C 0 dX7_count_100 rfl rfl ?_
                obtain ⟨q6, hq6, hF⟩ := f_bind hF
                refine x_cVr (rest := []) C (c_X7_settledView l C.2.2.2.2.2.2.2.2 μ hq6) cw_X7_123 sh_0 rfl rfl ⟨by decide, by decide⟩ rfl rfl (Nat.le_of_ble_eq_true rfl) dX7_count_101 ?_
                obtain ⟨q7, hq7, hF⟩ := f_bind hF
                refine x_cVi (rest := []) C (c_X6_letteredWorks l C.2.2.2.2.2.2.2.2 isV_13 q6 hq7) cw_X7_237 sh_18 rfl rfl ⟨by decide, by decide⟩ rfl rfl (Nat.le_of_ble_eq_true rfl) dX7_count_104 ?_
                exact x_iret C dX7_count_107 (Prod.mk.inj (Option.some.inj hF)).1 (Prod.mk.inj (Option.some.inj hF)).2
              · replace hF := f_f hs6 hF
                by_cases hs7 : x1 = 7
                · replace hF := f_t hs7 hF
                  refine x_tableIn (tgt := 108) (off := 107) C dX7_count_1 (by rw [hs7]; decide) (by rw [hs7]; decide) (by rw [hs7]; decide +kernel) (by decide) ?_
                  refine x_aload_n C 0 dX7_count_108 rfl rfl ?_
                  obtain ⟨q8, hq8, hF⟩ := f_bind hF
                  refine x_cVr (rest := []) C (c_X7_settledView l C.2.2.2.2.2.2.2.2 μ hq8) cw_X7_123 sh_0 rfl rfl ⟨by decide, by decide⟩ rfl rfl (Nat.le_of_ble_eq_true rfl) dX7_count_109 ?_
                  obtain ⟨q9, hq9, hF⟩ := f_bind hF
                  refine x_cVi (rest := []) C (c_X6_roomOfAll l C.2.2.2.2.2.2.2.2 isV_13 q8 hq9) cw_X7_240 sh_18 rfl rfl ⟨by decide, by decide⟩ rfl rfl (Nat.le_of_ble_eq_true rfl) dX7_count_112 ?_
                  exact x_iret C dX7_count_115 (Prod.mk.inj (Option.some.inj hF)).1 (Prod.mk.inj (Option.some.inj hF)).2
                · replace hF := f_f hs7 hF
                  by_cases hs8 : x1 = 8
                  · replace hF := f_t hs8 hF
                    refine x_tableIn (tgt := 116) (off := 115) C dX7_count_1 (by rw [hs8]; decide) (by rw [hs8]; decide) (by rw [hs8]; decide +kernel) (by decide) ?_
                    refine x_aload_n C 0 dX7_count_116 rfl rfl ?_
                    refine x_getR C fc_X7 fl_X7_56 sh_0 (by decide) rfl dX7_count_117 ?_
                    refine x_getI C fc_X3 fl_X7_243 sh_71 (by decide) rfl dX7_count_120 ?_
                    exact x_iret C dX7_count_123 (Prod.mk.inj (Option.some.inj hF)).1 (Prod.mk.inj (Option.some.inj hF)).2
                  · replace hF := f_f hs8 hF
                    refine x_tableOut (tgt := 124) C dX7_count_1 (sw_out_0_8 hs0 hs1 hs2 hs3 hs4 hs5 hs6 hs7 hs8) (by decide) ?_
                    refine x_sipush (v := (-1002)) C dX7_count_124 (by decide) ?_
                    exact x_iret C dX7_count_127 (Prod.mk.inj (Option.some.inj hF)).1 (Prod.mk.inj (Option.some.inj hF)).2
set_option maxHeartbeats 4000000 in
theorem c_X7_count {G : Gl} (l : Launch) (hA : Ap G) {r : Int32} {μf : Mu}  (x1 : Int32) (μ : Mu) (hF : f_X7_count x1 μ = some (r, μf)) : Mth G l yX7_count cX7_count 2 (some .int) 6 151 [.ref (G.ad 0), .int x1] (some (.int r)) μf μ := Mth.of hA (by decide) rfl (Nat.le_of_ble_eq_true rfl) (fun p e s0 m args below meth c C => w_X7_count C x1 μ hF)
set_option maxHeartbeats 4000000 in
theorem w_X7_cut {G : Gl} {p : Program} {l : Launch} {e : Env} {s0 : State} {m : MethodId} {args : Array Value} {below : List Frame} {meth : Method} {c : Code} (C : Cx G p s0 m args meth c cX7_cut 3 RX7 (some .int)) {r : Int32} {μf : Mu}  (x1 : Int32) (μ : Mu) (hF : f_X7_cut x1 μ = some (r, μf)) : X G p l e 3 84 s0 m args below meth c 3 (some (.int r)) μf μ 0 [(0, .ref (G.ad 0)), (1, .int x1)] [] := by
  unfold f_X7_cut at hF
  refine x_aload_n C 0 dX7_cut_0 rfl rfl ?_
  refine x_getR C fc_X7 fl_X7_26 sh_0 (by decide) rfl dX7_cut_1 ?_
  refine x_iload_n C 1 dX7_cut_4 rfl rfl ?_
  refine x_cVi (rest := []) C (c_X1_has l C.2.2.2.2.2.2.2.2 isD_13 x1 μ) cw_X7_171 sh_13 rfl rfl ⟨by decide, by decide⟩ rfl rfl (Nat.le_of_ble_eq_true rfl) dX7_cut_5 ?_
  refine x_if_ne (tgt := 15) C dX7_cut_8 (by decide) (fun hc => ?_) (fun hc => ?_)
  · replace hF := f_f hc hF
    refine x_aload_n C 0 dX7_cut_15 rfl rfl ?_
    refine x_getR C fc_X7 fl_X7_26 sh_0 (by decide) rfl dX7_cut_16 ?_
    refine x_getR C fc_X1 fl_X7_172 sh_13 (by decide) rfl dX7_cut_19 ?_
    refine x_iload_n C 1 dX7_cut_22 rfl rfl ?_
    obtain ⟨hi1, hF⟩ := f_chk hF
    refine x_iald C sh_15 hi1 dX7_cut_23 ?_
    refine x_letI hF (fun y2 hF => ?_)
    refine x_istore_n C [(2, .int y2), (0, .ref (G.ad 0)), (1, .int x1)] dX7_cut_24 rfl (by decide) rfl ?_
    refine x_aload_n C 1 dX7_cut_25 rfl rfl ?_
    refine x_getR C fc_X7 fl_X7_26 sh_0 (by decide) rfl dX7_cut_26 ?_
    refine x_iload_n C 2 dX7_cut_29 rfl rfl ?_
    obtain ⟨q3, hq3, hF⟩ := f_bind hF
    refine x_cVv (rest := []) C (c_X1_removeNote l C.2.2.2.2.2.2.2.2 isD_13 x1 μ hq3) cw_X7_175 sh_13 rfl rfl ⟨by decide, by decide⟩ rfl rfl (Nat.le_of_ble_eq_true rfl) dX7_cut_30 ?_
    refine x_aload_n C 1 dX7_cut_33 rfl rfl ?_
    obtain ⟨q4, hq4, hF⟩ := f_bind hF
    refine x_cVv (rest := []) C (c_X7_unsettle l C.2.2.2.2.2.2.2.2 q3 hq4) cw_X7_93 sh_0 rfl rfl ⟨by decide, by decide⟩ rfl rfl (Nat.le_of_ble_eq_true rfl) dX7_cut_34 ?_
    refine x_iload_n C 0 dX7_cut_37 rfl rfl ?_
    exact x_iret C dX7_cut_38 (Prod.mk.inj (Option.some.inj hF)).1 (Prod.mk.inj (Option.some.inj hF)).2
  · replace hF := f_t hc hF
    refine x_sipush (v := (-1001)) C dX7_cut_11 (by decide) ?_
    exact x_iret C dX7_cut_14 (Prod.mk.inj (Option.some.inj hF)).1 (Prod.mk.inj (Option.some.inj hF)).2
set_option maxHeartbeats 4000000 in
theorem c_X7_cut {G : Gl} (l : Launch) (hA : Ap G) {r : Int32} {μf : Mu}  (x1 : Int32) (μ : Mu) (hF : f_X7_cut x1 μ = some (r, μf)) : Mth G l yX7_cut cX7_cut 3 (some .int) 3 84 [.ref (G.ad 0), .int x1] (some (.int r)) μf μ := Mth.of hA (by decide) rfl (Nat.le_of_ble_eq_true rfl) (fun p e s0 m args below meth c C => w_X7_cut C x1 μ hF)
set_option maxHeartbeats 4000000 in
theorem w_X7_drop {G : Gl} {p : Program} {l : Launch} {e : Env} {s0 : State} {m : MethodId} {args : Array Value} {below : List Frame} {meth : Method} {c : Code} (C : Cx G p s0 m args meth c cX7_drop 4 RX7 (some .int)) {r : Int32} {μf : Mu}  (x1 : Int32) (μ : Mu) (hF : f_X7_drop x1 μ = some (r, μf)) : X G p l e 6 151 s0 m args below meth c 4 (some (.int r)) μf μ 0 [(0, .ref (G.ad 0)), (1, .int x1)] [] := by
  unfold f_X7_drop at hF
  refine x_aload_n C 0 dX7_drop_0 rfl rfl ?_
  obtain ⟨q1, hq1, hF⟩ := f_bind hF
  refine x_cVr (rest := []) C (c_X7_settledView l C.2.2.2.2.2.2.2.2 μ hq1) cw_X7_123 sh_0 rfl rfl ⟨by decide, by decide⟩ rfl rfl (Nat.le_of_ble_eq_true rfl) dX7_drop_1 ?_
  refine x_astore_n C [(2, .ref (G.ad 18)), (0, .ref (G.ad 0)), (1, .int x1)] dX7_drop_4 rfl (by decide) rfl ?_
  refine x_aload_n C 0 dX7_drop_5 rfl rfl ?_
  refine x_iload_n C 2 dX7_drop_6 rfl rfl ?_
  obtain ⟨q2, hq2, hF⟩ := f_bind hF
  refine x_cVi (rest := []) C (c_X6_stands l C.2.2.2.2.2.2.2.2 isV_13 x1 q1 hq2) cw_X7_188 sh_18 rfl rfl ⟨by decide, by decide⟩ rfl rfl (Nat.le_of_ble_eq_true rfl) dX7_drop_7 ?_
  refine x_if_ne (tgt := 17) C dX7_drop_10 (by decide) (fun hc => ?_) (fun hc => ?_)
  · replace hF := f_f hc hF
    refine x_aload_n C 0 dX7_drop_17 rfl rfl ?_
    refine x_getR C fc_X6 fl_X7_191 sh_18 (by decide) rfl dX7_drop_18 ?_
    refine x_iload_n C 2 dX7_drop_21 rfl rfl ?_
    obtain ⟨hi3, hF⟩ := f_chk hF
    refine x_iald C sh_24 hi3 dX7_drop_22 ?_
    refine x_letI hF (fun y4 hF => ?_)
    refine x_istore_n C [(3, .int y4), (2, .ref (G.ad 18)), (0, .ref (G.ad 0)), (1, .int x1)] dX7_drop_23 rfl (by decide) rfl ?_
    refine x_aload_n C 2 dX7_drop_24 rfl rfl ?_
    refine x_getR C fc_X7 fl_X7_26 sh_0 (by decide) rfl dX7_drop_25 ?_
    refine x_aload_n C 1 dX7_drop_28 rfl rfl ?_
    refine x_getR C fc_X6 fl_X7_194 sh_18 (by decide) rfl dX7_drop_29 ?_
    refine x_iload_n C 0 dX7_drop_32 rfl rfl ?_
    obtain ⟨hi5, hF⟩ := f_chk hF
    refine x_iald C sh_22 hi5 dX7_drop_33 ?_
    refine x_aload_n C 1 dX7_drop_34 rfl rfl ?_
    refine x_getR C fc_X6 fl_X7_197 sh_18 (by decide) rfl dX7_drop_35 ?_
    refine x_iload_n C 0 dX7_drop_38 rfl rfl ?_
    refine x_iald C sh_23 hi5 dX7_drop_39 ?_
    obtain ⟨q6, hq6, hF⟩ := f_bind hF
    refine x_cVv (rest := []) C (c_X1_removeCall l C.2.2.2.2.2.2.2.2 isD_13 (q1 22 (ix y4)) (q1 23 (ix y4)) q1 hq6) cw_X7_200 sh_13 rfl rfl ⟨by decide, by decide⟩ rfl rfl (Nat.le_of_ble_eq_true rfl) dX7_drop_40 ?_
    refine x_aload_n C 2 dX7_drop_43 rfl rfl ?_
    obtain ⟨q7, hq7, hF⟩ := f_bind hF
    refine x_cVv (rest := []) C (c_X7_unsettle l C.2.2.2.2.2.2.2.2 q6 hq7) cw_X7_93 sh_0 rfl rfl ⟨by decide, by decide⟩ rfl rfl (Nat.le_of_ble_eq_true rfl) dX7_drop_44 ?_
    refine x_iconst (v := 1) C dX7_drop_47 (by decide) ?_
    exact x_iret C dX7_drop_48 (Prod.mk.inj (Option.some.inj hF)).1 (Prod.mk.inj (Option.some.inj hF)).2
  · replace hF := f_t hc hF
    refine x_sipush (v := (-1001)) C dX7_drop_13 (by decide) ?_
    exact x_iret C dX7_drop_16 (Prod.mk.inj (Option.some.inj hF)).1 (Prod.mk.inj (Option.some.inj hF)).2
set_option maxHeartbeats 4000000 in
theorem c_X7_drop {G : Gl} (l : Launch) (hA : Ap G) {r : Int32} {μf : Mu}  (x1 : Int32) (μ : Mu) (hF : f_X7_drop x1 μ = some (r, μf)) : Mth G l yX7_drop cX7_drop 4 (some .int) 6 151 [.ref (G.ad 0), .int x1] (some (.int r)) μf μ := Mth.of hA (by decide) rfl (Nat.le_of_ble_eq_true rfl) (fun p e s0 m args below meth c C => w_X7_drop C x1 μ hF)
set_option maxHeartbeats 4000000 in
theorem w_X7_fault {G : Gl} {p : Program} {l : Launch} {e : Env} {s0 : State} {m : MethodId} {args : Array Value} {below : List Frame} {meth : Method} {c : Code} (C : Cx G p s0 m args meth c cX7_fault 1 RX7 (some .int)) {r : Int32}  (μ : Mu) (hF : f_X7_fault μ = r) : X G p l e 0 0 s0 m args below meth c 1 (some (.int r)) μ μ 0 [(0, .ref (G.ad 0))] [] := by
  unfold f_X7_fault at hF
  refine x_aload_n C 0 dX7_fault_0 rfl rfl ?_
  refine x_getR C fc_X7 fl_X7_56 sh_0 (by decide) rfl dX7_fault_1 ?_
  refine x_getI C fc_X3 fl_X7_261 sh_71 (by decide) rfl dX7_fault_4 ?_
  exact x_iret C dX7_fault_7 hF rfl
set_option maxHeartbeats 4000000 in
theorem c_X7_fault {G : Gl} (l : Launch) (hA : Ap G) (μ : Mu) : Mth G l yX7_fault cX7_fault 1 (some .int) 0 0 [.ref (G.ad 0)] (some (.int (f_X7_fault μ))) μ μ := Mth.of hA (by decide) rfl (Nat.le_of_ble_eq_true rfl) (fun p e s0 m args below meth c C => w_X7_fault C μ rfl)
set_option maxHeartbeats 4000000 in
theorem w_X7_feed_L38 {G : Gl} {p : Program} {l : Launch} {e : Env} {s0 : State} {m : MethodId} {args : Array Value} {below : List Frame} {meth : Method} {c : Code} (C : Cx G p s0 m args meth c cX7_feed 5 RX7 (some .int)) {r : Int32} {μf : Mu}  : ∀ (n : Nat) (x2 : Int64) (x4 : Int32) (μ : Mu), f_X7_feed_L38 n x2 x4 μ = some (r, μf) → X G p l e 1 22 s0 m args below meth c 5 (some (.int r)) μf μ 38 [(0, .ref (G.ad 0)), (2, .long x2), (4, .int x4)] [] := by
  intro n
  induction n with
  | zero =>
    intro x2 x4 μ hF
    rw [f_X7_feed_L38] at hF
    cases hF
  | succ n ih =>
    intro x2 x4 μ hF
    rw [f_X7_feed_L38] at hF
    refine x_iload C 2 dX7_feed_38 rfl ?_
    refine x_if_lt (tgt := 68) C dX7_feed_40 (by decide) (fun hc => ?_) (fun hc => ?_)
    · replace hF := f_t hc hF
      refine x_aload_n C 0 dX7_feed_68 rfl rfl ?_
      refine x_getR C fc_X7 fl_X7_56 sh_0 (by decide) rfl dX7_feed_69 ?_
      refine x_getI C fc_X3 fl_X7_243 sh_71 (by decide) rfl dX7_feed_72 ?_
      exact x_iret C dX7_feed_75 (Prod.mk.inj (Option.some.inj hF)).1 (Prod.mk.inj (Option.some.inj hF)).2
    · replace hF := f_f hc hF
      refine x_aload_n C 0 dX7_feed_43 rfl rfl ?_
      refine x_getR C fc_X7 fl_X7_56 sh_0 (by decide) rfl dX7_feed_44 ?_
      refine x_lload_n C 1 dX7_feed_47 rfl rfl ?_
      refine x_bipush (v := 8) C dX7_feed_48 (by decide) ?_
      refine x_iload C 2 dX7_feed_50 rfl ?_
      refine x_imul C dX7_feed_52 ?_
      refine x_lushr C dX7_feed_53 ?_
      refine x_l2i C dX7_feed_54 ?_
      refine x_sipush (v := 255) C dX7_feed_55 (by decide) ?_
      refine x_iand C dX7_feed_58 ?_
      obtain ⟨q1, hq1, hF⟩ := f_bind hF
      refine x_cVv (rest := []) C (c_X3_addByte l C.2.2.2.2.2.2.2.2 ((((x2.toUInt64 >>> ((8 * x4 : Int32).toInt64.toUInt64 &&& Int64.toUInt64 63)).toInt64).toInt32) &&& 255) μ hq1) cw_X7_245 sh_71 rfl rfl ⟨by decide, by decide⟩ rfl rfl (Nat.le_of_ble_eq_true rfl) dX7_feed_59 ?_
      refine x_iinc C [(4, .int (x4 + (-1))), (0, .ref (G.ad 0)), (2, .long x2)] 2 dX7_feed_62 rfl rfl (by decide) rfl ?_
      refine x_goto (tgt := 38) C dX7_feed_65 (by decide) ?_
      exact x_pick [(0, .ref (G.ad 0)), (2, .long x2), (4, .int (x4 + (-1)))] [1, 2, 0] rfl (ih x2 (x4 + (-1)) q1 hF)
set_option maxHeartbeats 4000000 in
theorem w_X7_feed {G : Gl} {p : Program} {l : Launch} {e : Env} {s0 : State} {m : MethodId} {args : Array Value} {below : List Frame} {meth : Method} {c : Code} (C : Cx G p s0 m args meth c cX7_feed 5 RX7 (some .int)) {r : Int32} {μf : Mu}  (x1 : Int32) (x2 : Int64) (μ : Mu) (hF : f_X7_feed x1 x2 μ = some (r, μf)) : X G p l e 1 22 s0 m args below meth c 5 (some (.int r)) μf μ 0 [(0, .ref (G.ad 0)), (1, .int x1), (2, .long x2)] [] := by
  unfold f_X7_feed at hF
  refine x_iload_n C 1 dX7_feed_0 rfl rfl ?_
  refine x_iconst (v := 1) C dX7_feed_1 (by decide) ?_
  refine x_bipush (v := 8) C dX7_feed_2 (by decide) ?_
  refine x_cSi (rest := []) C (c_X7_within l C.2.2.2.2.2.2.2.2 x1 1 8 μ) cw_X7_78 ⟨by decide, by decide⟩ rfl rfl (Nat.le_of_ble_eq_true rfl) dX7_feed_4 ?_
  refine x_if_ne (tgt := 14) C dX7_feed_7 (by decide) (fun hc => ?_) (fun hc => ?_)
  · replace hF := f_f hc hF
    refine x_aload_n C 0 dX7_feed_14 rfl rfl ?_
    refine x_getR C fc_X7 fl_X7_56 sh_0 (by decide) rfl dX7_feed_15 ?_
    refine x_getI C fc_X3 fl_X7_243 sh_71 (by decide) rfl dX7_feed_18 ?_
    refine x_iload_n C 1 dX7_feed_21 rfl rfl ?_
    refine x_iadd C dX7_feed_22 ?_
    refine x_sipush (v := 200) C dX7_feed_23 (by decide) ?_
    refine x_icmp_le (tgt := 33) C dX7_feed_26 (by decide) (fun hc => ?_) (fun hc => ?_)
    · replace hF := f_t hc hF
      refine x_iload_n C 1 dX7_feed_33 rfl rfl ?_
      refine x_iconst (v := 1) C dX7_feed_34 (by decide) ?_
      refine x_isub C dX7_feed_35 ?_
      refine x_letI hF (fun y1 hF => ?_)
      refine x_istore C [(4, .int y1), (0, .ref (G.ad 0)), (1, .int x1), (2, .long x2)] dX7_feed_36 (by decide) rfl ?_
      exact x_pick [(0, .ref (G.ad 0)), (2, .long x2), (4, .int y1)] [1, 3, 0] rfl (w_X7_feed_L38 C fu x2 y1 μ hF)
    · replace hF := f_f hc hF
      refine x_sipush (v := (-1004)) C dX7_feed_29 (by decide) ?_
      exact x_iret C dX7_feed_32 (Prod.mk.inj (Option.some.inj hF)).1 (Prod.mk.inj (Option.some.inj hF)).2
  · replace hF := f_t hc hF
    refine x_sipush (v := (-1002)) C dX7_feed_10 (by decide) ?_
    exact x_iret C dX7_feed_13 (Prod.mk.inj (Option.some.inj hF)).1 (Prod.mk.inj (Option.some.inj hF)).2
set_option maxHeartbeats 4000000 in
theorem c_X7_feed {G : Gl} (l : Launch) (hA : Ap G) {r : Int32} {μf : Mu}  (x1 : Int32) (x2 : Int64) (μ : Mu) (hF : f_X7_feed x1 x2 μ = some (r, μf)) : Mth G l yX7_feed cX7_feed 5 (some .int) 1 22 [.ref (G.ad 0), .int x1, .long x2] (some (.int r)) μf μ := Mth.of hA (by decide) rfl (Nat.le_of_ble_eq_true rfl) (fun p e s0 m args below meth c C => w_X7_feed C x1 x2 μ hF)
set_option maxHeartbeats 4000000 in
theorem w_X7_figures {G : Gl} {p : Program} {l : Launch} {e : Env} {s0 : State} {m : MethodId} {args : Array Value} {below : List Frame} {meth : Method} {c : Code} (C : Cx G p s0 m args meth c cX7_figures 1 RX7 (some .int)) {r : Int32}  (x0 : Int32) (μ : Mu) (hF : f_X7_figures x0 = r) : X G p l e 0 0 s0 m args below meth c 1 (some (.int r)) μ μ 0 [(0, .int x0)] [] := by
  unfold f_X7_figures at hF
  refine x_iload_n C 0 dX7_figures_0 rfl rfl ?_
  refine x_sipush (v := 1000) C dX7_figures_1 (by decide) ?_
  refine x_icmp_lt (tgt := 11) C dX7_figures_4 (by decide) (fun hc => ?_) (fun hc => ?_)
  · replace hF := f_t hc hF
    refine x_iload_n C 0 dX7_figures_11 rfl rfl ?_
    refine x_bipush (v := 100) C dX7_figures_12 (by decide) ?_
    refine x_icmp_lt (tgt := 21) C dX7_figures_14 (by decide) (fun hc => ?_) (fun hc => ?_)
    · replace hF := f_t hc hF
      refine x_iload_n C 0 dX7_figures_21 rfl rfl ?_
      refine x_bipush (v := 10) C dX7_figures_22 (by decide) ?_
      refine x_icmp_lt (tgt := 31) C dX7_figures_24 (by decide) (fun hc => ?_) (fun hc => ?_)
      · replace hF := f_t hc hF
        refine x_iconst (v := 1) C dX7_figures_31 (by decide) ?_
        exact x_iret C dX7_figures_32 hF rfl
      · replace hF := f_f hc hF
        refine x_iconst (v := 2) C dX7_figures_27 (by decide) ?_
        refine x_goto (tgt := 32) C dX7_figures_28 (by decide) ?_
        exact x_iret C dX7_figures_32 hF rfl
    · replace hF := f_f hc hF
      refine x_iconst (v := 3) C dX7_figures_17 (by decide) ?_
      refine x_goto (tgt := 32) C dX7_figures_18 (by decide) ?_
      exact x_iret C dX7_figures_32 hF rfl
  · replace hF := f_f hc hF
    refine x_iconst (v := 4) C dX7_figures_7 (by decide) ?_
    refine x_goto (tgt := 32) C dX7_figures_8 (by decide) ?_
    exact x_iret C dX7_figures_32 hF rfl
set_option maxHeartbeats 4000000 in
theorem c_X7_figures {G : Gl} (l : Launch) (hA : Ap G) (x0 : Int32) (μ : Mu) : Mth G l yX7_figures cX7_figures 1 (some .int) 0 0 [.int x0] (some (.int (f_X7_figures x0))) μ μ := Mth.of hA (by decide) rfl (Nat.le_of_ble_eq_true rfl) (fun p e s0 m args below meth c C => w_X7_figures C x0 μ rfl)
set_option maxHeartbeats 4000000 in
theorem w_X7_join {G : Gl} {p : Program} {l : Launch} {e : Env} {s0 : State} {m : MethodId} {args : Array Value} {below : List Frame} {meth : Method} {c : Code} (C : Cx G p s0 m args meth c cX7_join 3 RX7 (some .int)) {r : Int32} {μf : Mu}  (x1 : Int32) (x2 : Int32) (μ : Mu) (hF : f_X7_join x1 x2 μ = some (r, μf)) : X G p l e 1 23 s0 m args below meth c 3 (some (.int r)) μf μ 0 [(0, .ref (G.ad 0)), (1, .int x1), (2, .int x2)] [] := by
  unfold f_X7_join at hF
  refine x_aload_n C 0 dX7_join_0 rfl rfl ?_
  refine x_getR C fc_X7 fl_X7_10 sh_0 (by decide) rfl dX7_join_1 ?_
  refine x_iload_n C 1 dX7_join_4 rfl rfl ?_
  refine x_cVi (rest := []) C (c_X4_has l C.2.2.2.2.2.2.2.2 x1 μ) cw_X7_96 sh_1 rfl rfl ⟨by decide, by decide⟩ rfl rfl (Nat.le_of_ble_eq_true rfl) dX7_join_5 ?_
  refine x_if_eq (tgt := 22) C dX7_join_8 (by decide) (fun hc => ?_) (fun hc => ?_)
  · replace hF := f_t hc hF
    refine x_sipush (v := (-1001)) C dX7_join_22 (by decide) ?_
    exact x_iret C dX7_join_25 (Prod.mk.inj (Option.some.inj hF)).1 (Prod.mk.inj (Option.some.inj hF)).2
  · replace hF := f_f hc hF
    refine x_aload_n C 0 dX7_join_11 rfl rfl ?_
    refine x_getR C fc_X7 fl_X7_10 sh_0 (by decide) rfl dX7_join_12 ?_
    refine x_iload_n C 2 dX7_join_15 rfl rfl ?_
    refine x_cVi (rest := []) C (c_X4_has l C.2.2.2.2.2.2.2.2 x2 μ) cw_X7_96 sh_1 rfl rfl ⟨by decide, by decide⟩ rfl rfl (Nat.le_of_ble_eq_true rfl) dX7_join_16 ?_
    refine x_if_ne (tgt := 26) C dX7_join_19 (by decide) (fun hc => ?_) (fun hc => ?_)
    · replace hF := f_f hc hF
      refine x_aload_n C 0 dX7_join_26 rfl rfl ?_
      refine x_getR C fc_X7 fl_X7_26 sh_0 (by decide) rfl dX7_join_27 ?_
      refine x_getR C fc_X1 fl_X7_110 sh_13 (by decide) rfl dX7_join_30 ?_
      refine x_iload_n C 1 dX7_join_33 rfl rfl ?_
      obtain ⟨hi1, hF⟩ := f_chk hF
      refine x_iald C sh_16 hi1 dX7_join_34 ?_
      refine x_iconst (v := (-1)) C dX7_join_35 (by decide) ?_
      refine x_icmp_ne (tgt := 51) C dX7_join_36 (by decide) (fun hc => ?_) (fun hc => ?_)
      · replace hF := f_f hc hF
        refine x_sipush (v := (-1003)) C dX7_join_51 (by decide) ?_
        exact x_iret C dX7_join_54 (Prod.mk.inj (Option.some.inj hF)).1 (Prod.mk.inj (Option.some.inj hF)).2
      · replace hF := f_t hc hF
        refine x_aload_n C 0 dX7_join_39 rfl rfl ?_
        refine x_getR C fc_X7 fl_X7_26 sh_0 (by decide) rfl dX7_join_40 ?_
        refine x_iload_n C 2 dX7_join_43 rfl rfl ?_
        obtain ⟨q2, hq2, hF⟩ := f_bind hF
        refine x_cVi (rest := []) C (c_X1_meantAs l C.2.2.2.2.2.2.2.2 isD_13 x2 μ hq2) cw_X7_113 sh_13 rfl rfl ⟨by decide, by decide⟩ rfl rfl (Nat.le_of_ble_eq_true rfl) dX7_join_44 ?_
        refine x_iload_n C 1 dX7_join_47 rfl rfl ?_
        refine x_icmp_ne (tgt := 55) C dX7_join_48 (by decide) (fun hc => ?_) (fun hc => ?_)
        · replace hF := f_f hc hF
          refine x_aload_n C 0 dX7_join_55 rfl rfl ?_
          refine x_getR C fc_X7 fl_X7_26 sh_0 (by decide) rfl dX7_join_56 ?_
          refine x_getR C fc_X1 fl_X7_110 sh_13 (by decide) rfl dX7_join_59 ?_
          refine x_iload_n C 1 dX7_join_62 rfl rfl ?_
          refine x_iload_n C 2 dX7_join_63 rfl rfl ?_
          refine x_iast C sh_16 hi1 dX7_join_64 ?_
          refine x_letM hF (fun μ3 hF => ?_)
          refine x_aload_n C 0 dX7_join_65 rfl rfl ?_
          obtain ⟨q4, hq4, hF⟩ := f_bind hF
          refine x_cVv (rest := []) C (c_X7_unsettle l C.2.2.2.2.2.2.2.2 μ3 hq4) cw_X7_93 sh_0 rfl rfl ⟨by decide, by decide⟩ rfl rfl (Nat.le_of_ble_eq_true rfl) dX7_join_66 ?_
          refine x_aload_n C 0 dX7_join_69 rfl rfl ?_
          refine x_getR C fc_X7 fl_X7_26 sh_0 (by decide) rfl dX7_join_70 ?_
          refine x_iload_n C 1 dX7_join_73 rfl rfl ?_
          obtain ⟨q5, hq5, hF⟩ := f_bind hF
          refine x_cVi (rest := []) C (c_X1_meantAs l C.2.2.2.2.2.2.2.2 isD_13 x1 q4 hq5) cw_X7_113 sh_13 rfl rfl ⟨by decide, by decide⟩ rfl rfl (Nat.le_of_ble_eq_true rfl) dX7_join_74 ?_
          exact x_iret C dX7_join_77 (Prod.mk.inj (Option.some.inj hF)).1 (Prod.mk.inj (Option.some.inj hF)).2
        · replace hF := f_t hc hF
          refine x_sipush (v := (-1003)) C dX7_join_51 (by decide) ?_
          exact x_iret C dX7_join_54 (Prod.mk.inj (Option.some.inj hF)).1 (Prod.mk.inj (Option.some.inj hF)).2
    · replace hF := f_t hc hF
      refine x_sipush (v := (-1001)) C dX7_join_22 (by decide) ?_
      exact x_iret C dX7_join_25 (Prod.mk.inj (Option.some.inj hF)).1 (Prod.mk.inj (Option.some.inj hF)).2
set_option maxHeartbeats 4000000 in
theorem c_X7_join {G : Gl} (l : Launch) (hA : Ap G) {r : Int32} {μf : Mu}  (x1 : Int32) (x2 : Int32) (μ : Mu) (hF : f_X7_join x1 x2 μ = some (r, μf)) : Mth G l yX7_join cX7_join 3 (some .int) 1 23 [.ref (G.ad 0), .int x1, .int x2] (some (.int r)) μf μ := Mth.of hA (by decide) rfl (Nat.le_of_ble_eq_true rfl) (fun p e s0 m args below meth c C => w_X7_join C x1 x2 μ hF)
set_option maxHeartbeats 4000000 in
theorem w_X7_keep {G : Gl} {p : Program} {l : Launch} {e : Env} {s0 : State} {m : MethodId} {args : Array Value} {below : List Frame} {meth : Method} {c : Code} (C : Cx G p s0 m args meth c cX7_keep 2 RX7 (some .int)) {r : Int32} {μf : Mu}  (x1 : Int32) (μ : Mu) (hF : f_X7_keep x1 μ = some (r, μf)) : X G p l e 6 151 s0 m args below meth c 2 (some (.int r)) μf μ 0 [(0, .ref (G.ad 0)), (1, .int x1)] [] := by
  unfold f_X7_keep at hF
  refine x_iload_n C 1 dX7_keep_0 rfl rfl ?_
  refine x_iconst (v := 0) C dX7_keep_1 (by decide) ?_
  refine x_iconst (v := 3) C dX7_keep_2 (by decide) ?_
  refine x_cSi (rest := []) C (c_X7_within l C.2.2.2.2.2.2.2.2 x1 0 3 μ) cw_X7_78 ⟨by decide, by decide⟩ rfl rfl (Nat.le_of_ble_eq_true rfl) dX7_keep_3 ?_
  refine x_if_ne (tgt := 13) C dX7_keep_6 (by decide) (fun hc => ?_) (fun hc => ?_)
  · replace hF := f_f hc hF
    refine x_aload_n C 0 dX7_keep_13 rfl rfl ?_
    refine x_getR C fc_X7 fl_X7_45 sh_0 (by decide) rfl dX7_keep_14 ?_
    refine x_iload_n C 1 dX7_keep_17 rfl rfl ?_
    obtain ⟨hi1, hF⟩ := f_chk hF
    refine x_aald C sh_49 hi1 dX7_keep_18 ?_
    refine x_aload_n C 0 dX7_keep_19 rfl rfl ?_
    refine x_getR C fc_X7 fl_X7_26 sh_0 (by decide) rfl dX7_keep_20 ?_
    obtain ⟨q2, hq2, hF⟩ := f_bind hF
    refine x_cVv (rest := []) C (c_X1_copyOf l C.2.2.2.2.2.2.2.2 (isD_ver hi1) isD_13 μ hq2) cw_X7_264 (shD0 (isD_ver hi1)) rfl rfl ⟨by decide, by decide⟩ rfl rfl (Nat.le_of_ble_eq_true rfl) dX7_keep_23 ?_
    refine x_aload_n C 0 dX7_keep_26 rfl rfl ?_
    refine x_getR C fc_X7 fl_X7_49 sh_0 (by decide) rfl dX7_keep_27 ?_
    refine x_iload_n C 1 dX7_keep_30 rfl rfl ?_
    refine x_iconst (v := 1) C dX7_keep_31 (by decide) ?_
    obtain ⟨hi3, hF⟩ := f_chk hF
    refine x_zast C sh_50 hi3 (by decide) dX7_keep_32 ?_
    refine x_letM hF (fun μ4 hF => ?_)
    refine x_aload_n C 0 dX7_keep_33 rfl rfl ?_
    obtain ⟨q5, hq5, hF⟩ := f_bind hF
    refine x_cVr (rest := []) C (c_X7_settledView l C.2.2.2.2.2.2.2.2 μ4 hq5) cw_X7_123 sh_0 rfl rfl ⟨by decide, by decide⟩ rfl rfl (Nat.le_of_ble_eq_true rfl) dX7_keep_34 ?_
    refine x_getI C fc_X6 fl_X7_231 sh_18 (by decide) rfl dX7_keep_37 ?_
    exact x_iret C dX7_keep_40 (Prod.mk.inj (Option.some.inj hF)).1 (Prod.mk.inj (Option.some.inj hF)).2
  · replace hF := f_t hc hF
    refine x_sipush (v := (-1001)) C dX7_keep_9 (by decide) ?_
    exact x_iret C dX7_keep_12 (Prod.mk.inj (Option.some.inj hF)).1 (Prod.mk.inj (Option.some.inj hF)).2
set_option maxHeartbeats 4000000 in
theorem c_X7_keep {G : Gl} (l : Launch) (hA : Ap G) {r : Int32} {μf : Mu}  (x1 : Int32) (μ : Mu) (hF : f_X7_keep x1 μ = some (r, μf)) : Mth G l yX7_keep cX7_keep 2 (some .int) 6 151 [.ref (G.ad 0), .int x1] (some (.int r)) μf μ := Mth.of hA (by decide) rfl (Nat.le_of_ble_eq_true rfl) (fun p e s0 m args below meth c C => w_X7_keep C x1 μ hF)
set_option maxHeartbeats 4000000 in
theorem w_X7_least_b38 {G : Gl} {p : Program} {l : Launch} {e : Env} {s0 : State} {m : MethodId} {args : Array Value} {below : List Frame} {meth : Method} {c : Code} (C : Cx G p s0 m args meth c cX7_least 3 RX7 (some .int)) {r : Int32} {μf : Mu}  (x1 : Int32) (μ : Mu) (hF : f_X7_least_b38 x1 μ = some (r, μf)) : X G p l e 6 151 s0 m args below meth c 3 (some (.int r)) μf μ 38 [(0, .ref (G.ad 0)), (1, .int x1)] [] := by
  unfold f_X7_least_b38 at hF
  refine x_aload_n C 0 dX7_least_38 rfl rfl ?_
  refine x_getR C fc_X7 fl_X7_70 sh_0 (by decide) rfl dX7_least_39 ?_
  refine x_getI C fc_X5 fl_X7_295 sh_79 (by decide) rfl dX7_least_42 ?_
  refine x_if_ne (tgt := 52) C dX7_least_45 (by decide) (fun hc => ?_) (fun hc => ?_)
  · replace hF := f_f hc hF
    refine x_iload_n C 1 dX7_least_52 rfl rfl ?_
    by_cases hs1 : x1 = 1
    · replace hF := f_t hs1 hF
      refine x_tableIn (tgt := 88) (off := 35) C dX7_least_53 (by rw [hs1]; decide) (by rw [hs1]; decide) (by rw [hs1]; decide +kernel) (by decide) ?_
      refine x_aload_n C 0 dX7_least_88 rfl rfl ?_
      refine x_getR C fc_X7 fl_X7_70 sh_0 (by decide) rfl dX7_least_89 ?_
      refine x_getR C fc_X5 fl_X7_298 sh_79 (by decide) rfl dX7_least_92 ?_
      refine x_iconst (v := 2) C dX7_least_95 (by decide) ?_
      refine x_iald C sh_80 (by decide) dX7_least_96 ?_
      exact x_iret C dX7_least_97 (Prod.mk.inj (Option.some.inj hF)).1 (Prod.mk.inj (Option.some.inj hF)).2
    · replace hF := f_f hs1 hF
      by_cases hs2 : x1 = 2
      · replace hF := f_t hs2 hF
        refine x_tableIn (tgt := 98) (off := 45) C dX7_least_53 (by rw [hs2]; decide) (by rw [hs2]; decide) (by rw [hs2]; decide +kernel) (by decide) ?_
        refine x_aload_n C 0 dX7_least_98 rfl rfl ?_
        refine x_getR C fc_X7 fl_X7_70 sh_0 (by decide) rfl dX7_least_99 ?_
        refine x_getR C fc_X5 fl_X7_298 sh_79 (by decide) rfl dX7_least_102 ?_
        refine x_iconst (v := 3) C dX7_least_105 (by decide) ?_
        refine x_iald C sh_80 (by decide) dX7_least_106 ?_
        exact x_iret C dX7_least_107 (Prod.mk.inj (Option.some.inj hF)).1 (Prod.mk.inj (Option.some.inj hF)).2
      · replace hF := f_f hs2 hF
        by_cases hs3 : x1 = 3
        · replace hF := f_t hs3 hF
          refine x_tableIn (tgt := 108) (off := 55) C dX7_least_53 (by rw [hs3]; decide) (by rw [hs3]; decide) (by rw [hs3]; decide +kernel) (by decide) ?_
          refine x_aload_n C 0 dX7_least_108 rfl rfl ?_
          refine x_getR C fc_X7 fl_X7_70 sh_0 (by decide) rfl dX7_least_109 ?_
          refine x_getR C fc_X5 fl_X7_298 sh_79 (by decide) rfl dX7_least_112 ?_
          refine x_iconst (v := 5) C dX7_least_115 (by decide) ?_
          refine x_iald C sh_80 (by decide) dX7_least_116 ?_
          exact x_iret C dX7_least_117 (Prod.mk.inj (Option.some.inj hF)).1 (Prod.mk.inj (Option.some.inj hF)).2
        · replace hF := f_f hs3 hF
          by_cases hs4 : x1 = 4
          · replace hF := f_t hs4 hF
            refine x_tableIn (tgt := 118) (off := 65) C dX7_least_53 (by rw [hs4]; decide) (by rw [hs4]; decide) (by rw [hs4]; decide +kernel) (by decide) ?_
            refine x_aload_n C 0 dX7_least_118 rfl rfl ?_
            refine x_getR C fc_X7 fl_X7_70 sh_0 (by decide) rfl dX7_least_119 ?_
            refine x_getR C fc_X5 fl_X7_298 sh_79 (by decide) rfl dX7_least_122 ?_
            refine x_bipush (v := 6) C dX7_least_125 (by decide) ?_
            refine x_iald C sh_80 (by decide) dX7_least_127 ?_
            exact x_iret C dX7_least_128 (Prod.mk.inj (Option.some.inj hF)).1 (Prod.mk.inj (Option.some.inj hF)).2
          · replace hF := f_f hs4 hF
            by_cases hs5 : x1 = 5
            · replace hF := f_t hs5 hF
              refine x_tableIn (tgt := 129) (off := 76) C dX7_least_53 (by rw [hs5]; decide) (by rw [hs5]; decide) (by rw [hs5]; decide +kernel) (by decide) ?_
              refine x_aload_n C 0 dX7_least_129 rfl rfl ?_
              refine x_getR C fc_X7 fl_X7_70 sh_0 (by decide) rfl dX7_least_130 ?_
              refine x_getR C fc_X5 fl_X7_298 sh_79 (by decide) rfl dX7_least_133 ?_
              refine x_bipush (v := 7) C dX7_least_136 (by decide) ?_
              refine x_iald C sh_80 (by decide) dX7_least_138 ?_
              exact x_iret C dX7_least_139 (Prod.mk.inj (Option.some.inj hF)).1 (Prod.mk.inj (Option.some.inj hF)).2
            · replace hF := f_f hs5 hF
              refine x_tableOut (tgt := 140) C dX7_least_53 (sw_out_1_5 hs1 hs2 hs3 hs4 hs5) (by decide) ?_
              refine x_aload_n C 0 dX7_least_140 rfl rfl ?_
              refine x_getR C fc_X7 fl_X7_70 sh_0 (by decide) rfl dX7_least_141 ?_
              refine x_getI C fc_X5 fl_X7_301 sh_79 (by decide) rfl dX7_least_144 ?_
              exact x_iret C dX7_least_147 (Prod.mk.inj (Option.some.inj hF)).1 (Prod.mk.inj (Option.some.inj hF)).2
  · replace hF := f_t hc hF
    refine x_sipush (v := (-1003)) C dX7_least_48 (by decide) ?_
    exact x_iret C dX7_least_51 (Prod.mk.inj (Option.some.inj hF)).1 (Prod.mk.inj (Option.some.inj hF)).2
set_option maxHeartbeats 4000000 in
theorem w_X7_least {G : Gl} {p : Program} {l : Launch} {e : Env} {s0 : State} {m : MethodId} {args : Array Value} {below : List Frame} {meth : Method} {c : Code} (C : Cx G p s0 m args meth c cX7_least 3 RX7 (some .int)) {r : Int32} {μf : Mu}  (x1 : Int32) (μ : Mu) (hF : f_X7_least x1 μ = some (r, μf)) : X G p l e 6 151 s0 m args below meth c 3 (some (.int r)) μf μ 0 [(0, .ref (G.ad 0)), (1, .int x1)] [] := by
  unfold f_X7_least at hF
  refine x_iload_n C 1 dX7_least_0 rfl rfl ?_
  refine x_iconst (v := 0) C dX7_least_1 (by decide) ?_
  refine x_iconst (v := 5) C dX7_least_2 (by decide) ?_
  refine x_cSi (rest := []) C (c_X7_within l C.2.2.2.2.2.2.2.2 x1 0 5 μ) cw_X7_78 ⟨by decide, by decide⟩ rfl rfl (Nat.le_of_ble_eq_true rfl) dX7_least_3 ?_
  refine x_if_ne (tgt := 13) C dX7_least_6 (by decide) (fun hc => ?_) (fun hc => ?_)
  · replace hF := f_f hc hF
    refine x_aload_n C 0 dX7_least_13 rfl rfl ?_
    obtain ⟨q1, hq1, hF⟩ := f_bind hF
    refine x_cVr (rest := []) C (c_X7_settledView l C.2.2.2.2.2.2.2.2 μ hq1) cw_X7_123 sh_0 rfl rfl ⟨by decide, by decide⟩ rfl rfl (Nat.le_of_ble_eq_true rfl) dX7_least_14 ?_
    refine x_astore_n C [(2, .ref (G.ad 18)), (0, .ref (G.ad 0)), (1, .int x1)] dX7_least_17 rfl (by decide) rfl ?_
    refine x_aload_n C 1 dX7_least_18 rfl rfl ?_
    refine x_getI C fc_X7 fl_X7_287 sh_0 (by decide) rfl dX7_least_19 ?_
    refine x_if_ne (tgt := 38) C dX7_least_22 (by decide) (fun hc => ?_) (fun hc => ?_)
    · replace hF := f_f hc hF
      exact x_pick [(0, .ref (G.ad 0)), (1, .int x1)] [1, 2] rfl (w_X7_least_b38 C x1 q1 hF)
    · replace hF := f_t hc hF
      refine x_aload_n C 1 dX7_least_25 rfl rfl ?_
      refine x_getR C fc_X7 fl_X7_70 sh_0 (by decide) rfl dX7_least_26 ?_
      refine x_aload_n C 0 dX7_least_29 rfl rfl ?_
      obtain ⟨q2, hq2, hF⟩ := f_bind hF
      refine x_cVv (rest := []) C (c_X5_search l C.2.2.2.2.2.2.2.2 isV_13 q1 hq2) cw_X7_291 sh_79 rfl rfl ⟨by decide, by decide⟩ rfl rfl (Nat.le_of_ble_eq_true rfl) dX7_least_30 ?_
      refine x_aload_n C 1 dX7_least_33 rfl rfl ?_
      refine x_iconst (v := 1) C dX7_least_34 (by decide) ?_
      refine x_putI C fc_X7 fl_X7_287 sh_0 (by decide) rfl rfl rfl ⟨rfl, rfl⟩ dX7_least_35 ?_
      refine x_letM hF (fun μ3 hF => ?_)
      exact x_pick [(0, .ref (G.ad 0)), (1, .int x1)] [1, 2] rfl (w_X7_least_b38 C x1 μ3 hF)
  · replace hF := f_t hc hF
    refine x_sipush (v := (-1002)) C dX7_least_9 (by decide) ?_
    exact x_iret C dX7_least_12 (Prod.mk.inj (Option.some.inj hF)).1 (Prod.mk.inj (Option.some.inj hF)).2
set_option maxHeartbeats 4000000 in
theorem c_X7_least {G : Gl} (l : Launch) (hA : Ap G) {r : Int32} {μf : Mu}  (x1 : Int32) (μ : Mu) (hF : f_X7_least x1 μ = some (r, μf)) : Mth G l yX7_least cX7_least 3 (some .int) 6 151 [.ref (G.ad 0), .int x1] (some (.int r)) μf μ := Mth.of hA (by decide) rfl (Nat.le_of_ble_eq_true rfl) (fun p e s0 m args below meth c C => w_X7_least C x1 μ hF)
set_option maxHeartbeats 4000000 in
theorem w_X7_list {G : Gl} {p : Program} {l : Launch} {e : Env} {s0 : State} {m : MethodId} {args : Array Value} {below : List Frame} {meth : Method} {c : Code} (C : Cx G p s0 m args meth c cX7_list 3 RX7 (some .int)) {r : Int32} {μf : Mu}  (x1 : Int32) (μ : Mu) (hF : f_X7_list x1 μ = some (r, μf)) : X G p l e 6 151 s0 m args below meth c 3 (some (.int r)) μf μ 0 [(0, .ref (G.ad 0)), (1, .int x1)] [] := by
  unfold f_X7_list at hF
  refine x_aload_n C 0 dX7_list_0 rfl rfl ?_
  obtain ⟨q1, hq1, hF⟩ := f_bind hF
  refine x_cVr (rest := []) C (c_X7_settledView l C.2.2.2.2.2.2.2.2 μ hq1) cw_X7_123 sh_0 rfl rfl ⟨by decide, by decide⟩ rfl rfl (Nat.le_of_ble_eq_true rfl) dX7_list_1 ?_
  refine x_astore_n C [(2, .ref (G.ad 18)), (0, .ref (G.ad 0)), (1, .int x1)] dX7_list_4 rfl (by decide) rfl ?_
  refine x_iload_n C 2 dX7_list_5 rfl rfl ?_
  refine x_iconst (v := 0) C dX7_list_6 (by decide) ?_
  refine x_aload_n C 0 dX7_list_7 rfl rfl ?_
  refine x_getI C fc_X6 fl_X7_158 sh_18 (by decide) rfl dX7_list_8 ?_
  refine x_iconst (v := 1) C dX7_list_11 (by decide) ?_
  refine x_isub C dX7_list_12 ?_
  refine x_cSi (rest := []) C (c_X7_within l C.2.2.2.2.2.2.2.2 x1 0 ((q1 18 16) - 1) q1) cw_X7_78 ⟨by decide, by decide⟩ rfl rfl (Nat.le_of_ble_eq_true rfl) dX7_list_13 ?_
  refine x_if_eq (tgt := 28) C dX7_list_16 (by decide) (fun hc => ?_) (fun hc => ?_)
  · replace hF := f_t hc hF
    refine x_iconst (v := (-1)) C dX7_list_28 (by decide) ?_
    exact x_iret C dX7_list_29 (Prod.mk.inj (Option.some.inj hF)).1 (Prod.mk.inj (Option.some.inj hF)).2
  · replace hF := f_f hc hF
    refine x_aload_n C 0 dX7_list_19 rfl rfl ?_
    refine x_getR C fc_X6 fl_X7_161 sh_18 (by decide) rfl dX7_list_20 ?_
    refine x_iload_n C 2 dX7_list_23 rfl rfl ?_
    obtain ⟨hi2, hF⟩ := f_chk hF
    refine x_iald C sh_25 hi2 dX7_list_24 ?_
    refine x_goto (tgt := 29) C dX7_list_25 (by decide) ?_
    exact x_iret C dX7_list_29 (Prod.mk.inj (Option.some.inj hF)).1 (Prod.mk.inj (Option.some.inj hF)).2
set_option maxHeartbeats 4000000 in
theorem c_X7_list {G : Gl} (l : Launch) (hA : Ap G) {r : Int32} {μf : Mu}  (x1 : Int32) (μ : Mu) (hF : f_X7_list x1 μ = some (r, μf)) : Mth G l yX7_list cX7_list 3 (some .int) 6 151 [.ref (G.ad 0), .int x1] (some (.int r)) μf μ := Mth.of hA (by decide) rfl (Nat.le_of_ble_eq_true rfl) (fun p e s0 m args below meth c C => w_X7_list C x1 μ hF)
set_option maxHeartbeats 4000000 in
theorem w_X7_move {G : Gl} {p : Program} {l : Launch} {e : Env} {s0 : State} {m : MethodId} {args : Array Value} {below : List Frame} {meth : Method} {c : Code} (C : Cx G p s0 m args meth c cX7_move 3 RX7 (some .int)) {r : Int32} {μf : Mu}  (x1 : Int32) (x2 : Int32) (μ : Mu) (hF : f_X7_move x1 x2 μ = some (r, μf)) : X G p l e 4 106 s0 m args below meth c 3 (some (.int r)) μf μ 0 [(0, .ref (G.ad 0)), (1, .int x1), (2, .int x2)] [] := by
  unfold f_X7_move at hF
  refine x_aload_n C 0 dX7_move_0 rfl rfl ?_
  refine x_getR C fc_X7 fl_X7_26 sh_0 (by decide) rfl dX7_move_1 ?_
  refine x_iload_n C 1 dX7_move_4 rfl rfl ?_
  refine x_cVi (rest := []) C (c_X1_has l C.2.2.2.2.2.2.2.2 isD_13 x1 μ) cw_X7_171 sh_13 rfl rfl ⟨by decide, by decide⟩ rfl rfl (Nat.le_of_ble_eq_true rfl) dX7_move_5 ?_
  refine x_if_eq (tgt := 22) C dX7_move_8 (by decide) (fun hc => ?_) (fun hc => ?_)
  · replace hF := f_t hc hF
    refine x_sipush (v := (-1001)) C dX7_move_22 (by decide) ?_
    exact x_iret C dX7_move_25 (Prod.mk.inj (Option.some.inj hF)).1 (Prod.mk.inj (Option.some.inj hF)).2
  · replace hF := f_f hc hF
    refine x_aload_n C 0 dX7_move_11 rfl rfl ?_
    refine x_getR C fc_X7 fl_X7_26 sh_0 (by decide) rfl dX7_move_12 ?_
    refine x_iload_n C 2 dX7_move_15 rfl rfl ?_
    refine x_cVi (rest := []) C (c_X1_has l C.2.2.2.2.2.2.2.2 isD_13 x2 μ) cw_X7_171 sh_13 rfl rfl ⟨by decide, by decide⟩ rfl rfl (Nat.le_of_ble_eq_true rfl) dX7_move_16 ?_
    refine x_if_ne (tgt := 26) C dX7_move_19 (by decide) (fun hc => ?_) (fun hc => ?_)
    · replace hF := f_f hc hF
      refine x_aload_n C 0 dX7_move_26 rfl rfl ?_
      refine x_getR C fc_X7 fl_X7_26 sh_0 (by decide) rfl dX7_move_27 ?_
      refine x_iload_n C 1 dX7_move_30 rfl rfl ?_
      refine x_iload_n C 2 dX7_move_31 rfl rfl ?_
      obtain ⟨q1, hq1, hF⟩ := f_bind hF
      refine x_cVv (rest := []) C (c_X1_shiftNote l C.2.2.2.2.2.2.2.2 isD_13 x1 x2 μ hq1) cw_X7_178 sh_13 rfl rfl ⟨by decide, by decide⟩ rfl rfl (Nat.le_of_ble_eq_true rfl) dX7_move_32 ?_
      refine x_aload_n C 0 dX7_move_35 rfl rfl ?_
      obtain ⟨q2, hq2, hF⟩ := f_bind hF
      refine x_cVv (rest := []) C (c_X7_unsettle l C.2.2.2.2.2.2.2.2 q1 hq2) cw_X7_93 sh_0 rfl rfl ⟨by decide, by decide⟩ rfl rfl (Nat.le_of_ble_eq_true rfl) dX7_move_36 ?_
      refine x_iconst (v := 1) C dX7_move_39 (by decide) ?_
      exact x_iret C dX7_move_40 (Prod.mk.inj (Option.some.inj hF)).1 (Prod.mk.inj (Option.some.inj hF)).2
    · replace hF := f_t hc hF
      refine x_sipush (v := (-1001)) C dX7_move_22 (by decide) ?_
      exact x_iret C dX7_move_25 (Prod.mk.inj (Option.some.inj hF)).1 (Prod.mk.inj (Option.some.inj hF)).2
set_option maxHeartbeats 4000000 in
theorem c_X7_move {G : Gl} (l : Launch) (hA : Ap G) {r : Int32} {μf : Mu}  (x1 : Int32) (x2 : Int32) (μ : Mu) (hF : f_X7_move x1 x2 μ = some (r, μf)) : Mth G l yX7_move cX7_move 3 (some .int) 4 106 [.ref (G.ad 0), .int x1, .int x2] (some (.int r)) μf μ := Mth.of hA (by decide) rfl (Nat.le_of_ble_eq_true rfl) (fun p e s0 m args below meth c C => w_X7_move C x1 x2 μ hF)
set_option maxHeartbeats 4000000 in
theorem w_X7_name {G : Gl} {p : Program} {l : Launch} {e : Env} {s0 : State} {m : MethodId} {args : Array Value} {below : List Frame} {meth : Method} {c : Code} (C : Cx G p s0 m args meth c cX7_name 5 RX7 (some .int)) {r : Int32}  (x1 : Int32) (x2 : Int32) (x3 : Int32) (μ : Mu) (hF : f_X7_name x1 x2 x3 μ = some r) : X G p l e 1 22 s0 m args below meth c 5 (some (.int r)) μ μ 0 [(0, .ref (G.ad 0)), (1, .int x1), (2, .int x2), (3, .int x3)] [] := by
  unfold f_X7_name at hF
  refine x_aload_n C 0 dX7_name_0 rfl rfl ?_
  refine x_getR C fc_X7 fl_X7_10 sh_0 (by decide) rfl dX7_name_1 ?_
  refine x_iload_n C 1 dX7_name_4 rfl rfl ?_
  refine x_cVi (rest := []) C (c_X4_has l C.2.2.2.2.2.2.2.2 x1 μ) cw_X7_96 sh_1 rfl rfl ⟨by decide, by decide⟩ rfl rfl (Nat.le_of_ble_eq_true rfl) dX7_name_5 ?_
  refine x_if_ne (tgt := 15) C dX7_name_8 (by decide) (fun hc => ?_) (fun hc => ?_)
  · replace hF := f_f hc hF
    refine x_iload_n C 2 dX7_name_15 rfl rfl ?_
    refine x_iconst (v := 0) C dX7_name_16 (by decide) ?_
    refine x_aload_n C 0 dX7_name_17 rfl rfl ?_
    refine x_getR C fc_X7 fl_X7_10 sh_0 (by decide) rfl dX7_name_18 ?_
    refine x_getR C fc_X4 fl_X7_100 sh_1 (by decide) rfl dX7_name_21 ?_
    refine x_iload_n C 1 dX7_name_24 rfl rfl ?_
    obtain ⟨hi1, hF⟩ := f_chk hF
    refine x_iald C sh_2 hi1 dX7_name_25 ?_
    refine x_iconst (v := 1) C dX7_name_26 (by decide) ?_
    refine x_isub C dX7_name_27 ?_
    refine x_cSi (rest := []) C (c_X7_within l C.2.2.2.2.2.2.2.2 x2 0 ((μ 2 (ix x1)) - 1) μ) cw_X7_78 ⟨by decide, by decide⟩ rfl rfl (Nat.le_of_ble_eq_true rfl) dX7_name_28 ?_
    refine x_if_ne (tgt := 38) C dX7_name_31 (by decide) (fun hc => ?_) (fun hc => ?_)
    · replace hF := f_f hc hF
      refine x_iload_n C 1 dX7_name_38 rfl rfl ?_
      refine x_iconst (v := 4) C dX7_name_39 (by decide) ?_
      refine x_imul C dX7_name_40 ?_
      refine x_iload_n C 2 dX7_name_41 rfl rfl ?_
      refine x_iadd C dX7_name_42 ?_
      refine x_letI hF (fun y2 hF => ?_)
      refine x_istore C [(4, .int y2), (0, .ref (G.ad 0)), (1, .int x1), (2, .int x2), (3, .int x3)] dX7_name_43 (by decide) rfl ?_
      refine x_iload_n C 4 dX7_name_45 rfl rfl ?_
      by_cases hs0 : x3 = 0
      · replace hF := f_t hs0 hF
        refine x_tableIn (tgt := 72) (off := 26) C dX7_name_46 (by rw [hs0]; decide) (by rw [hs0]; decide) (by rw [hs0]; decide +kernel) (by decide) ?_
        refine x_aload_n C 1 dX7_name_72 rfl rfl ?_
        refine x_getR C fc_X7 fl_X7_10 sh_0 (by decide) rfl dX7_name_73 ?_
        refine x_getR C fc_X4 fl_X7_137 sh_1 (by decide) rfl dX7_name_76 ?_
        refine x_iload C 0 dX7_name_79 rfl ?_
        obtain ⟨hi3, hF⟩ := f_chk hF
        refine x_iald C sh_7 hi3 dX7_name_81 ?_
        exact x_iret C dX7_name_82 (Option.some.inj hF) rfl
      · replace hF := f_f hs0 hF
        by_cases hs1 : x3 = 1
        · replace hF := f_t hs1 hF
          refine x_tableIn (tgt := 83) (off := 37) C dX7_name_46 (by rw [hs1]; decide) (by rw [hs1]; decide) (by rw [hs1]; decide +kernel) (by decide) ?_
          refine x_aload_n C 1 dX7_name_83 rfl rfl ?_
          refine x_getR C fc_X7 fl_X7_10 sh_0 (by decide) rfl dX7_name_84 ?_
          refine x_getR C fc_X4 fl_X7_140 sh_1 (by decide) rfl dX7_name_87 ?_
          refine x_iload C 0 dX7_name_90 rfl ?_
          obtain ⟨hi4, hF⟩ := f_chk hF
          refine x_iald C sh_8 hi4 dX7_name_92 ?_
          exact x_iret C dX7_name_93 (Option.some.inj hF) rfl
        · replace hF := f_f hs1 hF
          by_cases hs2 : x3 = 2
          · replace hF := f_t hs2 hF
            refine x_tableIn (tgt := 94) (off := 48) C dX7_name_46 (by rw [hs2]; decide) (by rw [hs2]; decide) (by rw [hs2]; decide +kernel) (by decide) ?_
            refine x_aload_n C 1 dX7_name_94 rfl rfl ?_
            refine x_getR C fc_X7 fl_X7_10 sh_0 (by decide) rfl dX7_name_95 ?_
            refine x_getR C fc_X4 fl_X7_143 sh_1 (by decide) rfl dX7_name_98 ?_
            refine x_iload C 0 dX7_name_101 rfl ?_
            obtain ⟨hi5, hF⟩ := f_chk hF
            refine x_iald C sh_9 hi5 dX7_name_103 ?_
            exact x_iret C dX7_name_104 (Option.some.inj hF) rfl
          · replace hF := f_f hs2 hF
            refine x_tableOut (tgt := 105) C dX7_name_46 (sw_out_0_2 hs0 hs1 hs2) (by decide) ?_
            refine x_sipush (v := (-1002)) C dX7_name_105 (by decide) ?_
            exact x_iret C dX7_name_108 (Option.some.inj hF) rfl
    · replace hF := f_t hc hF
      refine x_sipush (v := (-1002)) C dX7_name_34 (by decide) ?_
      exact x_iret C dX7_name_37 (Option.some.inj hF) rfl
  · replace hF := f_t hc hF
    refine x_sipush (v := (-1001)) C dX7_name_11 (by decide) ?_
    exact x_iret C dX7_name_14 (Option.some.inj hF) rfl
set_option maxHeartbeats 4000000 in
theorem c_X7_name {G : Gl} (l : Launch) (hA : Ap G) {r : Int32}  (x1 : Int32) (x2 : Int32) (x3 : Int32) (μ : Mu) (hF : f_X7_name x1 x2 x3 μ = some r) : Mth G l yX7_name cX7_name 5 (some .int) 1 22 [.ref (G.ad 0), .int x1, .int x2, .int x3] (some (.int r)) μ μ := Mth.of hA (by decide) rfl (Nat.le_of_ble_eq_true rfl) (fun p e s0 m args below meth c C => w_X7_name C x1 x2 x3 μ hF)
set_option maxHeartbeats 4000000 in
theorem w_X7_note {G : Gl} {p : Program} {l : Launch} {e : Env} {s0 : State} {m : MethodId} {args : Array Value} {below : List Frame} {meth : Method} {c : Code} (C : Cx G p s0 m args meth c cX7_note 2 RX7 (some .int)) {r : Int32} {μf : Mu}  (x1 : Int32) (μ : Mu) (hF : f_X7_note x1 μ = some (r, μf)) : X G p l e 3 84 s0 m args below meth c 2 (some (.int r)) μf μ 0 [(0, .ref (G.ad 0)), (1, .int x1)] [] := by
  unfold f_X7_note at hF
  refine x_iload_n C 1 dX7_note_0 rfl rfl ?_
  refine x_iconst (v := 0) C dX7_note_1 (by decide) ?_
  refine x_aload_n C 0 dX7_note_2 rfl rfl ?_
  refine x_getR C fc_X7 fl_X7_26 sh_0 (by decide) rfl dX7_note_3 ?_
  refine x_getI C fc_X1 fl_X7_164 sh_13 (by decide) rfl dX7_note_6 ?_
  refine x_cSi (rest := []) C (c_X7_within l C.2.2.2.2.2.2.2.2 x1 0 (μ 13 4) μ) cw_X7_78 ⟨by decide, by decide⟩ rfl rfl (Nat.le_of_ble_eq_true rfl) dX7_note_9 ?_
  refine x_if_ne (tgt := 19) C dX7_note_12 (by decide) (fun hc => ?_) (fun hc => ?_)
  · replace hF := f_f hc hF
    refine x_aload_n C 0 dX7_note_19 rfl rfl ?_
    refine x_getR C fc_X7 fl_X7_26 sh_0 (by decide) rfl dX7_note_20 ?_
    refine x_getI C fc_X1 fl_X7_164 sh_13 (by decide) rfl dX7_note_23 ?_
    refine x_bipush (v := 40) C dX7_note_26 (by decide) ?_
    refine x_icmp_lt (tgt := 35) C dX7_note_28 (by decide) (fun hc => ?_) (fun hc => ?_)
    · replace hF := f_t hc hF
      refine x_aload_n C 0 dX7_note_35 rfl rfl ?_
      refine x_getR C fc_X7 fl_X7_26 sh_0 (by decide) rfl dX7_note_36 ?_
      refine x_iload_n C 1 dX7_note_39 rfl rfl ?_
      obtain ⟨q1, hq1, hF⟩ := f_bind hF
      refine x_cVv (rest := []) C (c_X1_insertNote l C.2.2.2.2.2.2.2.2 isD_13 x1 μ hq1) cw_X7_167 sh_13 rfl rfl ⟨by decide, by decide⟩ rfl rfl (Nat.le_of_ble_eq_true rfl) dX7_note_40 ?_
      refine x_aload_n C 0 dX7_note_43 rfl rfl ?_
      obtain ⟨q2, hq2, hF⟩ := f_bind hF
      refine x_cVv (rest := []) C (c_X7_unsettle l C.2.2.2.2.2.2.2.2 q1 hq2) cw_X7_93 sh_0 rfl rfl ⟨by decide, by decide⟩ rfl rfl (Nat.le_of_ble_eq_true rfl) dX7_note_44 ?_
      refine x_iload_n C 1 dX7_note_47 rfl rfl ?_
      exact x_iret C dX7_note_48 (Prod.mk.inj (Option.some.inj hF)).1 (Prod.mk.inj (Option.some.inj hF)).2
    · replace hF := f_f hc hF
      refine x_sipush (v := (-1004)) C dX7_note_31 (by decide) ?_
      exact x_iret C dX7_note_34 (Prod.mk.inj (Option.some.inj hF)).1 (Prod.mk.inj (Option.some.inj hF)).2
  · replace hF := f_t hc hF
    refine x_sipush (v := (-1002)) C dX7_note_15 (by decide) ?_
    exact x_iret C dX7_note_18 (Prod.mk.inj (Option.some.inj hF)).1 (Prod.mk.inj (Option.some.inj hF)).2
set_option maxHeartbeats 4000000 in
theorem c_X7_note {G : Gl} (l : Launch) (hA : Ap G) {r : Int32} {μf : Mu}  (x1 : Int32) (μ : Mu) (hF : f_X7_note x1 μ = some (r, μf)) : Mth G l yX7_note cX7_note 2 (some .int) 3 84 [.ref (G.ad 0), .int x1] (some (.int r)) μf μ := Mth.of hA (by decide) rfl (Nat.le_of_ble_eq_true rfl) (fun p e s0 m args below meth c C => w_X7_note C x1 μ hF)
set_option maxHeartbeats 4000000 in
theorem w_X7_shortFigures_L19 {G : Gl} {p : Program} {l : Launch} {e : Env} {s0 : State} {m : MethodId} {args : Array Value} {below : List Frame} {meth : Method} {c : Code} (C : Cx G p s0 m args meth c cX7_shortFigures 4 RX7 (some .int)) {r : Int32}  (μ : Mu) : ∀ (n : Nat) (x0 : Int32) (x1 : Int32) (x3 : Int32), f_X7_shortFigures_L19 μ n x0 x1 x3 = some r → X G p l e 1 20 s0 m args below meth c 4 (some (.int r)) μ μ 19 [(0, .int x0), (1, .int x1), (3, .int x3)] [] := by
  intro n
  induction n with
  | zero =>
    intro x0 x1 x3 hF
    rw [f_X7_shortFigures_L19] at hF
    cases hF
  | succ n ih =>
    intro x0 x1 x3 hF
    rw [f_X7_shortFigures_L19] at hF
    refine x_iload_n C 2 dX7_shortFigures_19 rfl rfl ?_
    refine x_if_le (tgt := 50) C dX7_shortFigures_20 (by decide) (fun hc => ?_) (fun hc => ?_)
    · replace hF := f_t hc hF
      refine x_iconst (v := 1) C dX7_shortFigures_50 (by decide) ?_
      exact x_iret C dX7_shortFigures_51 (Option.some.inj hF) rfl
    · replace hF := f_f hc hF
      refine x_iload_n C 0 dX7_shortFigures_23 rfl rfl ?_
      refine x_stat_POWERS C dX7_shortFigures_24 ?_
      refine x_iload_n C 2 dX7_shortFigures_27 rfl rfl ?_
      obtain ⟨hi1, hF⟩ := f_chk hF
      refine x_sald_POWERS C hi1 dX7_shortFigures_28 ?_
      obtain ⟨hz2, hF⟩ := f_nz hF
      refine x_idiv C dX7_shortFigures_29 hz2 ?_
      refine x_iload_n C 1 dX7_shortFigures_30 rfl rfl ?_
      refine x_stat_POWERS C dX7_shortFigures_31 ?_
      refine x_iload_n C 2 dX7_shortFigures_34 rfl rfl ?_
      obtain ⟨hi3, hF⟩ := f_chk hF
      refine x_sald_POWERS C hi3 dX7_shortFigures_35 ?_
      obtain ⟨hz4, hF⟩ := f_nz hF
      refine x_idiv C dX7_shortFigures_36 hz4 ?_
      refine x_icmp_eq (tgt := 44) C dX7_shortFigures_37 (by decide) (fun hc => ?_) (fun hc => ?_)
      · replace hF := f_t hc hF
        refine x_iinc C [(3, .int (x3 + (-1))), (0, .int x0), (1, .int x1)] 2 dX7_shortFigures_44 rfl rfl (by decide) rfl ?_
        refine x_goto (tgt := 19) C dX7_shortFigures_47 (by decide) ?_
        exact x_pick [(0, .int x0), (1, .int x1), (3, .int (x3 + (-1)))] [1, 2, 0] rfl (ih x0 x1 (x3 + (-1)) hF)
      · replace hF := f_f hc hF
        refine x_iload_n C 2 dX7_shortFigures_40 rfl rfl ?_
        refine x_iconst (v := 1) C dX7_shortFigures_41 (by decide) ?_
        refine x_iadd C dX7_shortFigures_42 ?_
        exact x_iret C dX7_shortFigures_43 (Option.some.inj hF) rfl
set_option maxHeartbeats 4000000 in
theorem w_X7_shortFigures {G : Gl} {p : Program} {l : Launch} {e : Env} {s0 : State} {m : MethodId} {args : Array Value} {below : List Frame} {meth : Method} {c : Code} (C : Cx G p s0 m args meth c cX7_shortFigures 4 RX7 (some .int)) {r : Int32}  (x0 : Int32) (x1 : Int32) (μ : Mu) (hF : f_X7_shortFigures x0 x1 μ = some r) : X G p l e 1 20 s0 m args below meth c 4 (some (.int r)) μ μ 0 [(0, .int x0), (1, .int x1)] [] := by
  unfold f_X7_shortFigures at hF
  refine x_iload_n C 1 dX7_shortFigures_0 rfl rfl ?_
  refine x_cSi (rest := []) C (c_X7_figures l C.2.2.2.2.2.2.2.2 x1 μ) cw_X7_152 ⟨by decide, by decide⟩ rfl rfl (Nat.le_of_ble_eq_true rfl) dX7_shortFigures_1 ?_
  refine x_letI hF (fun y1 hF => ?_)
  refine x_istore_n C [(2, .int y1), (0, .int x0), (1, .int x1)] dX7_shortFigures_4 rfl (by decide) rfl ?_
  refine x_iload_n C 1 dX7_shortFigures_5 rfl rfl ?_
  refine x_cSi (rest := []) C (c_X7_figures l C.2.2.2.2.2.2.2.2 x0 μ) cw_X7_152 ⟨by decide, by decide⟩ rfl rfl (Nat.le_of_ble_eq_true rfl) dX7_shortFigures_6 ?_
  refine x_iload_n C 0 dX7_shortFigures_9 rfl rfl ?_
  refine x_icmp_eq (tgt := 15) C dX7_shortFigures_10 (by decide) (fun hc => ?_) (fun hc => ?_)
  · replace hF := f_t hc hF
    refine x_iload_n C 0 dX7_shortFigures_15 rfl rfl ?_
    refine x_iconst (v := 1) C dX7_shortFigures_16 (by decide) ?_
    refine x_isub C dX7_shortFigures_17 ?_
    refine x_letI hF (fun y2 hF => ?_)
    refine x_istore_n C [(3, .int y2), (2, .int y1), (0, .int x0), (1, .int x1)] dX7_shortFigures_18 rfl (by decide) rfl ?_
    exact x_pick [(0, .int x0), (1, .int x1), (3, .int y2)] [2, 3, 0] rfl (w_X7_shortFigures_L19 C μ fu x0 x1 y2 hF)
  · replace hF := f_f hc hF
    refine x_iload_n C 0 dX7_shortFigures_13 rfl rfl ?_
    exact x_iret C dX7_shortFigures_14 (Option.some.inj hF) rfl
set_option maxHeartbeats 4000000 in
theorem c_X7_shortFigures {G : Gl} (l : Launch) (hA : Ap G) {r : Int32}  (x0 : Int32) (x1 : Int32) (μ : Mu) (hF : f_X7_shortFigures x0 x1 μ = some r) : Mth G l yX7_shortFigures cX7_shortFigures 4 (some .int) 1 20 [.int x0, .int x1] (some (.int r)) μ μ := Mth.of hA (by decide) rfl (Nat.le_of_ble_eq_true rfl) (fun p e s0 m args below meth c C => w_X7_shortFigures C x0 x1 μ hF)
set_option maxHeartbeats 4000000 in
theorem w_X7_page {G : Gl} {p : Program} {l : Launch} {e : Env} {s0 : State} {m : MethodId} {args : Array Value} {below : List Frame} {meth : Method} {c : Code} (C : Cx G p s0 m args meth c cX7_page 6 RX7 (some .int)) {r : Int32}  (x1 : Int32) (x2 : Int32) (μ : Mu) (hF : f_X7_page x1 x2 μ = some r) : X G p l e 2 43 s0 m args below meth c 6 (some (.int r)) μ μ 0 [(0, .ref (G.ad 0)), (1, .int x1), (2, .int x2)] [] := by
  unfold f_X7_page at hF
  refine x_aload_n C 0 dX7_page_0 rfl rfl ?_
  refine x_getR C fc_X7 fl_X7_10 sh_0 (by decide) rfl dX7_page_1 ?_
  refine x_iload_n C 1 dX7_page_4 rfl rfl ?_
  refine x_cVi (rest := []) C (c_X4_has l C.2.2.2.2.2.2.2.2 x1 μ) cw_X7_96 sh_1 rfl rfl ⟨by decide, by decide⟩ rfl rfl (Nat.le_of_ble_eq_true rfl) dX7_page_5 ?_
  refine x_if_ne (tgt := 15) C dX7_page_8 (by decide) (fun hc => ?_) (fun hc => ?_)
  · replace hF := f_f hc hF
    refine x_iload_n C 2 dX7_page_15 rfl rfl ?_
    refine x_iconst (v := 0) C dX7_page_16 (by decide) ?_
    refine x_iconst (v := 2) C dX7_page_17 (by decide) ?_
    refine x_cSi (rest := []) C (c_X7_within l C.2.2.2.2.2.2.2.2 x2 0 2 μ) cw_X7_78 ⟨by decide, by decide⟩ rfl rfl (Nat.le_of_ble_eq_true rfl) dX7_page_18 ?_
    refine x_if_ne (tgt := 28) C dX7_page_21 (by decide) (fun hc => ?_) (fun hc => ?_)
    · replace hF := f_f hc hF
      refine x_aload_n C 0 dX7_page_28 rfl rfl ?_
      refine x_getR C fc_X7 fl_X7_10 sh_0 (by decide) rfl dX7_page_29 ?_
      refine x_getR C fc_X4 fl_X7_104 sh_1 (by decide) rfl dX7_page_32 ?_
      refine x_iload_n C 1 dX7_page_35 rfl rfl ?_
      obtain ⟨hi1, hF⟩ := f_chk hF
      refine x_iald C sh_5 hi1 dX7_page_36 ?_
      refine x_letI hF (fun y2 hF => ?_)
      refine x_istore_n C [(3, .int y2), (0, .ref (G.ad 0)), (1, .int x1), (2, .int x2)] dX7_page_37 rfl (by decide) rfl ?_
      refine x_aload_n C 1 dX7_page_38 rfl rfl ?_
      refine x_getR C fc_X7 fl_X7_10 sh_0 (by decide) rfl dX7_page_39 ?_
      refine x_getR C fc_X4 fl_X7_107 sh_1 (by decide) rfl dX7_page_42 ?_
      refine x_iload_n C 2 dX7_page_45 rfl rfl ?_
      refine x_iald C sh_6 hi1 dX7_page_46 ?_
      refine x_letI hF (fun y3 hF => ?_)
      refine x_istore C [(4, .int y3), (3, .int y2), (0, .ref (G.ad 0)), (1, .int x1), (2, .int x2)] dX7_page_47 (by decide) rfl ?_
      refine x_iload_n C 1 dX7_page_49 rfl rfl ?_
      refine x_iconst (v := (-1)) C dX7_page_50 (by decide) ?_
      refine x_icmp_eq (tgt := 58) C dX7_page_51 (by decide) (fun hc => ?_) (fun hc => ?_)
      · replace hF := f_t hc hF
        refine x_iload_n C 1 dX7_page_58 rfl rfl ?_
        exact x_iret C dX7_page_59 (Option.some.inj hF) rfl
      · replace hF := f_f hc hF
        refine x_iload_n C 4 dX7_page_54 rfl rfl ?_
        refine x_if_ne (tgt := 60) C dX7_page_55 (by decide) (fun hc => ?_) (fun hc => ?_)
        · replace hF := f_f hc hF
          refine x_aload_n C 2 dX7_page_60 rfl rfl ?_
          refine x_getR C fc_X7 fl_X7_26 sh_0 (by decide) rfl dX7_page_61 ?_
          refine x_getR C fc_X1 fl_X7_146 sh_13 (by decide) rfl dX7_page_64 ?_
          refine x_bipush (v := 9) C dX7_page_67 (by decide) ?_
          refine x_iald C sh_17 (by decide) dX7_page_69 ?_
          refine x_iconst (v := 1) C dX7_page_70 (by decide) ?_
          refine x_icmp_ne (tgt := 83) C dX7_page_71 (by decide) (fun hc => ?_) (fun hc => ?_)
          · replace hF := f_f hc hF
            refine x_iload C 0 dX7_page_83 rfl ?_
            refine x_cSi (rest := []) C (c_X7_figures l C.2.2.2.2.2.2.2.2 y3 μ) cw_X7_152 ⟨by decide, by decide⟩ rfl rfl (Nat.le_of_ble_eq_true rfl) dX7_page_85 ?_
            refine x_letI hF (fun y4 hF => ?_)
            refine x_istore C [(5, .int y4), (4, .int y3), (3, .int y2), (0, .ref (G.ad 0)), (1, .int x1), (2, .int x2)] dX7_page_88 (by decide) rfl ?_
            refine x_iload_n C 5 dX7_page_90 rfl rfl ?_
            refine x_iconst (v := 1) C dX7_page_91 (by decide) ?_
            refine x_icmp_ne (tgt := 107) C dX7_page_92 (by decide) (fun hc => ?_) (fun hc => ?_)
            · replace hF := f_f hc hF
              refine x_iload C 0 dX7_page_107 rfl ?_
              exact x_iret C dX7_page_109 (Option.some.inj hF) rfl
            · replace hF := f_t hc hF
              refine x_iload C 1 dX7_page_95 rfl ?_
              refine x_stat_POWERS C dX7_page_97 ?_
              refine x_iload C 0 dX7_page_100 rfl ?_
              obtain ⟨hi5, hF⟩ := f_chk hF
              refine x_sald_POWERS C hi5 dX7_page_102 ?_
              obtain ⟨hz6, hF⟩ := f_nz hF
              refine x_irem C dX7_page_103 hz6 ?_
              refine x_goto (tgt := 109) C dX7_page_104 (by decide) ?_
              exact x_iret C dX7_page_109 (Option.some.inj hF) rfl
          · replace hF := f_t hc hF
            refine x_iload_n C 1 dX7_page_74 rfl rfl ?_
            refine x_iload C 0 dX7_page_75 rfl ?_
            obtain ⟨q7, hq7, hF⟩ := f_bind hF
            refine x_cSi (rest := []) C (c_X7_shortFigures l C.2.2.2.2.2.2.2.2 y2 y3 μ hq7) cw_X7_149 ⟨by decide, by decide⟩ rfl rfl (Nat.le_of_ble_eq_true rfl) dX7_page_77 ?_
            refine x_goto (tgt := 88) C dX7_page_80 (by decide) ?_
            refine x_istore C [(5, .int q7), (4, .int y3), (3, .int y2), (0, .ref (G.ad 0)), (1, .int x1), (2, .int x2)] dX7_page_88 (by decide) rfl ?_
            refine x_iload_n C 5 dX7_page_90 rfl rfl ?_
            refine x_iconst (v := 1) C dX7_page_91 (by decide) ?_
            refine x_icmp_ne (tgt := 107) C dX7_page_92 (by decide) (fun hc => ?_) (fun hc => ?_)
            · replace hF := f_f hc hF
              refine x_iload C 0 dX7_page_107 rfl ?_
              exact x_iret C dX7_page_109 (Option.some.inj hF) rfl
            · replace hF := f_t hc hF
              refine x_iload C 1 dX7_page_95 rfl ?_
              refine x_stat_POWERS C dX7_page_97 ?_
              refine x_iload C 0 dX7_page_100 rfl ?_
              obtain ⟨hi8, hF⟩ := f_chk hF
              refine x_sald_POWERS C hi8 dX7_page_102 ?_
              obtain ⟨hz9, hF⟩ := f_nz hF
              refine x_irem C dX7_page_103 hz9 ?_
              refine x_goto (tgt := 109) C dX7_page_104 (by decide) ?_
              exact x_iret C dX7_page_109 (Option.some.inj hF) rfl
        · replace hF := f_t hc hF
          refine x_iload_n C 1 dX7_page_58 rfl rfl ?_
          exact x_iret C dX7_page_59 (Option.some.inj hF) rfl
    · replace hF := f_t hc hF
      refine x_sipush (v := (-1002)) C dX7_page_24 (by decide) ?_
      exact x_iret C dX7_page_27 (Option.some.inj hF) rfl
  · replace hF := f_t hc hF
    refine x_sipush (v := (-1001)) C dX7_page_11 (by decide) ?_
    exact x_iret C dX7_page_14 (Option.some.inj hF) rfl
set_option maxHeartbeats 4000000 in
theorem c_X7_page {G : Gl} (l : Launch) (hA : Ap G) {r : Int32}  (x1 : Int32) (x2 : Int32) (μ : Mu) (hF : f_X7_page x1 x2 μ = some r) : Mth G l yX7_page cX7_page 6 (some .int) 2 43 [.ref (G.ad 0), .int x1, .int x2] (some (.int r)) μ μ := Mth.of hA (by decide) rfl (Nat.le_of_ble_eq_true rfl) (fun p e s0 m args below meth c C => w_X7_page C x1 x2 μ hF)
set_option maxHeartbeats 4000000 in
theorem w_X7_pages_b63 {G : Gl} {p : Program} {l : Launch} {e : Env} {s0 : State} {m : MethodId} {args : Array Value} {below : List Frame} {meth : Method} {c : Code} (C : Cx G p s0 m args meth c cX7_pages 5 RX7 (some .int)) {r : Int32} {μf : Mu}  (x1 : Int32) (x2 : Int32) (x3 : Int32) (μ : Mu) (hF : f_X7_pages_b63 x1 x2 x3 μ = some (r, μf)) : X G p l e 1 22 s0 m args below meth c 5 (some (.int r)) μf μ 63 [(0, .ref (G.ad 0)), (1, .int x1), (2, .int x2), (3, .int x3)] [] := by
  unfold f_X7_pages_b63 at hF
  refine x_aload_n C 0 dX7_pages_63 rfl rfl ?_
  refine x_getR C fc_X7 fl_X7_10 sh_0 (by decide) rfl dX7_pages_64 ?_
  refine x_getR C fc_X4 fl_X7_104 sh_1 (by decide) rfl dX7_pages_67 ?_
  refine x_iload_n C 1 dX7_pages_70 rfl rfl ?_
  refine x_iload_n C 2 dX7_pages_71 rfl rfl ?_
  obtain ⟨hi1, hF⟩ := f_chk hF
  refine x_iast C sh_5 hi1 dX7_pages_72 ?_
  refine x_letM hF (fun μ2 hF => ?_)
  refine x_aload_n C 0 dX7_pages_73 rfl rfl ?_
  refine x_getR C fc_X7 fl_X7_10 sh_0 (by decide) rfl dX7_pages_74 ?_
  refine x_getR C fc_X4 fl_X7_107 sh_1 (by decide) rfl dX7_pages_77 ?_
  refine x_iload_n C 1 dX7_pages_80 rfl rfl ?_
  refine x_iload_n C 3 dX7_pages_81 rfl rfl ?_
  refine x_iast C sh_6 hi1 dX7_pages_82 ?_
  refine x_letM hF (fun μ3 hF => ?_)
  refine x_iconst (v := 1) C dX7_pages_83 (by decide) ?_
  exact x_iret C dX7_pages_84 (Prod.mk.inj (Option.some.inj hF)).1 (Prod.mk.inj (Option.some.inj hF)).2
set_option maxHeartbeats 4000000 in
theorem w_X7_pages_b30 {G : Gl} {p : Program} {l : Launch} {e : Env} {s0 : State} {m : MethodId} {args : Array Value} {below : List Frame} {meth : Method} {c : Code} (C : Cx G p s0 m args meth c cX7_pages 5 RX7 (some .int)) {r : Int32} {μf : Mu}  (x1 : Int32) (x2 : Int32) (x3 : Int32) (t0 : Int32) (μ : Mu) (hF : f_X7_pages_b30 x1 x2 x3 t0 μ = some (r, μf)) : X G p l e 1 22 s0 m args below meth c 5 (some (.int r)) μf μ 30 [(0, .ref (G.ad 0)), (1, .int x1), (2, .int x2), (3, .int x3)] [.int t0] := by
  unfold f_X7_pages_b30 at hF
  refine x_istore C [(4, .int t0), (0, .ref (G.ad 0)), (1, .int x1), (2, .int x2), (3, .int x3)] dX7_pages_30 (by decide) rfl ?_
  refine x_iload C 0 dX7_pages_32 rfl ?_
  refine x_if_ne (tgt := 63) C dX7_pages_34 (by decide) (fun hc => ?_) (fun hc => ?_)
  · replace hF := f_f hc hF
    exact x_pick [(0, .ref (G.ad 0)), (1, .int x1), (2, .int x2), (3, .int x3)] [1, 2, 3, 4] rfl (w_X7_pages_b63 C x1 x2 x3 μ hF)
  · replace hF := f_t hc hF
    refine x_iload_n C 3 dX7_pages_37 rfl rfl ?_
    refine x_iconst (v := 0) C dX7_pages_38 (by decide) ?_
    refine x_sipush (v := 9999) C dX7_pages_39 (by decide) ?_
    refine x_cSi (rest := []) C (c_X7_within l C.2.2.2.2.2.2.2.2 x2 0 9999 μ) cw_X7_78 ⟨by decide, by decide⟩ rfl rfl (Nat.le_of_ble_eq_true rfl) dX7_pages_42 ?_
    refine x_if_eq (tgt := 59) C dX7_pages_45 (by decide) (fun hc => ?_) (fun hc => ?_)
    · replace hF := f_t hc hF
      refine x_sipush (v := (-1002)) C dX7_pages_59 (by decide) ?_
      exact x_iret C dX7_pages_62 (Prod.mk.inj (Option.some.inj hF)).1 (Prod.mk.inj (Option.some.inj hF)).2
    · replace hF := f_f hc hF
      refine x_iload_n C 4 dX7_pages_48 rfl rfl ?_
      refine x_iload_n C 3 dX7_pages_49 rfl rfl ?_
      refine x_sipush (v := 9999) C dX7_pages_50 (by decide) ?_
      refine x_cSi (rest := []) C (c_X7_within l C.2.2.2.2.2.2.2.2 x3 x2 9999 μ) cw_X7_78 ⟨by decide, by decide⟩ rfl rfl (Nat.le_of_ble_eq_true rfl) dX7_pages_53 ?_
      refine x_if_ne (tgt := 63) C dX7_pages_56 (by decide) (fun hc => ?_) (fun hc => ?_)
      · replace hF := f_f hc hF
        exact x_pick [(0, .ref (G.ad 0)), (1, .int x1), (2, .int x2), (3, .int x3)] [1, 2, 3, 4] rfl (w_X7_pages_b63 C x1 x2 x3 μ hF)
      · replace hF := f_t hc hF
        refine x_sipush (v := (-1002)) C dX7_pages_59 (by decide) ?_
        exact x_iret C dX7_pages_62 (Prod.mk.inj (Option.some.inj hF)).1 (Prod.mk.inj (Option.some.inj hF)).2
set_option maxHeartbeats 4000000 in
theorem w_X7_pages {G : Gl} {p : Program} {l : Launch} {e : Env} {s0 : State} {m : MethodId} {args : Array Value} {below : List Frame} {meth : Method} {c : Code} (C : Cx G p s0 m args meth c cX7_pages 5 RX7 (some .int)) {r : Int32} {μf : Mu}  (x1 : Int32) (x2 : Int32) (x3 : Int32) (μ : Mu) (hF : f_X7_pages x1 x2 x3 μ = some (r, μf)) : X G p l e 1 22 s0 m args below meth c 5 (some (.int r)) μf μ 0 [(0, .ref (G.ad 0)), (1, .int x1), (2, .int x2), (3, .int x3)] [] := by
  unfold f_X7_pages at hF
  refine x_aload_n C 0 dX7_pages_0 rfl rfl ?_
  refine x_getR C fc_X7 fl_X7_10 sh_0 (by decide) rfl dX7_pages_1 ?_
  refine x_iload_n C 1 dX7_pages_4 rfl rfl ?_
  refine x_cVi (rest := []) C (c_X4_has l C.2.2.2.2.2.2.2.2 x1 μ) cw_X7_96 sh_1 rfl rfl ⟨by decide, by decide⟩ rfl rfl (Nat.le_of_ble_eq_true rfl) dX7_pages_5 ?_
  refine x_if_ne (tgt := 15) C dX7_pages_8 (by decide) (fun hc => ?_) (fun hc => ?_)
  · replace hF := f_f hc hF
    refine x_iload_n C 2 dX7_pages_15 rfl rfl ?_
    refine x_iconst (v := (-1)) C dX7_pages_16 (by decide) ?_
    refine x_icmp_ne (tgt := 29) C dX7_pages_17 (by decide) (fun hc => ?_) (fun hc => ?_)
    · replace hF := f_f hc hF
      refine x_iconst (v := 0) C dX7_pages_29 (by decide) ?_
      exact x_pick [(0, .ref (G.ad 0)), (1, .int x1), (2, .int x2), (3, .int x3)] [0, 1, 2, 3] rfl (w_X7_pages_b30 C x1 x2 x3 0 μ hF)
    · replace hF := f_t hc hF
      refine x_iload_n C 3 dX7_pages_20 rfl rfl ?_
      refine x_iconst (v := (-1)) C dX7_pages_21 (by decide) ?_
      refine x_icmp_ne (tgt := 29) C dX7_pages_22 (by decide) (fun hc => ?_) (fun hc => ?_)
      · replace hF := f_f hc hF
        refine x_iconst (v := 0) C dX7_pages_29 (by decide) ?_
        exact x_pick [(0, .ref (G.ad 0)), (1, .int x1), (2, .int x2), (3, .int x3)] [0, 1, 2, 3] rfl (w_X7_pages_b30 C x1 x2 x3 0 μ hF)
      · replace hF := f_t hc hF
        refine x_iconst (v := 1) C dX7_pages_25 (by decide) ?_
        refine x_goto (tgt := 30) C dX7_pages_26 (by decide) ?_
        exact x_pick [(0, .ref (G.ad 0)), (1, .int x1), (2, .int x2), (3, .int x3)] [0, 1, 2, 3] rfl (w_X7_pages_b30 C x1 x2 x3 1 μ hF)
  · replace hF := f_t hc hF
    refine x_sipush (v := (-1001)) C dX7_pages_11 (by decide) ?_
    exact x_iret C dX7_pages_14 (Prod.mk.inj (Option.some.inj hF)).1 (Prod.mk.inj (Option.some.inj hF)).2
set_option maxHeartbeats 4000000 in
theorem c_X7_pages {G : Gl} (l : Launch) (hA : Ap G) {r : Int32} {μf : Mu}  (x1 : Int32) (x2 : Int32) (x3 : Int32) (μ : Mu) (hF : f_X7_pages x1 x2 x3 μ = some (r, μf)) : Mth G l yX7_pages cX7_pages 5 (some .int) 1 22 [.ref (G.ad 0), .int x1, .int x2, .int x3] (some (.int r)) μf μ := Mth.of hA (by decide) rfl (Nat.le_of_ble_eq_true rfl) (fun p e s0 m args below meth c C => w_X7_pages C x1 x2 x3 μ hF)
set_option maxHeartbeats 4000000 in
theorem w_X7_part {G : Gl} {p : Program} {l : Launch} {e : Env} {s0 : State} {m : MethodId} {args : Array Value} {below : List Frame} {meth : Method} {c : Code} (C : Cx G p s0 m args meth c cX7_part 3 RX7 (some .int)) {r : Int32} {μf : Mu}  (x1 : Int32) (μ : Mu) (hF : f_X7_part x1 μ = some (r, μf)) : X G p l e 1 21 s0 m args below meth c 3 (some (.int r)) μf μ 0 [(0, .ref (G.ad 0)), (1, .int x1)] [] := by
  unfold f_X7_part at hF
  refine x_aload_n C 0 dX7_part_0 rfl rfl ?_
  refine x_getR C fc_X7 fl_X7_10 sh_0 (by decide) rfl dX7_part_1 ?_
  refine x_iload_n C 1 dX7_part_4 rfl rfl ?_
  refine x_cVi (rest := []) C (c_X4_has l C.2.2.2.2.2.2.2.2 x1 μ) cw_X7_96 sh_1 rfl rfl ⟨by decide, by decide⟩ rfl rfl (Nat.le_of_ble_eq_true rfl) dX7_part_5 ?_
  refine x_if_ne (tgt := 15) C dX7_part_8 (by decide) (fun hc => ?_) (fun hc => ?_)
  · replace hF := f_f hc hF
    refine x_aload_n C 0 dX7_part_15 rfl rfl ?_
    refine x_getR C fc_X7 fl_X7_26 sh_0 (by decide) rfl dX7_part_16 ?_
    refine x_getR C fc_X1 fl_X7_110 sh_13 (by decide) rfl dX7_part_19 ?_
    refine x_iload_n C 1 dX7_part_22 rfl rfl ?_
    obtain ⟨hi1, hF⟩ := f_chk hF
    refine x_iald C sh_16 hi1 dX7_part_23 ?_
    refine x_letI hF (fun y2 hF => ?_)
    refine x_istore_n C [(2, .int y2), (0, .ref (G.ad 0)), (1, .int x1)] dX7_part_24 rfl (by decide) rfl ?_
    refine x_iload_n C 0 dX7_part_25 rfl rfl ?_
    refine x_iconst (v := (-1)) C dX7_part_26 (by decide) ?_
    refine x_icmp_ne (tgt := 34) C dX7_part_27 (by decide) (fun hc => ?_) (fun hc => ?_)
    · replace hF := f_f hc hF
      refine x_aload_n C 1 dX7_part_34 rfl rfl ?_
      refine x_getR C fc_X7 fl_X7_26 sh_0 (by decide) rfl dX7_part_35 ?_
      refine x_getR C fc_X1 fl_X7_110 sh_13 (by decide) rfl dX7_part_38 ?_
      refine x_iload_n C 2 dX7_part_41 rfl rfl ?_
      refine x_iconst (v := (-1)) C dX7_part_42 (by decide) ?_
      refine x_iast C sh_16 hi1 dX7_part_43 ?_
      refine x_letM hF (fun μ3 hF => ?_)
      refine x_aload_n C 1 dX7_part_44 rfl rfl ?_
      obtain ⟨q4, hq4, hF⟩ := f_bind hF
      refine x_cVv (rest := []) C (c_X7_unsettle l C.2.2.2.2.2.2.2.2 μ3 hq4) cw_X7_93 sh_0 rfl rfl ⟨by decide, by decide⟩ rfl rfl (Nat.le_of_ble_eq_true rfl) dX7_part_45 ?_
      refine x_iload_n C 0 dX7_part_48 rfl rfl ?_
      exact x_iret C dX7_part_49 (Prod.mk.inj (Option.some.inj hF)).1 (Prod.mk.inj (Option.some.inj hF)).2
    · replace hF := f_t hc hF
      refine x_sipush (v := (-1003)) C dX7_part_30 (by decide) ?_
      exact x_iret C dX7_part_33 (Prod.mk.inj (Option.some.inj hF)).1 (Prod.mk.inj (Option.some.inj hF)).2
  · replace hF := f_t hc hF
    refine x_sipush (v := (-1001)) C dX7_part_11 (by decide) ?_
    exact x_iret C dX7_part_14 (Prod.mk.inj (Option.some.inj hF)).1 (Prod.mk.inj (Option.some.inj hF)).2
set_option maxHeartbeats 4000000 in
theorem c_X7_part {G : Gl} (l : Launch) (hA : Ap G) {r : Int32} {μf : Mu}  (x1 : Int32) (μ : Mu) (hF : f_X7_part x1 μ = some (r, μf)) : Mth G l yX7_part cX7_part 3 (some .int) 1 21 [.ref (G.ad 0), .int x1] (some (.int r)) μf μ := Mth.of hA (by decide) rfl (Nat.le_of_ble_eq_true rfl) (fun p e s0 m args below meth c C => w_X7_part C x1 μ hF)
set_option maxHeartbeats 4000000 in
theorem w_X7_piece_b33 {G : Gl} {p : Program} {l : Launch} {e : Env} {s0 : State} {m : MethodId} {args : Array Value} {below : List Frame} {meth : Method} {c : Code} (C : Cx G p s0 m args meth c cX7_piece 4 RX7 (some .int)) {r : Int32} {μf : Mu}  (x1 : Int32) (x2 : Int32) (x3 : Int32) (μ : Mu) (hF : f_X7_piece_b33 x1 x2 x3 μ = some (r, μf)) : X G p l e 6 151 s0 m args below meth c 4 (some (.int r)) μf μ 33 [(0, .ref (G.ad 0)), (1, .int x1), (2, .int x2), (3, .int x3)] [] := by
  unfold f_X7_piece_b33 at hF
  refine x_aload_n C 0 dX7_piece_33 rfl rfl ?_
  refine x_getR C fc_X7 fl_X7_63 sh_0 (by decide) rfl dX7_piece_34 ?_
  refine x_aload_n C 0 dX7_piece_37 rfl rfl ?_
  obtain ⟨q1, hq1, hF⟩ := f_bind hF
  refine x_cVr (rest := [.ref (G.ad 75)]) C (c_X7_settledView l C.2.2.2.2.2.2.2.2 μ hq1) cw_X7_123 sh_0 rfl rfl ⟨by decide, by decide⟩ rfl rfl (Nat.le_of_ble_eq_true rfl) dX7_piece_38 ?_
  refine x_iload_n C 1 dX7_piece_41 rfl rfl ?_
  obtain ⟨q2, hq2, hF⟩ := f_bind hF
  refine x_cVv (rest := []) C (c_X2_cutUp l C.2.2.2.2.2.2.2.2 isV_13 x1 q1 hq2) cw_X7_218 sh_75 rfl rfl ⟨by decide, by decide⟩ rfl rfl (Nat.le_of_ble_eq_true rfl) dX7_piece_42 ?_
  refine x_iload_n C 2 dX7_piece_45 rfl rfl ?_
  refine x_iconst (v := (-1)) C dX7_piece_46 (by decide) ?_
  refine x_icmp_ne (tgt := 58) C dX7_piece_47 (by decide) (fun hc => ?_) (fun hc => ?_)
  · replace hF := f_f hc hF
    refine x_iload_n C 2 dX7_piece_58 rfl rfl ?_
    refine x_iconst (v := 0) C dX7_piece_59 (by decide) ?_
    refine x_aload_n C 0 dX7_piece_60 rfl rfl ?_
    refine x_getR C fc_X7 fl_X7_63 sh_0 (by decide) rfl dX7_piece_61 ?_
    refine x_getI C fc_X2 fl_X7_222 sh_75 (by decide) rfl dX7_piece_64 ?_
    refine x_iconst (v := 1) C dX7_piece_67 (by decide) ?_
    refine x_isub C dX7_piece_68 ?_
    refine x_cSi (rest := []) C (c_X7_within l C.2.2.2.2.2.2.2.2 x2 0 ((q2 75 2) - 1) q2) cw_X7_78 ⟨by decide, by decide⟩ rfl rfl (Nat.le_of_ble_eq_true rfl) dX7_piece_69 ?_
    refine x_if_ne (tgt := 77) C dX7_piece_72 (by decide) (fun hc => ?_) (fun hc => ?_)
    · replace hF := f_f hc hF
      refine x_iload_n C 3 dX7_piece_77 rfl rfl ?_
      refine x_if_ne (tgt := 93) C dX7_piece_78 (by decide) (fun hc => ?_) (fun hc => ?_)
      · replace hF := f_f hc hF
        refine x_aload_n C 0 dX7_piece_93 rfl rfl ?_
        refine x_getR C fc_X7 fl_X7_63 sh_0 (by decide) rfl dX7_piece_94 ?_
        refine x_getR C fc_X2 fl_X7_224 sh_75 (by decide) rfl dX7_piece_97 ?_
        refine x_iload_n C 2 dX7_piece_100 rfl rfl ?_
        obtain ⟨hi3, hF⟩ := f_chk hF
        refine x_iald C sh_77 hi3 dX7_piece_101 ?_
        exact x_iret C dX7_piece_102 (Prod.mk.inj (Option.some.inj hF)).1 (Prod.mk.inj (Option.some.inj hF)).2
      · replace hF := f_t hc hF
        refine x_aload_n C 0 dX7_piece_81 rfl rfl ?_
        refine x_getR C fc_X7 fl_X7_63 sh_0 (by decide) rfl dX7_piece_82 ?_
        refine x_getR C fc_X2 fl_X7_223 sh_75 (by decide) rfl dX7_piece_85 ?_
        refine x_iload_n C 2 dX7_piece_88 rfl rfl ?_
        obtain ⟨hi4, hF⟩ := f_chk hF
        refine x_iald C sh_76 hi4 dX7_piece_89 ?_
        refine x_goto (tgt := 102) C dX7_piece_90 (by decide) ?_
        exact x_iret C dX7_piece_102 (Prod.mk.inj (Option.some.inj hF)).1 (Prod.mk.inj (Option.some.inj hF)).2
    · replace hF := f_t hc hF
      refine x_iconst (v := (-1)) C dX7_piece_75 (by decide) ?_
      exact x_iret C dX7_piece_76 (Prod.mk.inj (Option.some.inj hF)).1 (Prod.mk.inj (Option.some.inj hF)).2
  · replace hF := f_t hc hF
    refine x_aload_n C 0 dX7_piece_50 rfl rfl ?_
    refine x_getR C fc_X7 fl_X7_63 sh_0 (by decide) rfl dX7_piece_51 ?_
    refine x_getI C fc_X2 fl_X7_222 sh_75 (by decide) rfl dX7_piece_54 ?_
    exact x_iret C dX7_piece_57 (Prod.mk.inj (Option.some.inj hF)).1 (Prod.mk.inj (Option.some.inj hF)).2
set_option maxHeartbeats 4000000 in
theorem w_X7_piece {G : Gl} {p : Program} {l : Launch} {e : Env} {s0 : State} {m : MethodId} {args : Array Value} {below : List Frame} {meth : Method} {c : Code} (C : Cx G p s0 m args meth c cX7_piece 4 RX7 (some .int)) {r : Int32} {μf : Mu}  (x1 : Int32) (x2 : Int32) (x3 : Int32) (μ : Mu) (hF : f_X7_piece x1 x2 x3 μ = some (r, μf)) : X G p l e 6 151 s0 m args below meth c 4 (some (.int r)) μf μ 0 [(0, .ref (G.ad 0)), (1, .int x1), (2, .int x2), (3, .int x3)] [] := by
  unfold f_X7_piece at hF
  refine x_aload_n C 0 dX7_piece_0 rfl rfl ?_
  refine x_getR C fc_X7 fl_X7_26 sh_0 (by decide) rfl dX7_piece_1 ?_
  refine x_iload_n C 1 dX7_piece_4 rfl rfl ?_
  refine x_cVi (rest := []) C (c_X1_has l C.2.2.2.2.2.2.2.2 isD_13 x1 μ) cw_X7_171 sh_13 rfl rfl ⟨by decide, by decide⟩ rfl rfl (Nat.le_of_ble_eq_true rfl) dX7_piece_5 ?_
  refine x_if_ne (tgt := 15) C dX7_piece_8 (by decide) (fun hc => ?_) (fun hc => ?_)
  · replace hF := f_f hc hF
    refine x_iload_n C 2 dX7_piece_15 rfl rfl ?_
    refine x_iconst (v := (-1)) C dX7_piece_16 (by decide) ?_
    refine x_icmp_eq (tgt := 33) C dX7_piece_17 (by decide) (fun hc => ?_) (fun hc => ?_)
    · replace hF := f_t hc hF
      exact x_pick [(0, .ref (G.ad 0)), (1, .int x1), (2, .int x2), (3, .int x3)] [0, 1, 2, 3] rfl (w_X7_piece_b33 C x1 x2 x3 μ hF)
    · replace hF := f_f hc hF
      refine x_iload_n C 3 dX7_piece_20 rfl rfl ?_
      refine x_iconst (v := 0) C dX7_piece_21 (by decide) ?_
      refine x_iconst (v := 1) C dX7_piece_22 (by decide) ?_
      refine x_cSi (rest := []) C (c_X7_within l C.2.2.2.2.2.2.2.2 x3 0 1 μ) cw_X7_78 ⟨by decide, by decide⟩ rfl rfl (Nat.le_of_ble_eq_true rfl) dX7_piece_23 ?_
      refine x_if_ne (tgt := 33) C dX7_piece_26 (by decide) (fun hc => ?_) (fun hc => ?_)
      · replace hF := f_f hc hF
        exact x_pick [(0, .ref (G.ad 0)), (1, .int x1), (2, .int x2), (3, .int x3)] [0, 1, 2, 3] rfl (w_X7_piece_b33 C x1 x2 x3 μ hF)
      · replace hF := f_t hc hF
        refine x_sipush (v := (-1002)) C dX7_piece_29 (by decide) ?_
        exact x_iret C dX7_piece_32 (Prod.mk.inj (Option.some.inj hF)).1 (Prod.mk.inj (Option.some.inj hF)).2
  · replace hF := f_t hc hF
    refine x_sipush (v := (-1001)) C dX7_piece_11 (by decide) ?_
    exact x_iret C dX7_piece_14 (Prod.mk.inj (Option.some.inj hF)).1 (Prod.mk.inj (Option.some.inj hF)).2
set_option maxHeartbeats 4000000 in
theorem c_X7_piece {G : Gl} (l : Launch) (hA : Ap G) {r : Int32} {μf : Mu}  (x1 : Int32) (x2 : Int32) (x3 : Int32) (μ : Mu) (hF : f_X7_piece x1 x2 x3 μ = some (r, μf)) : Mth G l yX7_piece cX7_piece 4 (some .int) 6 151 [.ref (G.ad 0), .int x1, .int x2, .int x3] (some (.int r)) μf μ := Mth.of hA (by decide) rfl (Nat.le_of_ble_eq_true rfl) (fun p e s0 m args below meth c C => w_X7_piece C x1 x2 x3 μ hF)
set_option maxHeartbeats 4000000 in
theorem w_X7_rank_L10 {G : Gl} {p : Program} {l : Launch} {e : Env} {s0 : State} {m : MethodId} {args : Array Value} {below : List Frame} {meth : Method} {c : Code} (C : Cx G p s0 m args meth c cX7_rank 3 RX7 (some .int)) {r : Int32} {μf : Mu}  : ∀ (n : Nat) (x2 : Int32) (μ : Mu), f_X7_rank_L10 n x2 μ = some (r, μf) → X G p l e 6 151 s0 m args below meth c 3 (some (.int r)) μf μ 10 [(1, .ref (G.ad 18)), (2, .int x2)] [] := by
  intro n
  induction n with
  | zero =>
    intro x2 μ hF
    rw [f_X7_rank_L10] at hF
    cases hF
  | succ n ih =>
    intro x2 μ hF
    rw [f_X7_rank_L10] at hF
    refine x_iload_n C 1 dX7_rank_10 rfl rfl ?_
    refine x_if_le (tgt := 31) C dX7_rank_11 (by decide) (fun hc => ?_) (fun hc => ?_)
    · replace hF := f_t hc hF
      refine x_iconst (v := 0) C dX7_rank_31 (by decide) ?_
      exact x_iret C dX7_rank_32 (Prod.mk.inj (Option.some.inj hF)).1 (Prod.mk.inj (Option.some.inj hF)).2
    · replace hF := f_f hc hF
      refine x_aload_n C 0 dX7_rank_14 rfl rfl ?_
      refine x_iload_n C 1 dX7_rank_15 rfl rfl ?_
      obtain ⟨q1, hq1, hF⟩ := f_bind hF
      refine x_cVi (rest := []) C (c_X6_worksCalled l C.2.2.2.2.2.2.2.2 isV_13 x2 μ hq1) cw_X7_284 sh_18 rfl rfl ⟨by decide, by decide⟩ rfl rfl (Nat.le_of_ble_eq_true rfl) dX7_rank_16 ?_
      refine x_iload_n C 1 dX7_rank_19 rfl rfl ?_
      refine x_icmp_lt (tgt := 25) C dX7_rank_20 (by decide) (fun hc => ?_) (fun hc => ?_)
      · replace hF := f_t hc hF
        refine x_iinc C [(2, .int (x2 + (-1))), (1, .ref (G.ad 18))] 1 dX7_rank_25 rfl rfl (by decide) rfl ?_
        refine x_goto (tgt := 10) C dX7_rank_28 (by decide) ?_
        exact x_pick [(1, .ref (G.ad 18)), (2, .int (x2 + (-1)))] [1, 0] rfl (ih (x2 + (-1)) μ hF)
      · replace hF := f_f hc hF
        refine x_iload_n C 1 dX7_rank_23 rfl rfl ?_
        exact x_iret C dX7_rank_24 (Prod.mk.inj (Option.some.inj hF)).1 (Prod.mk.inj (Option.some.inj hF)).2
set_option maxHeartbeats 4000000 in
theorem w_X7_rank {G : Gl} {p : Program} {l : Launch} {e : Env} {s0 : State} {m : MethodId} {args : Array Value} {below : List Frame} {meth : Method} {c : Code} (C : Cx G p s0 m args meth c cX7_rank 3 RX7 (some .int)) {r : Int32} {μf : Mu}  (μ : Mu) (hF : f_X7_rank μ = some (r, μf)) : X G p l e 6 151 s0 m args below meth c 3 (some (.int r)) μf μ 0 [(0, .ref (G.ad 0))] [] := by
  unfold f_X7_rank at hF
  refine x_aload_n C 0 dX7_rank_0 rfl rfl ?_
  obtain ⟨q1, hq1, hF⟩ := f_bind hF
  refine x_cVr (rest := []) C (c_X7_settledView l C.2.2.2.2.2.2.2.2 μ hq1) cw_X7_123 sh_0 rfl rfl ⟨by decide, by decide⟩ rfl rfl (Nat.le_of_ble_eq_true rfl) dX7_rank_1 ?_
  refine x_astore_n C [(1, .ref (G.ad 18)), (0, .ref (G.ad 0))] dX7_rank_4 rfl (by decide) rfl ?_
  refine x_aload_n C 0 dX7_rank_5 rfl rfl ?_
  refine x_getI C fc_X6 fl_X7_158 sh_18 (by decide) rfl dX7_rank_6 ?_
  refine x_letI hF (fun y2 hF => ?_)
  refine x_istore_n C [(2, .int y2), (1, .ref (G.ad 18)), (0, .ref (G.ad 0))] dX7_rank_9 rfl (by decide) rfl ?_
  exact x_pick [(1, .ref (G.ad 18)), (2, .int y2)] [1, 0] rfl (w_X7_rank_L10 C fu y2 q1 hF)
set_option maxHeartbeats 4000000 in
theorem c_X7_rank {G : Gl} (l : Launch) (hA : Ap G) {r : Int32} {μf : Mu}  (μ : Mu) (hF : f_X7_rank μ = some (r, μf)) : Mth G l yX7_rank cX7_rank 3 (some .int) 6 151 [.ref (G.ad 0)] (some (.int r)) μf μ := Mth.of hA (by decide) rfl (Nat.le_of_ble_eq_true rfl) (fun p e s0 m args below meth c C => w_X7_rank C μ hF)
set_option maxHeartbeats 4000000 in
theorem w_X7_read {G : Gl} {p : Program} {l : Launch} {e : Env} {s0 : State} {m : MethodId} {args : Array Value} {below : List Frame} {meth : Method} {c : Code} (C : Cx G p s0 m args meth c cX7_read 2 RX7 (some .int)) {r : Int32} {μf : Mu}  (μ : Mu) (hF : f_X7_read μ = some (r, μf)) : X G p l e 9 250 s0 m args below meth c 2 (some (.int r)) μf μ 0 [(0, .ref (G.ad 0))] [] := by
  unfold f_X7_read at hF
  refine x_aload_n C 0 dX7_read_0 rfl rfl ?_
  refine x_getR C fc_X7 fl_X7_56 sh_0 (by decide) rfl dX7_read_1 ?_
  obtain ⟨q1, hq1, hF⟩ := f_bind hF
  refine x_cVi (rest := []) C (c_X3_readText l C.2.2.2.2.2.2.2.2 μ hq1) cw_X7_248 sh_71 rfl rfl ⟨by decide, by decide⟩ rfl rfl (Nat.le_of_ble_eq_true rfl) dX7_read_4 ?_
  refine x_istore_n C [(1, .int q1.1), (0, .ref (G.ad 0))] dX7_read_7 rfl (by decide) rfl ?_
  refine x_aload_n C 1 dX7_read_8 rfl rfl ?_
  refine x_getR C fc_X7 fl_X7_56 sh_0 (by decide) rfl dX7_read_9 ?_
  refine x_getI C fc_X3 fl_X7_251 sh_71 (by decide) rfl dX7_read_12 ?_
  refine x_if_eq (tgt := 29) C dX7_read_15 (by decide) (fun hc => ?_) (fun hc => ?_)
  · replace hF := f_t hc hF
    refine x_aload_n C 1 dX7_read_29 rfl rfl ?_
    refine x_getR C fc_X7 fl_X7_56 sh_0 (by decide) rfl dX7_read_30 ?_
    refine x_getR C fc_X3 fl_X7_254 sh_71 (by decide) rfl dX7_read_33 ?_
    refine x_iconst (v := 0) C dX7_read_36 (by decide) ?_
    refine x_aload_n C 1 dX7_read_37 rfl rfl ?_
    refine x_getR C fc_X7 fl_X7_26 sh_0 (by decide) rfl dX7_read_38 ?_
    refine x_getR C fc_X1 fl_X7_146 sh_13 (by decide) rfl dX7_read_41 ?_
    refine x_iconst (v := 0) C dX7_read_44 (by decide) ?_
    refine x_bipush (v := 10) C dX7_read_45 (by decide) ?_
    obtain ⟨hi2, hF⟩ := f_chk hF
    refine x_copy C cwA_X7_255 sh_72 sh_17 hi2 ⟨by decide, Nat.le_of_ble_eq_true rfl⟩ dX7_read_47 ?_
    refine x_letM hF (fun μ3 hF => ?_)
    refine x_aload_n C 1 dX7_read_50 rfl rfl ?_
    obtain ⟨q4, hq4, hF⟩ := f_bind hF
    refine x_cVv (rest := []) C (c_X7_unsettle l C.2.2.2.2.2.2.2.2 μ3 hq4) cw_X7_93 sh_0 rfl rfl ⟨by decide, by decide⟩ rfl rfl (Nat.le_of_ble_eq_true rfl) dX7_read_51 ?_
    refine x_iload_n C 0 dX7_read_54 rfl rfl ?_
    exact x_iret C dX7_read_55 (Prod.mk.inj (Option.some.inj hF)).1 (Prod.mk.inj (Option.some.inj hF)).2
  · replace hF := f_f hc hF
    refine x_bipush (v := (-10)) C dX7_read_18 (by decide) ?_
    refine x_aload_n C 1 dX7_read_20 rfl rfl ?_
    refine x_getR C fc_X7 fl_X7_56 sh_0 (by decide) rfl dX7_read_21 ?_
    refine x_getI C fc_X3 fl_X7_251 sh_71 (by decide) rfl dX7_read_24 ?_
    refine x_isub C dX7_read_27 ?_
    exact x_iret C dX7_read_28 (Prod.mk.inj (Option.some.inj hF)).1 (Prod.mk.inj (Option.some.inj hF)).2
set_option maxHeartbeats 4000000 in
theorem c_X7_read {G : Gl} (l : Launch) (hA : Ap G) {r : Int32} {μf : Mu}  (μ : Mu) (hF : f_X7_read μ = some (r, μf)) : Mth G l yX7_read cX7_read 2 (some .int) 9 250 [.ref (G.ad 0)] (some (.int r)) μf μ := Mth.of hA (by decide) rfl (Nat.le_of_ble_eq_true rfl) (fun p e s0 m args below meth c C => w_X7_read C μ hF)
set_option maxHeartbeats 4000000 in
theorem w_X7_style {G : Gl} {p : Program} {l : Launch} {e : Env} {s0 : State} {m : MethodId} {args : Array Value} {below : List Frame} {meth : Method} {c : Code} (C : Cx G p s0 m args meth c cX7_style 2 RX7 (some .int)) {r : Int32}  (x1 : Int32) (μ : Mu) (hF : f_X7_style x1 μ = some r) : X G p l e 1 22 s0 m args below meth c 2 (some (.int r)) μ μ 0 [(0, .ref (G.ad 0)), (1, .int x1)] [] := by
  unfold f_X7_style at hF
  refine x_iload_n C 1 dX7_style_0 rfl rfl ?_
  refine x_iconst (v := 0) C dX7_style_1 (by decide) ?_
  refine x_bipush (v := 9) C dX7_style_2 (by decide) ?_
  refine x_cSi (rest := []) C (c_X7_within l C.2.2.2.2.2.2.2.2 x1 0 9 μ) cw_X7_78 ⟨by decide, by decide⟩ rfl rfl (Nat.le_of_ble_eq_true rfl) dX7_style_4 ?_
  refine x_if_eq (tgt := 22) C dX7_style_7 (by decide) (fun hc => ?_) (fun hc => ?_)
  · replace hF := f_t hc hF
    refine x_sipush (v := (-1002)) C dX7_style_22 (by decide) ?_
    exact x_iret C dX7_style_25 (Option.some.inj hF) rfl
  · replace hF := f_f hc hF
    refine x_aload_n C 0 dX7_style_10 rfl rfl ?_
    refine x_getR C fc_X7 fl_X7_26 sh_0 (by decide) rfl dX7_style_11 ?_
    refine x_getR C fc_X1 fl_X7_146 sh_13 (by decide) rfl dX7_style_14 ?_
    refine x_iload_n C 1 dX7_style_17 rfl rfl ?_
    obtain ⟨hi1, hF⟩ := f_chk hF
    refine x_iald C sh_17 hi1 dX7_style_18 ?_
    refine x_goto (tgt := 25) C dX7_style_19 (by decide) ?_
    exact x_iret C dX7_style_25 (Option.some.inj hF) rfl
set_option maxHeartbeats 4000000 in
theorem c_X7_style {G : Gl} (l : Launch) (hA : Ap G) {r : Int32}  (x1 : Int32) (μ : Mu) (hF : f_X7_style x1 μ = some r) : Mth G l yX7_style cX7_style 2 (some .int) 1 22 [.ref (G.ad 0), .int x1] (some (.int r)) μ μ := Mth.of hA (by decide) rfl (Nat.le_of_ble_eq_true rfl) (fun p e s0 m args below meth c C => w_X7_style C x1 μ hF)
set_option maxHeartbeats 4000000 in
theorem w_X7_together_L37 {G : Gl} {p : Program} {l : Launch} {e : Env} {s0 : State} {m : MethodId} {args : Array Value} {below : List Frame} {meth : Method} {c : Code} (C : Cx G p s0 m args meth c cX7_together 6 RX7 (some .int)) {r : Int32} {μf : Mu}  : ∀ (n : Nat) (x1 : Int32) (x2 : Int32) (x4 : Int32) (x5 : Int32) (μ : Mu), f_X7_together_L37 n x1 x2 x4 x5 μ = some (r, μf) → X G p l e 6 151 s0 m args below meth c 6 (some (.int r)) μf μ 37 [(0, .ref (G.ad 0)), (1, .int x1), (2, .int x2), (3, .ref (G.ad 18)), (4, .int x4), (5, .int x5)] [] := by
  intro n
  induction n with
  | zero =>
    intro x1 x2 x4 x5 μ hF
    rw [f_X7_together_L37] at hF
    cases hF
  | succ n ih =>
    intro x1 x2 x4 x5 μ hF
    rw [f_X7_together_L37] at hF
    refine x_iload C 5 dX7_together_37 rfl ?_
    refine x_aload_n C 0 dX7_together_39 rfl rfl ?_
    refine x_getR C fc_X7 fl_X7_26 sh_0 (by decide) rfl dX7_together_40 ?_
    refine x_getI C fc_X1 fl_X7_164 sh_13 (by decide) rfl dX7_together_43 ?_
    refine x_icmp_ge (tgt := 88) C dX7_together_46 (by decide) (fun hc => ?_) (fun hc => ?_)
    · replace hF := f_t hc hF
      refine x_iload C 4 dX7_together_88 rfl ?_
      exact x_iret C dX7_together_90 (Prod.mk.inj (Option.some.inj hF)).1 (Prod.mk.inj (Option.some.inj hF)).2
    · replace hF := f_f hc hF
      refine x_aload_n C 3 dX7_together_49 rfl rfl ?_
      refine x_iload C 5 dX7_together_50 rfl ?_
      refine x_aload_n C 3 dX7_together_52 rfl rfl ?_
      refine x_getR C fc_X6 fl_X7_277 sh_18 (by decide) rfl dX7_together_53 ?_
      refine x_iload_n C 1 dX7_together_56 rfl rfl ?_
      obtain ⟨hi1, hF⟩ := f_chk hF
      refine x_iald C sh_19 hi1 dX7_together_57 ?_
      obtain ⟨q2, hq2, hF⟩ := f_bind hF
      refine x_cVi (rest := []) C (c_X6_noteMeans l C.2.2.2.2.2.2.2.2 isV_13 x5 (μ 19 (ix x1)) μ hq2) cw_X7_280 sh_18 rfl rfl ⟨by decide, by decide⟩ rfl rfl (Nat.le_of_ble_eq_true rfl) dX7_together_58 ?_
      refine x_if_eq (tgt := 82) C dX7_together_61 (by decide) (fun hc => ?_) (fun hc => ?_)
      · replace hF := f_t hc hF
        refine x_iinc C [(5, .int (x5 + 1)), (0, .ref (G.ad 0)), (1, .int x1), (2, .int x2), (3, .ref (G.ad 18)), (4, .int x4)] 5 dX7_together_82 rfl rfl (by decide) rfl ?_
        refine x_goto (tgt := 37) C dX7_together_85 (by decide) ?_
        exact x_pick [(0, .ref (G.ad 0)), (1, .int x1), (2, .int x2), (3, .ref (G.ad 18)), (4, .int x4), (5, .int (x5 + 1))] [1, 2, 3, 4, 5, 0] rfl (ih x1 x2 x4 (x5 + 1) μ hF)
      · replace hF := f_f hc hF
        refine x_aload_n C 3 dX7_together_64 rfl rfl ?_
        refine x_iload C 5 dX7_together_65 rfl ?_
        refine x_aload_n C 3 dX7_together_67 rfl rfl ?_
        refine x_getR C fc_X6 fl_X7_277 sh_18 (by decide) rfl dX7_together_68 ?_
        refine x_iload_n C 2 dX7_together_71 rfl rfl ?_
        obtain ⟨hi3, hF⟩ := f_chk hF
        refine x_iald C sh_19 hi3 dX7_together_72 ?_
        obtain ⟨q4, hq4, hF⟩ := f_bind hF
        refine x_cVi (rest := []) C (c_X6_noteMeans l C.2.2.2.2.2.2.2.2 isV_13 x5 (μ 19 (ix x2)) μ hq4) cw_X7_280 sh_18 rfl rfl ⟨by decide, by decide⟩ rfl rfl (Nat.le_of_ble_eq_true rfl) dX7_together_73 ?_
        refine x_if_eq (tgt := 82) C dX7_together_76 (by decide) (fun hc => ?_) (fun hc => ?_)
        · replace hF := f_t hc hF
          refine x_iinc C [(5, .int (x5 + 1)), (0, .ref (G.ad 0)), (1, .int x1), (2, .int x2), (3, .ref (G.ad 18)), (4, .int x4)] 5 dX7_together_82 rfl rfl (by decide) rfl ?_
          refine x_goto (tgt := 37) C dX7_together_85 (by decide) ?_
          exact x_pick [(0, .ref (G.ad 0)), (1, .int x1), (2, .int x2), (3, .ref (G.ad 18)), (4, .int x4), (5, .int (x5 + 1))] [1, 2, 3, 4, 5, 0] rfl (ih x1 x2 x4 (x5 + 1) μ hF)
        · replace hF := f_f hc hF
          refine x_iinc C [(4, .int (x4 + 1)), (0, .ref (G.ad 0)), (1, .int x1), (2, .int x2), (3, .ref (G.ad 18)), (5, .int x5)] 4 dX7_together_79 rfl rfl (by decide) rfl ?_
          refine x_iinc C [(5, .int (x5 + 1)), (4, .int (x4 + 1)), (0, .ref (G.ad 0)), (1, .int x1), (2, .int x2), (3, .ref (G.ad 18))] 5 dX7_together_82 rfl rfl (by decide) rfl ?_
          refine x_goto (tgt := 37) C dX7_together_85 (by decide) ?_
          exact x_pick [(0, .ref (G.ad 0)), (1, .int x1), (2, .int x2), (3, .ref (G.ad 18)), (4, .int (x4 + 1)), (5, .int (x5 + 1))] [2, 3, 4, 5, 1, 0] rfl (ih x1 x2 (x4 + 1) (x5 + 1) μ hF)
set_option maxHeartbeats 4000000 in
theorem w_X7_together {G : Gl} {p : Program} {l : Launch} {e : Env} {s0 : State} {m : MethodId} {args : Array Value} {below : List Frame} {meth : Method} {c : Code} (C : Cx G p s0 m args meth c cX7_together 6 RX7 (some .int)) {r : Int32} {μf : Mu}  (x1 : Int32) (x2 : Int32) (μ : Mu) (hF : f_X7_together x1 x2 μ = some (r, μf)) : X G p l e 6 151 s0 m args below meth c 6 (some (.int r)) μf μ 0 [(0, .ref (G.ad 0)), (1, .int x1), (2, .int x2)] [] := by
  unfold f_X7_together at hF
  refine x_aload_n C 0 dX7_together_0 rfl rfl ?_
  refine x_getR C fc_X7 fl_X7_10 sh_0 (by decide) rfl dX7_together_1 ?_
  refine x_iload_n C 1 dX7_together_4 rfl rfl ?_
  refine x_cVi (rest := []) C (c_X4_has l C.2.2.2.2.2.2.2.2 x1 μ) cw_X7_96 sh_1 rfl rfl ⟨by decide, by decide⟩ rfl rfl (Nat.le_of_ble_eq_true rfl) dX7_together_5 ?_
  refine x_if_eq (tgt := 22) C dX7_together_8 (by decide) (fun hc => ?_) (fun hc => ?_)
  · replace hF := f_t hc hF
    refine x_sipush (v := (-1001)) C dX7_together_22 (by decide) ?_
    exact x_iret C dX7_together_25 (Prod.mk.inj (Option.some.inj hF)).1 (Prod.mk.inj (Option.some.inj hF)).2
  · replace hF := f_f hc hF
    refine x_aload_n C 0 dX7_together_11 rfl rfl ?_
    refine x_getR C fc_X7 fl_X7_10 sh_0 (by decide) rfl dX7_together_12 ?_
    refine x_iload_n C 2 dX7_together_15 rfl rfl ?_
    refine x_cVi (rest := []) C (c_X4_has l C.2.2.2.2.2.2.2.2 x2 μ) cw_X7_96 sh_1 rfl rfl ⟨by decide, by decide⟩ rfl rfl (Nat.le_of_ble_eq_true rfl) dX7_together_16 ?_
    refine x_if_ne (tgt := 26) C dX7_together_19 (by decide) (fun hc => ?_) (fun hc => ?_)
    · replace hF := f_f hc hF
      refine x_aload_n C 0 dX7_together_26 rfl rfl ?_
      obtain ⟨q1, hq1, hF⟩ := f_bind hF
      refine x_cVr (rest := []) C (c_X7_settledView l C.2.2.2.2.2.2.2.2 μ hq1) cw_X7_123 sh_0 rfl rfl ⟨by decide, by decide⟩ rfl rfl (Nat.le_of_ble_eq_true rfl) dX7_together_27 ?_
      refine x_astore_n C [(3, .ref (G.ad 18)), (0, .ref (G.ad 0)), (1, .int x1), (2, .int x2)] dX7_together_30 rfl (by decide) rfl ?_
      refine x_iconst (v := 0) C dX7_together_31 (by decide) ?_
      refine x_istore C [(4, .int 0), (3, .ref (G.ad 18)), (0, .ref (G.ad 0)), (1, .int x1), (2, .int x2)] dX7_together_32 (by decide) rfl ?_
      refine x_iconst (v := 0) C dX7_together_34 (by decide) ?_
      refine x_istore C [(5, .int 0), (4, .int 0), (3, .ref (G.ad 18)), (0, .ref (G.ad 0)), (1, .int x1), (2, .int x2)] dX7_together_35 (by decide) rfl ?_
      exact x_pick [(0, .ref (G.ad 0)), (1, .int x1), (2, .int x2), (3, .ref (G.ad 18)), (4, .int 0), (5, .int 0)] [3, 4, 5, 2, 1, 0] rfl (w_X7_together_L37 C fu x1 x2 0 0 q1 hF)
    · replace hF := f_t hc hF
      refine x_sipush (v := (-1001)) C dX7_together_22 (by decide) ?_
      exact x_iret C dX7_together_25 (Prod.mk.inj (Option.some.inj hF)).1 (Prod.mk.inj (Option.some.inj hF)).2
set_option maxHeartbeats 4000000 in
theorem c_X7_together {G : Gl} (l : Launch) (hA : Ap G) {r : Int32} {μf : Mu}  (x1 : Int32) (x2 : Int32) (μ : Mu) (hF : f_X7_together x1 x2 μ = some (r, μf)) : Mth G l yX7_together cX7_together 6 (some .int) 6 151 [.ref (G.ad 0), .int x1, .int x2] (some (.int r)) μf μ := Mth.of hA (by decide) rfl (Nat.le_of_ble_eq_true rfl) (fun p e s0 m args below meth c C => w_X7_together C x1 x2 μ hF)
set_option maxHeartbeats 4000000 in
theorem w_X7_told {G : Gl} {p : Program} {l : Launch} {e : Env} {s0 : State} {m : MethodId} {args : Array Value} {below : List Frame} {meth : Method} {c : Code} (C : Cx G p s0 m args meth c cX7_told 5 RX7 (some .int)) {r : Int32} {μf : Mu}  (x1 : Int32) (x2 : Int32) (μ : Mu) (hF : f_X7_told x1 x2 μ = some (r, μf)) : X G p l e 6 151 s0 m args below meth c 5 (some (.int r)) μf μ 0 [(0, .ref (G.ad 0)), (1, .int x1), (2, .int x2)] [] := by
  unfold f_X7_told at hF
  refine x_aload_n C 0 dX7_told_0 rfl rfl ?_
  obtain ⟨q1, hq1, hF⟩ := f_bind hF
  refine x_cVr (rest := []) C (c_X7_settledView l C.2.2.2.2.2.2.2.2 μ hq1) cw_X7_123 sh_0 rfl rfl ⟨by decide, by decide⟩ rfl rfl (Nat.le_of_ble_eq_true rfl) dX7_told_1 ?_
  refine x_astore_n C [(3, .ref (G.ad 18)), (0, .ref (G.ad 0)), (1, .int x1), (2, .int x2)] dX7_told_4 rfl (by decide) rfl ?_
  refine x_aload_n C 0 dX7_told_5 rfl rfl ?_
  refine x_iload_n C 2 dX7_told_6 rfl rfl ?_
  obtain ⟨q2, hq2, hF⟩ := f_bind hF
  refine x_cVi (rest := []) C (c_X6_stands l C.2.2.2.2.2.2.2.2 isV_13 x1 q1 hq2) cw_X7_188 sh_18 rfl rfl ⟨by decide, by decide⟩ rfl rfl (Nat.le_of_ble_eq_true rfl) dX7_told_7 ?_
  refine x_if_ne (tgt := 17) C dX7_told_10 (by decide) (fun hc => ?_) (fun hc => ?_)
  · replace hF := f_f hc hF
    refine x_aload_n C 0 dX7_told_17 rfl rfl ?_
    refine x_getR C fc_X6 fl_X7_191 sh_18 (by decide) rfl dX7_told_18 ?_
    refine x_iload_n C 2 dX7_told_21 rfl rfl ?_
    obtain ⟨hi3, hF⟩ := f_chk hF
    refine x_iald C sh_24 hi3 dX7_told_22 ?_
    refine x_letI hF (fun y4 hF => ?_)
    refine x_istore C [(4, .int y4), (3, .ref (G.ad 18)), (0, .ref (G.ad 0)), (1, .int x1), (2, .int x2)] dX7_told_23 (by decide) rfl ?_
    refine x_iload_n C 4 dX7_told_25 rfl rfl ?_
    by_cases hs0 : x2 = 0
    · replace hF := f_t hs0 hF
      refine x_tableIn (tgt := 68) (off := 42) C dX7_told_26 (by rw [hs0]; decide) (by rw [hs0]; decide) (by rw [hs0]; decide +kernel) (by decide) ?_
      refine x_aload_n C 1 dX7_told_68 rfl rfl ?_
      refine x_getR C fc_X6 fl_X7_194 sh_18 (by decide) rfl dX7_told_69 ?_
      refine x_iload C 0 dX7_told_72 rfl ?_
      obtain ⟨hi5, hF⟩ := f_chk hF
      refine x_iald C sh_22 hi5 dX7_told_74 ?_
      exact x_iret C dX7_told_75 (Prod.mk.inj (Option.some.inj hF)).1 (Prod.mk.inj (Option.some.inj hF)).2
    · replace hF := f_f hs0 hF
      by_cases hs1 : x2 = 1
      · replace hF := f_t hs1 hF
        refine x_tableIn (tgt := 76) (off := 50) C dX7_told_26 (by rw [hs1]; decide) (by rw [hs1]; decide) (by rw [hs1]; decide +kernel) (by decide) ?_
        refine x_aload_n C 1 dX7_told_76 rfl rfl ?_
        refine x_getR C fc_X6 fl_X7_197 sh_18 (by decide) rfl dX7_told_77 ?_
        refine x_iload C 0 dX7_told_80 rfl ?_
        obtain ⟨hi6, hF⟩ := f_chk hF
        refine x_iald C sh_23 hi6 dX7_told_82 ?_
        exact x_iret C dX7_told_83 (Prod.mk.inj (Option.some.inj hF)).1 (Prod.mk.inj (Option.some.inj hF)).2
      · replace hF := f_f hs1 hF
        by_cases hs2 : x2 = 2
        · replace hF := f_t hs2 hF
          refine x_tableIn (tgt := 84) (off := 58) C dX7_told_26 (by rw [hs2]; decide) (by rw [hs2]; decide) (by rw [hs2]; decide +kernel) (by decide) ?_
          refine x_aload_n C 2 dX7_told_84 rfl rfl ?_
          refine x_getR C fc_X7 fl_X7_19 sh_0 (by decide) rfl dX7_told_85 ?_
          refine x_getR C fc_X0 fl_X7_203 sh_10 (by decide) rfl dX7_told_88 ?_
          refine x_iload_n C 3 dX7_told_91 rfl rfl ?_
          refine x_iald C sh_11 hi3 dX7_told_92 ?_
          exact x_iret C dX7_told_93 (Prod.mk.inj (Option.some.inj hF)).1 (Prod.mk.inj (Option.some.inj hF)).2
        · replace hF := f_f hs2 hF
          by_cases hs3 : x2 = 3
          · replace hF := f_t hs3 hF
            refine x_tableIn (tgt := 94) (off := 68) C dX7_told_26 (by rw [hs3]; decide) (by rw [hs3]; decide) (by rw [hs3]; decide +kernel) (by decide) ?_
            refine x_aload_n C 1 dX7_told_94 rfl rfl ?_
            refine x_iload C 0 dX7_told_95 rfl ?_
            obtain ⟨q7, hq7, hF⟩ := f_bind hF
            refine x_cVi (rest := []) C (c_X6_meantAt l C.2.2.2.2.2.2.2.2 isV_13 y4 q1 hq7) cw_X7_206 sh_18 rfl rfl ⟨by decide, by decide⟩ rfl rfl (Nat.le_of_ble_eq_true rfl) dX7_told_97 ?_
            exact x_iret C dX7_told_100 (Prod.mk.inj (Option.some.inj hF)).1 (Prod.mk.inj (Option.some.inj hF)).2
          · replace hF := f_f hs3 hF
            by_cases hs4 : x2 = 4
            · replace hF := f_t hs4 hF
              refine x_tableIn (tgt := 101) (off := 75) C dX7_told_26 (by rw [hs4]; decide) (by rw [hs4]; decide) (by rw [hs4]; decide +kernel) (by decide) ?_
              refine x_aload_n C 2 dX7_told_101 rfl rfl ?_
              refine x_getR C fc_X7 fl_X7_19 sh_0 (by decide) rfl dX7_told_102 ?_
              refine x_getR C fc_X0 fl_X7_209 sh_10 (by decide) rfl dX7_told_105 ?_
              refine x_iload_n C 3 dX7_told_108 rfl rfl ?_
              refine x_iald C sh_12 hi3 dX7_told_109 ?_
              exact x_iret C dX7_told_110 (Prod.mk.inj (Option.some.inj hF)).1 (Prod.mk.inj (Option.some.inj hF)).2
            · replace hF := f_f hs4 hF
              by_cases hs5 : x2 = 5
              · replace hF := f_t hs5 hF
                refine x_tableIn (tgt := 111) (off := 85) C dX7_told_26 (by rw [hs5]; decide) (by rw [hs5]; decide) (by rw [hs5]; decide +kernel) (by decide) ?_
                refine x_iload C 0 dX7_told_111 rfl ?_
                exact x_iret C dX7_told_113 (Prod.mk.inj (Option.some.inj hF)).1 (Prod.mk.inj (Option.some.inj hF)).2
              · replace hF := f_f hs5 hF
                by_cases hs6 : x2 = 6
                · replace hF := f_t hs6 hF
                  refine x_tableIn (tgt := 114) (off := 88) C dX7_told_26 (by rw [hs6]; decide) (by rw [hs6]; decide) (by rw [hs6]; decide +kernel) (by decide) ?_
                  refine x_aload_n C 1 dX7_told_114 rfl rfl ?_
                  refine x_iload C 0 dX7_told_115 rfl ?_
                  obtain ⟨q8, hq8, hF⟩ := f_bind hF
                  refine x_cVi (rest := []) C (c_X6_formAt l C.2.2.2.2.2.2.2.2 isV_13 y4 q1 hq8) cw_X7_212 sh_18 rfl rfl ⟨by decide, by decide⟩ rfl rfl (Nat.le_of_ble_eq_true rfl) dX7_told_117 ?_
                  exact x_iret C dX7_told_120 (Prod.mk.inj (Option.some.inj hF)).1 (Prod.mk.inj (Option.some.inj hF)).2
                · replace hF := f_f hs6 hF
                  refine x_tableOut (tgt := 121) C dX7_told_26 (sw_out_0_6 hs0 hs1 hs2 hs3 hs4 hs5 hs6) (by decide) ?_
                  refine x_sipush (v := (-1002)) C dX7_told_121 (by decide) ?_
                  exact x_iret C dX7_told_124 (Prod.mk.inj (Option.some.inj hF)).1 (Prod.mk.inj (Option.some.inj hF)).2
  · replace hF := f_t hc hF
    refine x_sipush (v := (-1001)) C dX7_told_13 (by decide) ?_
    exact x_iret C dX7_told_16 (Prod.mk.inj (Option.some.inj hF)).1 (Prod.mk.inj (Option.some.inj hF)).2
set_option maxHeartbeats 4000000 in
theorem c_X7_told {G : Gl} (l : Launch) (hA : Ap G) {r : Int32} {μf : Mu}  (x1 : Int32) (x2 : Int32) (μ : Mu) (hF : f_X7_told x1 x2 μ = some (r, μf)) : Mth G l yX7_told cX7_told 5 (some .int) 6 151 [.ref (G.ad 0), .int x1, .int x2] (some (.int r)) μf μ := Mth.of hA (by decide) rfl (Nat.le_of_ble_eq_true rfl) (fun p e s0 m args below meth c C => w_X7_told C x1 x2 μ hF)
set_option maxHeartbeats 4000000 in
theorem w_X7_work {G : Gl} {p : Program} {l : Launch} {e : Env} {s0 : State} {m : MethodId} {args : Array Value} {below : List Frame} {meth : Method} {c : Code} (C : Cx G p s0 m args meth c cX7_work 7 RX7 (some .int)) {r : Int32} {μf : Mu}  (x1 : Int32) (x2 : Int32) (x3 : Int32) (x4 : Int32) (x5 : Int32) (μ : Mu) (hF : f_X7_work x1 x2 x3 x4 x5 μ = some (r, μf)) : X G p l e 2 44 s0 m args below meth c 7 (some (.int r)) μf μ 0 [(0, .ref (G.ad 0)), (1, .int x1), (2, .int x2), (3, .int x3), (4, .int x4), (5, .int x5)] [] := by
  unfold f_X7_work at hF
  refine x_iload_n C 1 dX7_work_0 rfl rfl ?_
  refine x_iload_n C 2 dX7_work_1 rfl rfl ?_
  refine x_iload_n C 3 dX7_work_2 rfl rfl ?_
  refine x_cSi (rest := []) C (c_X7_isAuthor l C.2.2.2.2.2.2.2.2 x1 x2 x3 μ) cw_X7_74 ⟨by decide, by decide⟩ rfl rfl (Nat.le_of_ble_eq_true rfl) dX7_work_3 ?_
  refine x_if_eq (tgt := 33) C dX7_work_6 (by decide) (fun hc => ?_) (fun hc => ?_)
  · replace hF := f_t hc hF
    refine x_sipush (v := (-1002)) C dX7_work_33 (by decide) ?_
    exact x_iret C dX7_work_36 (Prod.mk.inj (Option.some.inj hF)).1 (Prod.mk.inj (Option.some.inj hF)).2
  · replace hF := f_f hc hF
    refine x_iload C 4 dX7_work_9 rfl ?_
    refine x_iconst (v := 0) C dX7_work_11 (by decide) ?_
    refine x_sipush (v := 2100) C dX7_work_12 (by decide) ?_
    refine x_cSi (rest := []) C (c_X7_within l C.2.2.2.2.2.2.2.2 x4 0 2100 μ) cw_X7_78 ⟨by decide, by decide⟩ rfl rfl (Nat.le_of_ble_eq_true rfl) dX7_work_15 ?_
    refine x_if_eq (tgt := 33) C dX7_work_18 (by decide) (fun hc => ?_) (fun hc => ?_)
    · replace hF := f_t hc hF
      refine x_sipush (v := (-1002)) C dX7_work_33 (by decide) ?_
      exact x_iret C dX7_work_36 (Prod.mk.inj (Option.some.inj hF)).1 (Prod.mk.inj (Option.some.inj hF)).2
    · replace hF := f_f hc hF
      refine x_iload C 5 dX7_work_21 rfl ?_
      refine x_iconst (v := 0) C dX7_work_23 (by decide) ?_
      refine x_sipush (v := 999) C dX7_work_24 (by decide) ?_
      refine x_cSi (rest := []) C (c_X7_within l C.2.2.2.2.2.2.2.2 x5 0 999 μ) cw_X7_78 ⟨by decide, by decide⟩ rfl rfl (Nat.le_of_ble_eq_true rfl) dX7_work_27 ?_
      refine x_if_ne (tgt := 37) C dX7_work_30 (by decide) (fun hc => ?_) (fun hc => ?_)
      · replace hF := f_f hc hF
        refine x_aload_n C 0 dX7_work_37 rfl rfl ?_
        refine x_getR C fc_X7 fl_X7_10 sh_0 (by decide) rfl dX7_work_38 ?_
        refine x_getI C fc_X4 fl_X7_81 sh_1 (by decide) rfl dX7_work_41 ?_
        refine x_bipush (v := 24) C dX7_work_44 (by decide) ?_
        refine x_icmp_lt (tgt := 53) C dX7_work_46 (by decide) (fun hc => ?_) (fun hc => ?_)
        · replace hF := f_t hc hF
          refine x_aload_n C 0 dX7_work_53 rfl rfl ?_
          refine x_getR C fc_X7 fl_X7_10 sh_0 (by decide) rfl dX7_work_54 ?_
          refine x_iload C 4 dX7_work_57 rfl ?_
          refine x_iload C 5 dX7_work_59 rfl ?_
          obtain ⟨q1, hq1, hF⟩ := f_bind hF
          refine x_cVi (rest := []) C (c_X4_addWork l C.2.2.2.2.2.2.2.2 x4 x5 μ hq1) cw_X7_85 sh_1 rfl rfl ⟨by decide, by decide⟩ rfl rfl (Nat.le_of_ble_eq_true rfl) dX7_work_61 ?_
          refine x_istore C [(6, .int q1.1), (0, .ref (G.ad 0)), (1, .int x1), (2, .int x2), (3, .int x3), (4, .int x4), (5, .int x5)] dX7_work_64 (by decide) rfl ?_
          refine x_aload_n C 1 dX7_work_66 rfl rfl ?_
          refine x_getR C fc_X7 fl_X7_10 sh_0 (by decide) rfl dX7_work_67 ?_
          refine x_iload C 0 dX7_work_70 rfl ?_
          refine x_iload_n C 2 dX7_work_72 rfl rfl ?_
          refine x_iload_n C 3 dX7_work_73 rfl rfl ?_
          refine x_iload_n C 4 dX7_work_74 rfl rfl ?_
          obtain ⟨q2, hq2, hF⟩ := f_bind hF
          refine x_cVv (rest := []) C (c_X4_addAuthor l C.2.2.2.2.2.2.2.2 q1.1 x1 x2 x3 q1.2 hq2) cw_X7_89 sh_1 rfl rfl ⟨by decide, by decide⟩ rfl rfl (Nat.le_of_ble_eq_true rfl) dX7_work_75 ?_
          refine x_aload_n C 1 dX7_work_78 rfl rfl ?_
          obtain ⟨q3, hq3, hF⟩ := f_bind hF
          refine x_cVv (rest := []) C (c_X7_unsettle l C.2.2.2.2.2.2.2.2 q2 hq3) cw_X7_93 sh_0 rfl rfl ⟨by decide, by decide⟩ rfl rfl (Nat.le_of_ble_eq_true rfl) dX7_work_79 ?_
          refine x_iload C 0 dX7_work_82 rfl ?_
          exact x_iret C dX7_work_84 (Prod.mk.inj (Option.some.inj hF)).1 (Prod.mk.inj (Option.some.inj hF)).2
        · replace hF := f_f hc hF
          refine x_sipush (v := (-1004)) C dX7_work_49 (by decide) ?_
          exact x_iret C dX7_work_52 (Prod.mk.inj (Option.some.inj hF)).1 (Prod.mk.inj (Option.some.inj hF)).2
      · replace hF := f_t hc hF
        refine x_sipush (v := (-1002)) C dX7_work_33 (by decide) ?_
        exact x_iret C dX7_work_36 (Prod.mk.inj (Option.some.inj hF)).1 (Prod.mk.inj (Option.some.inj hF)).2
set_option maxHeartbeats 4000000 in
theorem c_X7_work {G : Gl} (l : Launch) (hA : Ap G) {r : Int32} {μf : Mu}  (x1 : Int32) (x2 : Int32) (x3 : Int32) (x4 : Int32) (x5 : Int32) (μ : Mu) (hF : f_X7_work x1 x2 x3 x4 x5 μ = some (r, μf)) : Mth G l yX7_work cX7_work 7 (some .int) 2 44 [.ref (G.ad 0), .int x1, .int x2, .int x3, .int x4, .int x5] (some (.int r)) μf μ := Mth.of hA (by decide) rfl (Nat.le_of_ble_eq_true rfl) (fun p e s0 m args below meth c C => w_X7_work C x1 x2 x3 x4 x5 μ hF)
