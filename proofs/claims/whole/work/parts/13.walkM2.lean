set_option maxHeartbeats 4000000 in
theorem w_X8_back {G : Gl} {p : Program} {l : Launch} {e : Env} {s0 : State} {m : MethodId} {args : Array Value} {below : List Frame} {meth : Method} {c : Code} (C : Cx G p s0 m args meth c cX8_back 2 RX8 (some .int)) {r : Int32} {μf : Mu}  (x1 : Int32) (μ : Mu) (hF : f_X8_back x1 μ = some (r, μf)) : X G p l e 2 46 s0 m args below meth c 2 (some (.int r)) μf μ 0 [(0, .ref (G.ad 82)), (1, .int x1)] [] := by
  unfold f_X8_back at hF
  refine x_aload_n C 0 dX8_back_0 rfl rfl ?_
  refine x_iload_n C 1 dX8_back_1 rfl rfl ?_
  obtain ⟨q1, hq1, hF⟩ := f_bind hF
  refine x_cVi (rest := []) C (c_X8_noVersion l C.2.2.2.2.2.2.2.2 x1 μ hq1) cw_X8_324 sh_82 rfl rfl ⟨by decide, by decide⟩ rfl rfl (Nat.le_of_ble_eq_true rfl) dX8_back_2 ?_
  refine x_if_eq (tgt := 12) C dX8_back_5 (by decide) (fun hc => ?_) (fun hc => ?_)
  · replace hF := f_t hc hF
    refine x_aload_n C 0 dX8_back_12 rfl rfl ?_
    refine x_iload_n C 1 dX8_back_13 rfl rfl ?_
    refine x_iconst (v := 4) C dX8_back_14 (by decide) ?_
    obtain ⟨q2, hq2, hF⟩ := f_bind hF
    refine x_cVv (rest := []) C (c_X8_copySlot l C.2.2.2.2.2.2.2.2 x1 4 μ hq2) cw_X8_321 sh_82 rfl rfl ⟨by decide, by decide⟩ rfl rfl (Nat.le_of_ble_eq_true rfl) dX8_back_15 ?_
    refine x_aload_n C 0 dX8_back_18 rfl rfl ?_
    refine x_getR C fc_X8 fl_X8_37 sh_82 (by decide) rfl dX8_back_19 ?_
    refine x_iconst (v := 4) C dX8_back_22 (by decide) ?_
    refine x_iald C sh_92 (by decide) dX8_back_23 ?_
    exact x_iret C dX8_back_24 (Prod.mk.inj (Option.some.inj hF)).1 (Prod.mk.inj (Option.some.inj hF)).2
  · replace hF := f_f hc hF
    refine x_sipush (v := (-1001)) C dX8_back_8 (by decide) ?_
    exact x_iret C dX8_back_11 (Prod.mk.inj (Option.some.inj hF)).1 (Prod.mk.inj (Option.some.inj hF)).2
set_option maxHeartbeats 4000000 in
theorem c_X8_back {G : Gl} (l : Launch) (hA : Ap G) {r : Int32} {μf : Mu}  (x1 : Int32) (μ : Mu) (hF : f_X8_back x1 μ = some (r, μf)) : Mth G l yX8_back cX8_back 2 (some .int) 2 46 [.ref (G.ad 82), .int x1] (some (.int r)) μf μ := Mth.of hA (by decide) rfl (Nat.le_of_ble_eq_true rfl) (fun p e s0 m args below meth c C => w_X8_back C x1 μ hF)
set_option maxHeartbeats 4000000 in
theorem w_X8_formOf_b138 {G : Gl} {p : Program} {l : Launch} {e : Env} {s0 : State} {m : MethodId} {args : Array Value} {below : List Frame} {meth : Method} {c : Code} (C : Cx G p s0 m args meth c cX8_formOf 6 RX8 (some .int)) {r : Int32}  (μ : Mu) (x1 : Int32) (x2 : Int32) (t0 : Int32) (hF : f_X8_formOf_b138 μ x1 x2 t0 = some r) : X G p l e 1 22 s0 m args below meth c 6 (some (.int r)) μ μ 138 [(0, .ref (G.ad 82)), (1, .int x1), (2, .int x2)] [.int t0] := by
  unfold f_X8_formOf_b138 at hF
  refine x_istore C [(5, .int t0), (0, .ref (G.ad 82)), (1, .int x1), (2, .int x2)] dX8_formOf_138 (by decide) rfl ?_
  refine x_aload_n C 1 dX8_formOf_140 rfl rfl ?_
  refine x_aload_n C 1 dX8_formOf_141 rfl rfl ?_
  refine x_getR C fc_X8 fl_X8_57 sh_82 (by decide) rfl dX8_formOf_142 ?_
  refine x_aload_n C 1 dX8_formOf_145 rfl rfl ?_
  refine x_getR C fc_X8 fl_X8_63 sh_82 (by decide) rfl dX8_formOf_146 ?_
  refine x_iload_n C 2 dX8_formOf_149 rfl rfl ?_
  refine x_iconst (v := 1) C dX8_formOf_150 (by decide) ?_
  refine x_isub C dX8_formOf_151 ?_
  obtain ⟨hi1, hF⟩ := f_chk hF
  refine x_iald C sh_99 hi1 dX8_formOf_152 ?_
  obtain ⟨hi2, hF⟩ := f_chk hF
  refine x_iald C sh_97 hi2 dX8_formOf_153 ?_
  obtain ⟨q3, hq3, hF⟩ := f_bind hF
  refine x_cVi (rest := []) C (c_X8_meant l C.2.2.2.2.2.2.2.2 (μ 97 (ix (μ 99 (ix (x1 - 1))))) μ hq3) cw_X8_153 sh_82 rfl rfl ⟨by decide, by decide⟩ rfl rfl (Nat.le_of_ble_eq_true rfl) dX8_formOf_154 ?_
  refine x_iload_n C 3 dX8_formOf_157 rfl rfl ?_
  refine x_icmp_ne (tgt := 166) C dX8_formOf_158 (by decide) (fun hc => ?_) (fun hc => ?_)
  · replace hF := f_f hc hF
    refine x_iconst (v := 1) C dX8_formOf_166 (by decide) ?_
    exact x_iret C dX8_formOf_167 (Option.some.inj hF) rfl
  · replace hF := f_t hc hF
    refine x_iload C 0 dX8_formOf_161 rfl ?_
    refine x_if_ne (tgt := 168) C dX8_formOf_163 (by decide) (fun hc => ?_) (fun hc => ?_)
    · replace hF := f_f hc hF
      refine x_aload_n C 1 dX8_formOf_168 rfl rfl ?_
      refine x_getR C fc_X8 fl_X8_60 sh_82 (by decide) rfl dX8_formOf_169 ?_
      refine x_aload_n C 1 dX8_formOf_172 rfl rfl ?_
      refine x_getR C fc_X8 fl_X8_63 sh_82 (by decide) rfl dX8_formOf_173 ?_
      refine x_iload_n C 2 dX8_formOf_176 rfl rfl ?_
      obtain ⟨hi4, hF⟩ := f_chk hF
      refine x_iald C sh_99 hi4 dX8_formOf_177 ?_
      obtain ⟨hi5, hF⟩ := f_chk hF
      refine x_iald C sh_98 hi5 dX8_formOf_178 ?_
      refine x_aload_n C 1 dX8_formOf_179 rfl rfl ?_
      refine x_getR C fc_X8 fl_X8_60 sh_82 (by decide) rfl dX8_formOf_180 ?_
      refine x_aload_n C 1 dX8_formOf_183 rfl rfl ?_
      refine x_getR C fc_X8 fl_X8_63 sh_82 (by decide) rfl dX8_formOf_184 ?_
      refine x_iload_n C 2 dX8_formOf_187 rfl rfl ?_
      refine x_iconst (v := 1) C dX8_formOf_188 (by decide) ?_
      refine x_isub C dX8_formOf_189 ?_
      refine x_iald C sh_99 hi1 dX8_formOf_190 ?_
      refine x_iald C sh_98 hi2 dX8_formOf_191 ?_
      refine x_icmp_ne (tgt := 199) C dX8_formOf_192 (by decide) (fun hc => ?_) (fun hc => ?_)
      · replace hF := f_f hc hF
        refine x_iconst (v := 3) C dX8_formOf_199 (by decide) ?_
        exact x_iret C dX8_formOf_200 (Option.some.inj hF) rfl
      · replace hF := f_t hc hF
        refine x_iconst (v := 2) C dX8_formOf_195 (by decide) ?_
        refine x_goto (tgt := 200) C dX8_formOf_196 (by decide) ?_
        exact x_iret C dX8_formOf_200 (Option.some.inj hF) rfl
    · replace hF := f_t hc hF
      refine x_iconst (v := 1) C dX8_formOf_166 (by decide) ?_
      exact x_iret C dX8_formOf_167 (Option.some.inj hF) rfl
set_option maxHeartbeats 4000000 in
theorem w_X8_formOf_L37 {G : Gl} {p : Program} {l : Launch} {e : Env} {s0 : State} {m : MethodId} {args : Array Value} {below : List Frame} {meth : Method} {c : Code} (C : Cx G p s0 m args meth c cX8_formOf 6 RX8 (some .int)) {r : Int32}  (μ : Mu) : ∀ (n : Nat) (x1 : Int32) (x2 : Int32) (x3 : Int32) (x4 : Int32), f_X8_formOf_L37 μ n x1 x2 x3 x4 = some r → X G p l e 1 22 s0 m args below meth c 6 (some (.int r)) μ μ 37 [(0, .ref (G.ad 82)), (1, .int x1), (2, .int x2), (3, .int x3), (4, .int x4)] [] := by
  intro n
  induction n with
  | zero =>
    intro x1 x2 x3 x4 hF
    rw [f_X8_formOf_L37] at hF
    cases hF
  | succ n ih =>
    intro x1 x2 x3 x4 hF
    rw [f_X8_formOf_L37] at hF
    refine x_iload C 4 dX8_formOf_37 rfl ?_
    refine x_iload_n C 1 dX8_formOf_39 rfl rfl ?_
    refine x_icmp_ge (tgt := 79) C dX8_formOf_40 (by decide) (fun hc => ?_) (fun hc => ?_)
    · replace hF := f_t hc hF
      refine x_iload_n C 3 dX8_formOf_79 rfl rfl ?_
      refine x_if_ne (tgt := 85) C dX8_formOf_80 (by decide) (fun hc => ?_) (fun hc => ?_)
      · replace hF := f_f hc hF
        refine x_aload_n C 0 dX8_formOf_85 rfl rfl ?_
        refine x_getR C fc_X8 fl_X8_66 sh_82 (by decide) rfl dX8_formOf_86 ?_
        refine x_iload_n C 1 dX8_formOf_89 rfl rfl ?_
        obtain ⟨hi1, hF⟩ := f_chk hF
        refine x_iald C sh_100 hi1 dX8_formOf_90 ?_
        refine x_aload_n C 0 dX8_formOf_91 rfl rfl ?_
        refine x_getR C fc_X8 fl_X8_66 sh_82 (by decide) rfl dX8_formOf_92 ?_
        refine x_iload_n C 1 dX8_formOf_95 rfl rfl ?_
        refine x_iconst (v := 1) C dX8_formOf_96 (by decide) ?_
        refine x_isub C dX8_formOf_97 ?_
        obtain ⟨hi2, hF⟩ := f_chk hF
        refine x_iald C sh_100 hi2 dX8_formOf_98 ?_
        refine x_isub C dX8_formOf_99 ?_
        refine x_letI hF (fun y3 hF => ?_)
        refine x_istore C [(4, .int y3), (0, .ref (G.ad 82)), (1, .int x1), (2, .int x2), (3, .int x3)] dX8_formOf_100 (by decide) rfl ?_
        refine x_iload C 0 dX8_formOf_102 rfl ?_
        refine x_if_eq (tgt := 133) C dX8_formOf_104 (by decide) (fun hc => ?_) (fun hc => ?_)
        · replace hF := f_t hc hF
          refine x_iconst (v := 1) C dX8_formOf_133 (by decide) ?_
          refine x_goto (tgt := 138) C dX8_formOf_134 (by decide) ?_
          exact x_pick [(0, .ref (G.ad 82)), (1, .int x1), (2, .int x2)] [1, 2, 3] rfl (w_X8_formOf_b138 C μ x1 x2 1 hF)
        · replace hF := f_f hc hF
          refine x_iload C 0 dX8_formOf_107 rfl ?_
          refine x_aload_n C 1 dX8_formOf_109 rfl rfl ?_
          refine x_iconst (v := 4) C dX8_formOf_110 (by decide) ?_
          obtain ⟨q4, hq4, hF⟩ := f_bind hF
          refine x_cVi (rest := [.int y3]) C (c_X8_styleOf l C.2.2.2.2.2.2.2.2 4 μ hq4) cw_X8_171 sh_82 rfl rfl ⟨by decide, by decide⟩ rfl rfl (Nat.le_of_ble_eq_true rfl) dX8_formOf_111 ?_
          refine x_icmp_gt (tgt := 137) C dX8_formOf_114 (by decide) (fun hc => ?_) (fun hc => ?_)
          · replace hF := f_t hc hF
            refine x_iconst (v := 0) C dX8_formOf_137 (by decide) ?_
            exact x_pick [(0, .ref (G.ad 82)), (1, .int x1), (2, .int x2)] [1, 2, 3] rfl (w_X8_formOf_b138 C μ x1 x2 0 hF)
          · replace hF := f_f hc hF
            refine x_aload_n C 1 dX8_formOf_117 rfl rfl ?_
            refine x_aload_n C 1 dX8_formOf_118 rfl rfl ?_
            refine x_getR C fc_X8 fl_X8_66 sh_82 (by decide) rfl dX8_formOf_119 ?_
            refine x_iload_n C 2 dX8_formOf_122 rfl rfl ?_
            refine x_iconst (v := 1) C dX8_formOf_123 (by decide) ?_
            refine x_isub C dX8_formOf_124 ?_
            refine x_iald C sh_100 hi2 dX8_formOf_125 ?_
            obtain ⟨q5, hq5, hF⟩ := f_bind hF
            refine x_cVi (rest := []) C (c_X8_sizeOf l C.2.2.2.2.2.2.2.2 (μ 100 (ix (x1 - 1))) μ hq5) cw_X8_164 sh_82 rfl rfl ⟨by decide, by decide⟩ rfl rfl (Nat.le_of_ble_eq_true rfl) dX8_formOf_126 ?_
            refine x_iconst (v := 1) C dX8_formOf_129 (by decide) ?_
            refine x_icmp_ne (tgt := 137) C dX8_formOf_130 (by decide) (fun hc => ?_) (fun hc => ?_)
            · replace hF := f_f hc hF
              refine x_iconst (v := 0) C dX8_formOf_137 (by decide) ?_
              exact x_pick [(0, .ref (G.ad 82)), (1, .int x1), (2, .int x2)] [1, 2, 3] rfl (w_X8_formOf_b138 C μ x1 x2 0 hF)
            · replace hF := f_t hc hF
              refine x_iconst (v := 1) C dX8_formOf_133 (by decide) ?_
              refine x_goto (tgt := 138) C dX8_formOf_134 (by decide) ?_
              exact x_pick [(0, .ref (G.ad 82)), (1, .int x1), (2, .int x2)] [1, 2, 3] rfl (w_X8_formOf_b138 C μ x1 x2 1 hF)
      · replace hF := f_t hc hF
        refine x_iconst (v := 0) C dX8_formOf_83 (by decide) ?_
        exact x_iret C dX8_formOf_84 (Option.some.inj hF) rfl
    · replace hF := f_f hc hF
      refine x_iload_n C 3 dX8_formOf_43 rfl rfl ?_
      refine x_if_ne (tgt := 67) C dX8_formOf_44 (by decide) (fun hc => ?_) (fun hc => ?_)
      · replace hF := f_f hc hF
        refine x_iconst (v := 1) C dX8_formOf_67 (by decide) ?_
        refine x_goto (tgt := 72) C dX8_formOf_68 (by decide) ?_
        refine x_istore_n C [(3, .int 1), (0, .ref (G.ad 82)), (1, .int x1), (2, .int x2), (4, .int x4)] dX8_formOf_72 rfl (by decide) rfl ?_
        refine x_iinc C [(4, .int (x4 + 1)), (3, .int 1), (0, .ref (G.ad 82)), (1, .int x1), (2, .int x2)] 4 dX8_formOf_73 rfl rfl (by decide) rfl ?_
        refine x_goto (tgt := 37) C dX8_formOf_76 (by decide) ?_
        exact x_pick [(0, .ref (G.ad 82)), (1, .int x1), (2, .int x2), (3, .int 1), (4, .int (x4 + 1))] [2, 3, 4, 1, 0] rfl (ih x1 x2 1 (x4 + 1) hF)
      · replace hF := f_t hc hF
        refine x_aload_n C 0 dX8_formOf_47 rfl rfl ?_
        refine x_aload_n C 0 dX8_formOf_48 rfl rfl ?_
        refine x_getR C fc_X8 fl_X8_57 sh_82 (by decide) rfl dX8_formOf_49 ?_
        refine x_aload_n C 0 dX8_formOf_52 rfl rfl ?_
        refine x_getR C fc_X8 fl_X8_63 sh_82 (by decide) rfl dX8_formOf_53 ?_
        refine x_iload C 4 dX8_formOf_56 rfl ?_
        obtain ⟨hi6, hF⟩ := f_chk hF
        refine x_iald C sh_99 hi6 dX8_formOf_58 ?_
        obtain ⟨hi7, hF⟩ := f_chk hF
        refine x_iald C sh_97 hi7 dX8_formOf_59 ?_
        obtain ⟨q8, hq8, hF⟩ := f_bind hF
        refine x_cVi (rest := []) C (c_X8_meant l C.2.2.2.2.2.2.2.2 (μ 97 (ix (μ 99 (ix x4)))) μ hq8) cw_X8_153 sh_82 rfl rfl ⟨by decide, by decide⟩ rfl rfl (Nat.le_of_ble_eq_true rfl) dX8_formOf_60 ?_
        refine x_iload_n C 2 dX8_formOf_63 rfl rfl ?_
        refine x_icmp_ne (tgt := 71) C dX8_formOf_64 (by decide) (fun hc => ?_) (fun hc => ?_)
        · replace hF := f_f hc hF
          refine x_iconst (v := 0) C dX8_formOf_71 (by decide) ?_
          refine x_istore_n C [(3, .int 0), (0, .ref (G.ad 82)), (1, .int x1), (2, .int x2), (4, .int x4)] dX8_formOf_72 rfl (by decide) rfl ?_
          refine x_iinc C [(4, .int (x4 + 1)), (3, .int 0), (0, .ref (G.ad 82)), (1, .int x1), (2, .int x2)] 4 dX8_formOf_73 rfl rfl (by decide) rfl ?_
          refine x_goto (tgt := 37) C dX8_formOf_76 (by decide) ?_
          exact x_pick [(0, .ref (G.ad 82)), (1, .int x1), (2, .int x2), (3, .int 0), (4, .int (x4 + 1))] [2, 3, 4, 1, 0] rfl (ih x1 x2 0 (x4 + 1) hF)
        · replace hF := f_t hc hF
          refine x_iconst (v := 1) C dX8_formOf_67 (by decide) ?_
          refine x_goto (tgt := 72) C dX8_formOf_68 (by decide) ?_
          refine x_istore_n C [(3, .int 1), (0, .ref (G.ad 82)), (1, .int x1), (2, .int x2), (4, .int x4)] dX8_formOf_72 rfl (by decide) rfl ?_
          refine x_iinc C [(4, .int (x4 + 1)), (3, .int 1), (0, .ref (G.ad 82)), (1, .int x1), (2, .int x2)] 4 dX8_formOf_73 rfl rfl (by decide) rfl ?_
          refine x_goto (tgt := 37) C dX8_formOf_76 (by decide) ?_
          exact x_pick [(0, .ref (G.ad 82)), (1, .int x1), (2, .int x2), (3, .int 1), (4, .int (x4 + 1))] [2, 3, 4, 1, 0] rfl (ih x1 x2 1 (x4 + 1) hF)
set_option maxHeartbeats 4000000 in
theorem w_X8_formOf {G : Gl} {p : Program} {l : Launch} {e : Env} {s0 : State} {m : MethodId} {args : Array Value} {below : List Frame} {meth : Method} {c : Code} (C : Cx G p s0 m args meth c cX8_formOf 6 RX8 (some .int)) {r : Int32}  (x1 : Int32) (μ : Mu) (hF : f_X8_formOf x1 μ = some r) : X G p l e 1 22 s0 m args below meth c 6 (some (.int r)) μ μ 0 [(0, .ref (G.ad 82)), (1, .int x1)] [] := by
  unfold f_X8_formOf at hF
  refine x_aload_n C 0 dX8_formOf_0 rfl rfl ?_
  refine x_iconst (v := 0) C dX8_formOf_1 (by decide) ?_
  obtain ⟨q1, hq1, hF⟩ := f_bind hF
  refine x_cVi (rest := []) C (c_X8_styleOf l C.2.2.2.2.2.2.2.2 0 μ hq1) cw_X8_171 sh_82 rfl rfl ⟨by decide, by decide⟩ rfl rfl (Nat.le_of_ble_eq_true rfl) dX8_formOf_2 ?_
  refine x_if_le (tgt := 16) C dX8_formOf_5 (by decide) (fun hc => ?_) (fun hc => ?_)
  · replace hF := f_t hc hF
    refine x_aload_n C 0 dX8_formOf_16 rfl rfl ?_
    refine x_aload_n C 0 dX8_formOf_17 rfl rfl ?_
    refine x_getR C fc_X8 fl_X8_57 sh_82 (by decide) rfl dX8_formOf_18 ?_
    refine x_aload_n C 0 dX8_formOf_21 rfl rfl ?_
    refine x_getR C fc_X8 fl_X8_63 sh_82 (by decide) rfl dX8_formOf_22 ?_
    refine x_iload_n C 1 dX8_formOf_25 rfl rfl ?_
    obtain ⟨hi2, hF⟩ := f_chk hF
    refine x_iald C sh_99 hi2 dX8_formOf_26 ?_
    obtain ⟨hi3, hF⟩ := f_chk hF
    refine x_iald C sh_97 hi3 dX8_formOf_27 ?_
    obtain ⟨q4, hq4, hF⟩ := f_bind hF
    refine x_cVi (rest := []) C (c_X8_meant l C.2.2.2.2.2.2.2.2 (μ 97 (ix (μ 99 (ix x1)))) μ hq4) cw_X8_153 sh_82 rfl rfl ⟨by decide, by decide⟩ rfl rfl (Nat.le_of_ble_eq_true rfl) dX8_formOf_28 ?_
    refine x_istore_n C [(2, .int q4), (0, .ref (G.ad 82)), (1, .int x1)] dX8_formOf_31 rfl (by decide) rfl ?_
    refine x_iconst (v := 0) C dX8_formOf_32 (by decide) ?_
    refine x_istore_n C [(3, .int 0), (2, .int q4), (0, .ref (G.ad 82)), (1, .int x1)] dX8_formOf_33 rfl (by decide) rfl ?_
    refine x_iconst (v := 0) C dX8_formOf_34 (by decide) ?_
    refine x_istore C [(4, .int 0), (3, .int 0), (2, .int q4), (0, .ref (G.ad 82)), (1, .int x1)] dX8_formOf_35 (by decide) rfl ?_
    exact x_pick [(0, .ref (G.ad 82)), (1, .int x1), (2, .int q4), (3, .int 0), (4, .int 0)] [3, 4, 2, 1, 0] rfl (w_X8_formOf_L37 C μ fu x1 q4 0 0 hF)
  · replace hF := f_f hc hF
    refine x_iconst (v := 3) C dX8_formOf_8 (by decide) ?_
    refine x_aload_n C 0 dX8_formOf_9 rfl rfl ?_
    refine x_iconst (v := 0) C dX8_formOf_10 (by decide) ?_
    obtain ⟨q5, hq5, hF⟩ := f_bind hF
    refine x_cVi (rest := [.int 3]) C (c_X8_styleOf l C.2.2.2.2.2.2.2.2 0 μ hq5) cw_X8_171 sh_82 rfl rfl ⟨by decide, by decide⟩ rfl rfl (Nat.le_of_ble_eq_true rfl) dX8_formOf_11 ?_
    refine x_iadd C dX8_formOf_14 ?_
    exact x_iret C dX8_formOf_15 (Option.some.inj hF) rfl
set_option maxHeartbeats 4000000 in
theorem c_X8_formOf {G : Gl} (l : Launch) (hA : Ap G) {r : Int32}  (x1 : Int32) (μ : Mu) (hF : f_X8_formOf x1 μ = some r) : Mth G l yX8_formOf cX8_formOf 6 (some .int) 1 22 [.ref (G.ad 82), .int x1] (some (.int r)) μ μ := Mth.of hA (by decide) rfl (Nat.le_of_ble_eq_true rfl) (fun p e s0 m args below meth c C => w_X8_formOf C x1 μ hF)
set_option maxHeartbeats 4000000 in
theorem w_X8_readBy_b35 {G : Gl} {p : Program} {l : Launch} {e : Env} {s0 : State} {m : MethodId} {args : Array Value} {below : List Frame} {meth : Method} {c : Code} (C : Cx G p s0 m args meth c cX8_readBy 4 RX8 (some .int)) {r : Int32}  (μ : Mu) (x1 : Int32) (x2 : Int32) (t0 : Int32) (hF : f_X8_readBy_b35 μ x1 x2 t0 = some r) : X G p l e 2 47 s0 m args below meth c 4 (some (.int r)) μ μ 35 [(0, .ref (G.ad 82)), (1, .int x1), (2, .int x2)] [.int t0] := by
  unfold f_X8_readBy_b35 at hF
  refine x_istore_n C [(3, .int t0), (0, .ref (G.ad 82)), (1, .int x1), (2, .int x2)] dX8_readBy_35 rfl (by decide) rfl ?_
  refine x_aload_n C 1 dX8_readBy_36 rfl rfl ?_
  refine x_iload_n C 2 dX8_readBy_37 rfl rfl ?_
  obtain ⟨q1, hq1, hF⟩ := f_bind hF
  refine x_cVi (rest := []) C (c_X8_formOf l C.2.2.2.2.2.2.2.2 x1 μ hq1) cw_X8_247 sh_82 rfl rfl ⟨by decide, by decide⟩ rfl rfl (Nat.le_of_ble_eq_true rfl) dX8_readBy_38 ?_
  refine x_bipush (v := 8) C dX8_readBy_41 (by decide) ?_
  refine x_imul C dX8_readBy_43 ?_
  refine x_aload_n C 1 dX8_readBy_44 rfl rfl ?_
  refine x_getR C fc_X8 fl_X8_81 sh_82 (by decide) rfl dX8_readBy_45 ?_
  refine x_iload_n C 3 dX8_readBy_48 rfl rfl ?_
  obtain ⟨hi2, hF⟩ := f_chk hF
  refine x_iald C sh_105 hi2 dX8_readBy_49 ?_
  refine x_iadd C dX8_readBy_50 ?_
  refine x_iconst (v := 2) C dX8_readBy_51 (by decide) ?_
  refine x_imul C dX8_readBy_52 ?_
  refine x_aload_n C 1 dX8_readBy_53 rfl rfl ?_
  refine x_getR C fc_X8 fl_X8_84 sh_82 (by decide) rfl dX8_readBy_54 ?_
  refine x_iload_n C 3 dX8_readBy_57 rfl rfl ?_
  refine x_zald C sh_106 hi2 dX8_readBy_58 ?_
  refine x_cSi (rest := [.int (((q1 * 8) + (μ 105 (ix x2))) * 2)]) C (c_X8_one l C.2.2.2.2.2.2.2.2 (μ 106 (ix x2)) μ) cw_X8_205 ⟨by decide, by decide⟩ rfl rfl (Nat.le_of_ble_eq_true rfl) dX8_readBy_59 ?_
  refine x_iadd C dX8_readBy_62 ?_
  refine x_bipush (v := 32) C dX8_readBy_63 (by decide) ?_
  refine x_imul C dX8_readBy_65 ?_
  refine x_aload_n C 1 dX8_readBy_66 rfl rfl ?_
  refine x_getR C fc_X8 fl_X8_87 sh_82 (by decide) rfl dX8_readBy_67 ?_
  refine x_iload_n C 3 dX8_readBy_70 rfl rfl ?_
  refine x_iald C sh_107 hi2 dX8_readBy_71 ?_
  refine x_iadd C dX8_readBy_72 ?_
  refine x_bipush (v := 32) C dX8_readBy_73 (by decide) ?_
  refine x_imul C dX8_readBy_75 ?_
  refine x_iload_n C 0 dX8_readBy_76 rfl rfl ?_
  refine x_iadd C dX8_readBy_77 ?_
  exact x_iret C dX8_readBy_78 (Option.some.inj hF) rfl
set_option maxHeartbeats 4000000 in
theorem w_X8_readBy {G : Gl} {p : Program} {l : Launch} {e : Env} {s0 : State} {m : MethodId} {args : Array Value} {below : List Frame} {meth : Method} {c : Code} (C : Cx G p s0 m args meth c cX8_readBy 4 RX8 (some .int)) {r : Int32}  (x1 : Int32) (μ : Mu) (hF : f_X8_readBy x1 μ = some r) : X G p l e 2 47 s0 m args below meth c 4 (some (.int r)) μ μ 0 [(0, .ref (G.ad 82)), (1, .int x1)] [] := by
  unfold f_X8_readBy at hF
  refine x_aload_n C 0 dX8_readBy_0 rfl rfl ?_
  refine x_aload_n C 0 dX8_readBy_1 rfl rfl ?_
  refine x_getR C fc_X8 fl_X8_57 sh_82 (by decide) rfl dX8_readBy_2 ?_
  refine x_aload_n C 0 dX8_readBy_5 rfl rfl ?_
  refine x_getR C fc_X8 fl_X8_63 sh_82 (by decide) rfl dX8_readBy_6 ?_
  refine x_iload_n C 1 dX8_readBy_9 rfl rfl ?_
  obtain ⟨hi1, hF⟩ := f_chk hF
  refine x_iald C sh_99 hi1 dX8_readBy_10 ?_
  obtain ⟨hi2, hF⟩ := f_chk hF
  refine x_iald C sh_97 hi2 dX8_readBy_11 ?_
  obtain ⟨q3, hq3, hF⟩ := f_bind hF
  refine x_cVi (rest := []) C (c_X8_meant l C.2.2.2.2.2.2.2.2 (μ 97 (ix (μ 99 (ix x1)))) μ hq3) cw_X8_153 sh_82 rfl rfl ⟨by decide, by decide⟩ rfl rfl (Nat.le_of_ble_eq_true rfl) dX8_readBy_12 ?_
  refine x_istore_n C [(2, .int q3), (0, .ref (G.ad 82)), (1, .int x1)] dX8_readBy_15 rfl (by decide) rfl ?_
  refine x_aload_n C 1 dX8_readBy_16 rfl rfl ?_
  refine x_iconst (v := 0) C dX8_readBy_17 (by decide) ?_
  obtain ⟨q4, hq4, hF⟩ := f_bind hF
  refine x_cVi (rest := []) C (c_X8_styleOf l C.2.2.2.2.2.2.2.2 0 μ hq4) cw_X8_171 sh_82 rfl rfl ⟨by decide, by decide⟩ rfl rfl (Nat.le_of_ble_eq_true rfl) dX8_readBy_18 ?_
  refine x_iconst (v := 2) C dX8_readBy_21 (by decide) ?_
  refine x_icmp_ne (tgt := 34) C dX8_readBy_22 (by decide) (fun hc => ?_) (fun hc => ?_)
  · replace hF := f_f hc hF
    refine x_iconst (v := 0) C dX8_readBy_34 (by decide) ?_
    exact x_pick [(0, .ref (G.ad 82)), (1, .int x1), (2, .int q3)] [1, 2, 0] rfl (w_X8_readBy_b35 C μ x1 q3 0 hF)
  · replace hF := f_t hc hF
    refine x_aload_n C 1 dX8_readBy_25 rfl rfl ?_
    refine x_getR C fc_X8 fl_X8_78 sh_82 (by decide) rfl dX8_readBy_26 ?_
    refine x_iload_n C 0 dX8_readBy_29 rfl rfl ?_
    obtain ⟨hi5, hF⟩ := f_chk hF
    refine x_iald C sh_104 hi5 dX8_readBy_30 ?_
    refine x_goto (tgt := 35) C dX8_readBy_31 (by decide) ?_
    exact x_pick [(0, .ref (G.ad 82)), (1, .int x1), (2, .int q3)] [1, 2, 0] rfl (w_X8_readBy_b35 C μ x1 q3 (μ 104 (ix q3)) hF)
set_option maxHeartbeats 4000000 in
theorem c_X8_readBy {G : Gl} (l : Launch) (hA : Ap G) {r : Int32}  (x1 : Int32) (μ : Mu) (hF : f_X8_readBy x1 μ = some r) : Mth G l yX8_readBy cX8_readBy 4 (some .int) 2 47 [.ref (G.ad 82), .int x1] (some (.int r)) μ μ := Mth.of hA (by decide) rfl (Nat.le_of_ble_eq_true rfl) (fun p e s0 m args below meth c C => w_X8_readBy C x1 μ hF)
set_option maxHeartbeats 4000000 in
theorem w_X8_beside_b187 {G : Gl} {p : Program} {l : Launch} {e : Env} {s0 : State} {m : MethodId} {args : Array Value} {below : List Frame} {meth : Method} {c : Code} (C : Cx G p s0 m args meth c cX8_beside 10 RX8 (some .int)) {r : Int32} {μf : Mu}  {k94 : Int32 → Int32 → Int32 → Int32 → Int32 → Mu → Option (Int32 × Mu)} (hk94 : ∀ (x2 : Int32) (x3 : Int32) (x4 : Int32) (x5 : Int32) (x6 : Int32) (μ : Mu), k94 x2 x3 x4 x5 x6 μ = some (r, μf) → X G p l e 5 117 s0 m args below meth c 10 (some (.int r)) μf μ 94 [(0, .ref (G.ad 82)), (2, .int x2), (3, .int x3), (4, .int x4), (5, .int x5), (6, .int x6)] []) (x2 : Int32) (x3 : Int32) (x4 : Int32) (x5 : Int32) (x6 : Int32) (x8 : Int32) (t0 : Int32) (μ : Mu) (hF : f_X8_beside_b187 k94 x2 x3 x4 x5 x6 x8 t0 μ = some (r, μf)) : X G p l e 5 117 s0 m args below meth c 10 (some (.int r)) μf μ 187 [(0, .ref (G.ad 82)), (2, .int x2), (3, .int x3), (4, .int x4), (5, .int x5), (6, .int x6), (8, .int x8)] [.int t0] := by
  unfold f_X8_beside_b187 at hF
  refine x_istore C [(9, .int t0), (0, .ref (G.ad 82)), (2, .int x2), (3, .int x3), (4, .int x4), (5, .int x5), (6, .int x6), (8, .int x8)] dX8_beside_187 (by decide) rfl ?_
  refine x_iload_n C 3 dX8_beside_189 rfl rfl ?_
  refine x_iload C 7 dX8_beside_190 rfl ?_
  refine x_cSi (rest := [.int x3]) C (c_X8_one l C.2.2.2.2.2.2.2.2 x8 μ) cw_X8_205 ⟨by decide, by decide⟩ rfl rfl (Nat.le_of_ble_eq_true rfl) dX8_beside_192 ?_
  refine x_iadd C dX8_beside_195 ?_
  refine x_letI hF (fun y1 hF => ?_)
  refine x_istore_n C [(3, .int y1), (9, .int t0), (0, .ref (G.ad 82)), (2, .int x2), (4, .int x4), (5, .int x5), (6, .int x6), (8, .int x8)] dX8_beside_196 rfl (by decide) rfl ?_
  refine x_iload C 4 dX8_beside_197 rfl ?_
  refine x_iload C 1 dX8_beside_199 rfl ?_
  refine x_cSi (rest := [.int x4]) C (c_X8_one l C.2.2.2.2.2.2.2.2 t0 μ) cw_X8_205 ⟨by decide, by decide⟩ rfl rfl (Nat.le_of_ble_eq_true rfl) dX8_beside_201 ?_
  refine x_iadd C dX8_beside_204 ?_
  refine x_letI hF (fun y2 hF => ?_)
  refine x_istore C [(4, .int y2), (3, .int y1), (9, .int t0), (0, .ref (G.ad 82)), (2, .int x2), (5, .int x5), (6, .int x6), (8, .int x8)] dX8_beside_205 (by decide) rfl ?_
  refine x_iload C 5 dX8_beside_207 rfl ?_
  refine x_if_ge (tgt := 227) C dX8_beside_209 (by decide) (fun hc => ?_) (fun hc => ?_)
  · replace hF := f_t hc hF
    refine x_iload C 5 dX8_beside_227 rfl ?_
    refine x_istore C [(5, .int x5), (4, .int y2), (3, .int y1), (9, .int t0), (0, .ref (G.ad 82)), (2, .int x2), (6, .int x6), (8, .int x8)] dX8_beside_229 (by decide) rfl ?_
    refine x_iinc C [(6, .int (x6 + 1)), (5, .int x5), (4, .int y2), (3, .int y1), (9, .int t0), (0, .ref (G.ad 82)), (2, .int x2), (8, .int x8)] 6 dX8_beside_231 rfl rfl (by decide) rfl ?_
    refine x_goto (tgt := 94) C dX8_beside_234 (by decide) ?_
    exact x_pick [(0, .ref (G.ad 82)), (2, .int x2), (3, .int y1), (4, .int y2), (5, .int x5), (6, .int (x6 + 1))] [5, 6, 3, 2, 1, 0] rfl (hk94 x2 y1 y2 x5 (x6 + 1) μ hF)
  · replace hF := f_f hc hF
    refine x_iload C 7 dX8_beside_212 rfl ?_
    refine x_if_ne (tgt := 222) C dX8_beside_214 (by decide) (fun hc => ?_) (fun hc => ?_)
    · replace hF := f_f hc hF
      refine x_iload C 6 dX8_beside_222 rfl ?_
      refine x_goto (tgt := 229) C dX8_beside_224 (by decide) ?_
      refine x_istore C [(5, .int x6), (4, .int y2), (3, .int y1), (9, .int t0), (0, .ref (G.ad 82)), (2, .int x2), (6, .int x6), (8, .int x8)] dX8_beside_229 (by decide) rfl ?_
      refine x_iinc C [(6, .int (x6 + 1)), (5, .int x6), (4, .int y2), (3, .int y1), (9, .int t0), (0, .ref (G.ad 82)), (2, .int x2), (8, .int x8)] 6 dX8_beside_231 rfl rfl (by decide) rfl ?_
      refine x_goto (tgt := 94) C dX8_beside_234 (by decide) ?_
      exact x_pick [(0, .ref (G.ad 82)), (2, .int x2), (3, .int y1), (4, .int y2), (5, .int x6), (6, .int (x6 + 1))] [5, 6, 3, 2, 1, 0] rfl (hk94 x2 y1 y2 x6 (x6 + 1) μ hF)
    · replace hF := f_t hc hF
      refine x_iload C 2 dX8_beside_217 rfl ?_
      refine x_if_eq (tgt := 227) C dX8_beside_219 (by decide) (fun hc => ?_) (fun hc => ?_)
      · replace hF := f_t hc hF
        refine x_iload C 5 dX8_beside_227 rfl ?_
        refine x_istore C [(5, .int x5), (4, .int y2), (3, .int y1), (9, .int t0), (0, .ref (G.ad 82)), (2, .int x2), (6, .int x6), (8, .int x8)] dX8_beside_229 (by decide) rfl ?_
        refine x_iinc C [(6, .int (x6 + 1)), (5, .int x5), (4, .int y2), (3, .int y1), (9, .int t0), (0, .ref (G.ad 82)), (2, .int x2), (8, .int x8)] 6 dX8_beside_231 rfl rfl (by decide) rfl ?_
        refine x_goto (tgt := 94) C dX8_beside_234 (by decide) ?_
        exact x_pick [(0, .ref (G.ad 82)), (2, .int x2), (3, .int y1), (4, .int y2), (5, .int x5), (6, .int (x6 + 1))] [5, 6, 3, 2, 1, 0] rfl (hk94 x2 y1 y2 x5 (x6 + 1) μ hF)
      · replace hF := f_f hc hF
        refine x_iload C 6 dX8_beside_222 rfl ?_
        refine x_goto (tgt := 229) C dX8_beside_224 (by decide) ?_
        refine x_istore C [(5, .int x6), (4, .int y2), (3, .int y1), (9, .int t0), (0, .ref (G.ad 82)), (2, .int x2), (6, .int x6), (8, .int x8)] dX8_beside_229 (by decide) rfl ?_
        refine x_iinc C [(6, .int (x6 + 1)), (5, .int x6), (4, .int y2), (3, .int y1), (9, .int t0), (0, .ref (G.ad 82)), (2, .int x2), (8, .int x8)] 6 dX8_beside_231 rfl rfl (by decide) rfl ?_
        refine x_goto (tgt := 94) C dX8_beside_234 (by decide) ?_
        exact x_pick [(0, .ref (G.ad 82)), (2, .int x2), (3, .int y1), (4, .int y2), (5, .int x6), (6, .int (x6 + 1))] [5, 6, 3, 2, 1, 0] rfl (hk94 x2 y1 y2 x6 (x6 + 1) μ hF)
set_option maxHeartbeats 4000000 in
theorem w_X8_beside_b163 {G : Gl} {p : Program} {l : Launch} {e : Env} {s0 : State} {m : MethodId} {args : Array Value} {below : List Frame} {meth : Method} {c : Code} (C : Cx G p s0 m args meth c cX8_beside 10 RX8 (some .int)) {r : Int32} {μf : Mu}  {k94 : Int32 → Int32 → Int32 → Int32 → Int32 → Mu → Option (Int32 × Mu)} (hk94 : ∀ (x2 : Int32) (x3 : Int32) (x4 : Int32) (x5 : Int32) (x6 : Int32) (μ : Mu), k94 x2 x3 x4 x5 x6 μ = some (r, μf) → X G p l e 5 117 s0 m args below meth c 10 (some (.int r)) μf μ 94 [(0, .ref (G.ad 82)), (2, .int x2), (3, .int x3), (4, .int x4), (5, .int x5), (6, .int x6)] []) (x2 : Int32) (x3 : Int32) (x4 : Int32) (x5 : Int32) (x6 : Int32) (x7 : Int32) (t0 : Int32) (μ : Mu) (hF : f_X8_beside_b163 k94 x2 x3 x4 x5 x6 x7 t0 μ = some (r, μf)) : X G p l e 5 117 s0 m args below meth c 10 (some (.int r)) μf μ 163 [(0, .ref (G.ad 82)), (2, .int x2), (3, .int x3), (4, .int x4), (5, .int x5), (6, .int x6), (7, .int x7)] [.int t0] := by
  unfold f_X8_beside_b163 at hF
  refine x_istore C [(8, .int t0), (0, .ref (G.ad 82)), (2, .int x2), (3, .int x3), (4, .int x4), (5, .int x5), (6, .int x6), (7, .int x7)] dX8_beside_163 (by decide) rfl ?_
  refine x_iload C 0 dX8_beside_165 rfl ?_
  refine x_if_ne (tgt := 186) C dX8_beside_167 (by decide) (fun hc => ?_) (fun hc => ?_)
  · replace hF := f_f hc hF
    refine x_iconst (v := 0) C dX8_beside_186 (by decide) ?_
    exact x_pick [(0, .ref (G.ad 82)), (2, .int x2), (3, .int x3), (4, .int x4), (5, .int x5), (6, .int x6), (8, .int t0)] [1, 2, 3, 4, 5, 6, 0] rfl (w_X8_beside_b187 C hk94 x2 x3 x4 x5 x6 t0 0 μ hF)
  · replace hF := f_t hc hF
    refine x_iload C 7 dX8_beside_170 rfl ?_
    refine x_aload_n C 1 dX8_beside_172 rfl rfl ?_
    refine x_getR C fc_X8 fl_X8_111 sh_82 (by decide) rfl dX8_beside_173 ?_
    refine x_iload C 6 dX8_beside_176 rfl ?_
    obtain ⟨hi1, hF⟩ := f_chk hF
    refine x_iald C sh_114 hi1 dX8_beside_178 ?_
    refine x_icmp_eq (tgt := 186) C dX8_beside_179 (by decide) (fun hc => ?_) (fun hc => ?_)
    · replace hF := f_t hc hF
      refine x_iconst (v := 0) C dX8_beside_186 (by decide) ?_
      exact x_pick [(0, .ref (G.ad 82)), (2, .int x2), (3, .int x3), (4, .int x4), (5, .int x5), (6, .int x6), (8, .int t0)] [1, 2, 3, 4, 5, 6, 0] rfl (w_X8_beside_b187 C hk94 x2 x3 x4 x5 x6 t0 0 μ hF)
    · replace hF := f_f hc hF
      refine x_iconst (v := 1) C dX8_beside_182 (by decide) ?_
      refine x_goto (tgt := 187) C dX8_beside_183 (by decide) ?_
      exact x_pick [(0, .ref (G.ad 82)), (2, .int x2), (3, .int x3), (4, .int x4), (5, .int x5), (6, .int x6), (8, .int t0)] [1, 2, 3, 4, 5, 6, 0] rfl (w_X8_beside_b187 C hk94 x2 x3 x4 x5 x6 t0 1 μ hF)
set_option maxHeartbeats 4000000 in
theorem w_X8_beside_b140 {G : Gl} {p : Program} {l : Launch} {e : Env} {s0 : State} {m : MethodId} {args : Array Value} {below : List Frame} {meth : Method} {c : Code} (C : Cx G p s0 m args meth c cX8_beside 10 RX8 (some .int)) {r : Int32} {μf : Mu}  {k94 : Int32 → Int32 → Int32 → Int32 → Int32 → Mu → Option (Int32 × Mu)} (hk94 : ∀ (x2 : Int32) (x3 : Int32) (x4 : Int32) (x5 : Int32) (x6 : Int32) (μ : Mu), k94 x2 x3 x4 x5 x6 μ = some (r, μf) → X G p l e 5 117 s0 m args below meth c 10 (some (.int r)) μf μ 94 [(0, .ref (G.ad 82)), (2, .int x2), (3, .int x3), (4, .int x4), (5, .int x5), (6, .int x6)] []) (x2 : Int32) (x3 : Int32) (x4 : Int32) (x5 : Int32) (x6 : Int32) (x7 : Int32) (t0 : Int32) (μ : Mu) (hF : f_X8_beside_b140 k94 x2 x3 x4 x5 x6 x7 t0 μ = some (r, μf)) : X G p l e 5 117 s0 m args below meth c 10 (some (.int r)) μf μ 140 [(0, .ref (G.ad 82)), (2, .int x2), (3, .int x3), (4, .int x4), (5, .int x5), (6, .int x6), (7, .int x7)] [.int t0] := by
  unfold f_X8_beside_b140 at hF
  refine x_aload_n C 0 dX8_beside_140 rfl rfl ?_
  refine x_getR C fc_X8 fl_X8_111 sh_82 (by decide) rfl dX8_beside_141 ?_
  refine x_iload C 5 dX8_beside_144 rfl ?_
  obtain ⟨hi1, hF⟩ := f_chk hF
  refine x_iald C sh_114 hi1 dX8_beside_146 ?_
  refine x_if_ge (tgt := 154) C dX8_beside_147 (by decide) (fun hc => ?_) (fun hc => ?_)
  · replace hF := f_t hc hF
    refine x_iconst (v := 0) C dX8_beside_154 (by decide) ?_
    refine x_icmp_eq (tgt := 162) C dX8_beside_155 (by decide) (fun hc => ?_) (fun hc => ?_)
    · replace hF := f_t hc hF
      refine x_iconst (v := 0) C dX8_beside_162 (by decide) ?_
      exact x_pick [(0, .ref (G.ad 82)), (2, .int x2), (3, .int x3), (4, .int x4), (5, .int x5), (6, .int x6), (7, .int x7)] [0, 1, 2, 3, 4, 5, 6] rfl (w_X8_beside_b163 C hk94 x2 x3 x4 x5 x6 x7 0 μ hF)
    · replace hF := f_f hc hF
      refine x_iconst (v := 1) C dX8_beside_158 (by decide) ?_
      refine x_goto (tgt := 163) C dX8_beside_159 (by decide) ?_
      exact x_pick [(0, .ref (G.ad 82)), (2, .int x2), (3, .int x3), (4, .int x4), (5, .int x5), (6, .int x6), (7, .int x7)] [0, 1, 2, 3, 4, 5, 6] rfl (w_X8_beside_b163 C hk94 x2 x3 x4 x5 x6 x7 1 μ hF)
  · replace hF := f_f hc hF
    refine x_iconst (v := 1) C dX8_beside_150 (by decide) ?_
    refine x_goto (tgt := 155) C dX8_beside_151 (by decide) ?_
    refine x_icmp_eq (tgt := 162) C dX8_beside_155 (by decide) (fun hc => ?_) (fun hc => ?_)
    · replace hF := f_t hc hF
      refine x_iconst (v := 0) C dX8_beside_162 (by decide) ?_
      exact x_pick [(0, .ref (G.ad 82)), (2, .int x2), (3, .int x3), (4, .int x4), (5, .int x5), (6, .int x6), (7, .int x7)] [0, 1, 2, 3, 4, 5, 6] rfl (w_X8_beside_b163 C hk94 x2 x3 x4 x5 x6 x7 0 μ hF)
    · replace hF := f_f hc hF
      refine x_iconst (v := 1) C dX8_beside_158 (by decide) ?_
      refine x_goto (tgt := 163) C dX8_beside_159 (by decide) ?_
      exact x_pick [(0, .ref (G.ad 82)), (2, .int x2), (3, .int x3), (4, .int x4), (5, .int x5), (6, .int x6), (7, .int x7)] [0, 1, 2, 3, 4, 5, 6] rfl (w_X8_beside_b163 C hk94 x2 x3 x4 x5 x6 x7 1 μ hF)
set_option maxHeartbeats 4000000 in
theorem w_X8_beside_L94 {G : Gl} {p : Program} {l : Launch} {e : Env} {s0 : State} {m : MethodId} {args : Array Value} {below : List Frame} {meth : Method} {c : Code} (C : Cx G p s0 m args meth c cX8_beside 10 RX8 (some .int)) {r : Int32} {μf : Mu}  : ∀ (n : Nat) (x2 : Int32) (x3 : Int32) (x4 : Int32) (x5 : Int32) (x6 : Int32) (μ : Mu), f_X8_beside_L94 n x2 x3 x4 x5 x6 μ = some (r, μf) → X G p l e 5 117 s0 m args below meth c 10 (some (.int r)) μf μ 94 [(0, .ref (G.ad 82)), (2, .int x2), (3, .int x3), (4, .int x4), (5, .int x5), (6, .int x6)] [] := by
  intro n
  induction n with
  | zero =>
    intro x2 x3 x4 x5 x6 μ hF
    rw [f_X8_beside_L94] at hF
    cases hF
  | succ n ih =>
    intro x2 x3 x4 x5 x6 μ hF
    rw [f_X8_beside_L94] at hF
    refine x_iload C 5 dX8_beside_94 rfl ?_
    refine x_aload_n C 0 dX8_beside_96 rfl rfl ?_
    refine x_getI C fc_X8 fl_X8_161 sh_82 (by decide) rfl dX8_beside_97 ?_
    refine x_icmp_ge (tgt := 237) C dX8_beside_100 (by decide) (fun hc => ?_) (fun hc => ?_)
    · replace hF := f_t hc hF
      refine x_iload_n C 1 dX8_beside_237 rfl rfl ?_
      refine x_if_ne (tgt := 245) C dX8_beside_238 (by decide) (fun hc => ?_) (fun hc => ?_)
      · replace hF := f_f hc hF
        refine x_iload_n C 1 dX8_beside_245 rfl rfl ?_
        refine x_iconst (v := 1) C dX8_beside_246 (by decide) ?_
        refine x_icmp_ne (tgt := 255) C dX8_beside_247 (by decide) (fun hc => ?_) (fun hc => ?_)
        · replace hF := f_f hc hF
          refine x_iload C 4 dX8_beside_255 rfl ?_
          exact x_iret C dX8_beside_257 (Prod.mk.inj (Option.some.inj hF)).1 (Prod.mk.inj (Option.some.inj hF)).2
        · replace hF := f_t hc hF
          refine x_iload C 3 dX8_beside_250 rfl ?_
          refine x_goto (tgt := 257) C dX8_beside_252 (by decide) ?_
          exact x_iret C dX8_beside_257 (Prod.mk.inj (Option.some.inj hF)).1 (Prod.mk.inj (Option.some.inj hF)).2
      · replace hF := f_t hc hF
        refine x_iload_n C 2 dX8_beside_241 rfl rfl ?_
        refine x_goto (tgt := 257) C dX8_beside_242 (by decide) ?_
        exact x_iret C dX8_beside_257 (Prod.mk.inj (Option.some.inj hF)).1 (Prod.mk.inj (Option.some.inj hF)).2
    · replace hF := f_f hc hF
      refine x_aload_n C 0 dX8_beside_103 rfl rfl ?_
      refine x_getR C fc_X8 fl_X8_69 sh_82 (by decide) rfl dX8_beside_104 ?_
      refine x_iload C 5 dX8_beside_107 rfl ?_
      obtain ⟨hi1, hF⟩ := f_chk hF
      refine x_iald C sh_101 hi1 dX8_beside_109 ?_
      refine x_if_ge (tgt := 117) C dX8_beside_110 (by decide) (fun hc => ?_) (fun hc => ?_)
      · replace hF := f_t hc hF
        refine x_aload_n C 0 dX8_beside_117 rfl rfl ?_
        refine x_aload_n C 0 dX8_beside_118 rfl rfl ?_
        refine x_getR C fc_X8 fl_X8_69 sh_82 (by decide) rfl dX8_beside_119 ?_
        refine x_iload C 5 dX8_beside_122 rfl ?_
        refine x_iald C sh_101 hi1 dX8_beside_124 ?_
        obtain ⟨q2, hq2, hF⟩ := f_bind hF
        refine x_cVi (rest := []) C (c_X8_readBy l C.2.2.2.2.2.2.2.2 (μ 101 (ix x6)) μ hq2) cw_X8_327 sh_82 rfl rfl ⟨by decide, by decide⟩ rfl rfl (Nat.le_of_ble_eq_true rfl) dX8_beside_125 ?_
        refine x_istore C [(7, .int q2), (0, .ref (G.ad 82)), (2, .int x2), (3, .int x3), (4, .int x4), (5, .int x5), (6, .int x6)] dX8_beside_128 (by decide) rfl ?_
        refine x_iload C 0 dX8_beside_130 rfl ?_
        refine x_if_ge (tgt := 139) C dX8_beside_132 (by decide) (fun hc => ?_) (fun hc => ?_)
        · replace hF := f_t hc hF
          refine x_iconst (v := 0) C dX8_beside_139 (by decide) ?_
          exact x_pick [(0, .ref (G.ad 82)), (2, .int x2), (3, .int x3), (4, .int x4), (5, .int x5), (6, .int x6), (7, .int q2)] [1, 2, 3, 4, 5, 6, 0] rfl (w_X8_beside_b140 C ih x2 x3 x4 x5 x6 q2 0 μ hF)
        · replace hF := f_f hc hF
          refine x_iconst (v := 1) C dX8_beside_135 (by decide) ?_
          refine x_goto (tgt := 140) C dX8_beside_136 (by decide) ?_
          exact x_pick [(0, .ref (G.ad 82)), (2, .int x2), (3, .int x3), (4, .int x4), (5, .int x5), (6, .int x6), (7, .int q2)] [1, 2, 3, 4, 5, 6, 0] rfl (w_X8_beside_b140 C ih x2 x3 x4 x5 x6 q2 1 μ hF)
      · replace hF := f_f hc hF
        refine x_iconst (v := (-1)) C dX8_beside_113 (by decide) ?_
        refine x_goto (tgt := 128) C dX8_beside_114 (by decide) ?_
        refine x_istore C [(7, .int (-1)), (0, .ref (G.ad 82)), (2, .int x2), (3, .int x3), (4, .int x4), (5, .int x5), (6, .int x6)] dX8_beside_128 (by decide) rfl ?_
        refine x_iload C 0 dX8_beside_130 rfl ?_
        refine x_if_ge (tgt := 139) C dX8_beside_132 (by decide) (fun hc => ?_) (fun hc => ?_)
        · replace hF := f_t hc hF
          refine x_iconst (v := 0) C dX8_beside_139 (by decide) ?_
          exact x_pick [(0, .ref (G.ad 82)), (2, .int x2), (3, .int x3), (4, .int x4), (5, .int x5), (6, .int x6), (7, .int (-1))] [1, 2, 3, 4, 5, 6, 0] rfl (w_X8_beside_b140 C ih x2 x3 x4 x5 x6 (-1) 0 μ hF)
        · replace hF := f_f hc hF
          refine x_iconst (v := 1) C dX8_beside_135 (by decide) ?_
          refine x_goto (tgt := 140) C dX8_beside_136 (by decide) ?_
          exact x_pick [(0, .ref (G.ad 82)), (2, .int x2), (3, .int x3), (4, .int x4), (5, .int x5), (6, .int x6), (7, .int (-1))] [1, 2, 3, 4, 5, 6, 0] rfl (w_X8_beside_b140 C ih x2 x3 x4 x5 x6 (-1) 1 μ hF)
set_option maxHeartbeats 4000000 in
theorem w_X8_beside_L35 {G : Gl} {p : Program} {l : Launch} {e : Env} {s0 : State} {m : MethodId} {args : Array Value} {below : List Frame} {meth : Method} {c : Code} (C : Cx G p s0 m args meth c cX8_beside 10 RX8 (some .int)) {r : Int32} {μf : Mu}  : ∀ (n : Nat) (x2 : Int32) (x3 : Int32) (μ : Mu), f_X8_beside_L35 n x2 x3 μ = some (r, μf) → X G p l e 5 117 s0 m args below meth c 10 (some (.int r)) μf μ 35 [(0, .ref (G.ad 82)), (2, .int x2), (3, .int x3)] [] := by
  intro n
  induction n with
  | zero =>
    intro x2 x3 μ hF
    rw [f_X8_beside_L35] at hF
    cases hF
  | succ n ih =>
    intro x2 x3 μ hF
    rw [f_X8_beside_L35] at hF
    refine x_iload_n C 2 dX8_beside_35 rfl rfl ?_
    refine x_aload_n C 0 dX8_beside_36 rfl rfl ?_
    refine x_getI C fc_X8 fl_X8_161 sh_82 (by decide) rfl dX8_beside_37 ?_
    refine x_icmp_ge (tgt := 78) C dX8_beside_40 (by decide) (fun hc => ?_) (fun hc => ?_)
    · replace hF := f_t hc hF
      refine x_aload_n C 0 dX8_beside_78 rfl rfl ?_
      refine x_iconst (v := 4) C dX8_beside_79 (by decide) ?_
      obtain ⟨q1, hq1, hF⟩ := f_bind hF
      refine x_cVv (rest := []) C (c_X8_findAll l C.2.2.2.2.2.2.2.2 4 μ hq1) cw_X8_221 sh_82 rfl rfl ⟨by decide, by decide⟩ rfl rfl (Nat.le_of_ble_eq_true rfl) dX8_beside_80 ?_
      refine x_iconst (v := 0) C dX8_beside_83 (by decide) ?_
      refine x_istore_n C [(3, .int 0), (0, .ref (G.ad 82)), (2, .int x2)] dX8_beside_84 rfl (by decide) rfl ?_
      refine x_iconst (v := 0) C dX8_beside_85 (by decide) ?_
      refine x_istore C [(4, .int 0), (3, .int 0), (0, .ref (G.ad 82)), (2, .int x2)] dX8_beside_86 (by decide) rfl ?_
      refine x_iconst (v := (-1)) C dX8_beside_88 (by decide) ?_
      refine x_istore C [(5, .int (-1)), (4, .int 0), (3, .int 0), (0, .ref (G.ad 82)), (2, .int x2)] dX8_beside_89 (by decide) rfl ?_
      refine x_iconst (v := 0) C dX8_beside_91 (by decide) ?_
      refine x_istore C [(6, .int 0), (5, .int (-1)), (4, .int 0), (3, .int 0), (0, .ref (G.ad 82)), (2, .int x2)] dX8_beside_92 (by decide) rfl ?_
      exact x_pick [(0, .ref (G.ad 82)), (2, .int x2), (3, .int 0), (4, .int 0), (5, .int (-1)), (6, .int 0)] [4, 5, 3, 2, 1, 0] rfl (w_X8_beside_L94 C fu x2 0 0 (-1) 0 q1 hF)
    · replace hF := f_f hc hF
      refine x_aload_n C 0 dX8_beside_43 rfl rfl ?_
      refine x_getR C fc_X8 fl_X8_111 sh_82 (by decide) rfl dX8_beside_44 ?_
      refine x_iload_n C 2 dX8_beside_47 rfl rfl ?_
      refine x_aload_n C 0 dX8_beside_48 rfl rfl ?_
      refine x_getR C fc_X8 fl_X8_69 sh_82 (by decide) rfl dX8_beside_49 ?_
      refine x_iload_n C 2 dX8_beside_52 rfl rfl ?_
      obtain ⟨hi2, hF⟩ := f_chk hF
      refine x_iald C sh_101 hi2 dX8_beside_53 ?_
      refine x_if_ge (tgt := 61) C dX8_beside_54 (by decide) (fun hc => ?_) (fun hc => ?_)
      · replace hF := f_t hc hF
        refine x_aload_n C 0 dX8_beside_61 rfl rfl ?_
        refine x_aload_n C 0 dX8_beside_62 rfl rfl ?_
        refine x_getR C fc_X8 fl_X8_69 sh_82 (by decide) rfl dX8_beside_63 ?_
        refine x_iload_n C 2 dX8_beside_66 rfl rfl ?_
        refine x_iald C sh_101 hi2 dX8_beside_67 ?_
        obtain ⟨q3, hq3, hF⟩ := f_bind hF
        refine x_cVi (rest := [.int x3, .ref (G.ad 114)]) C (c_X8_readBy l C.2.2.2.2.2.2.2.2 (μ 101 (ix x3)) μ hq3) cw_X8_327 sh_82 rfl rfl ⟨by decide, by decide⟩ rfl rfl (Nat.le_of_ble_eq_true rfl) dX8_beside_68 ?_
        refine x_iast C sh_114 hi2 dX8_beside_71 ?_
        refine x_letM hF (fun μ4 hF => ?_)
        refine x_iinc C [(3, .int (x3 + 1)), (0, .ref (G.ad 82)), (2, .int x2)] 2 dX8_beside_72 rfl rfl (by decide) rfl ?_
        refine x_goto (tgt := 35) C dX8_beside_75 (by decide) ?_
        exact x_pick [(0, .ref (G.ad 82)), (2, .int x2), (3, .int (x3 + 1))] [1, 2, 0] rfl (ih x2 (x3 + 1) μ4 hF)
      · replace hF := f_f hc hF
        refine x_iconst (v := (-1)) C dX8_beside_57 (by decide) ?_
        refine x_goto (tgt := 71) C dX8_beside_58 (by decide) ?_
        refine x_iast C sh_114 hi2 dX8_beside_71 ?_
        refine x_letM hF (fun μ5 hF => ?_)
        refine x_iinc C [(3, .int (x3 + 1)), (0, .ref (G.ad 82)), (2, .int x2)] 2 dX8_beside_72 rfl rfl (by decide) rfl ?_
        refine x_goto (tgt := 35) C dX8_beside_75 (by decide) ?_
        exact x_pick [(0, .ref (G.ad 82)), (2, .int x2), (3, .int (x3 + 1))] [1, 2, 0] rfl (ih x2 (x3 + 1) μ5 hF)
set_option maxHeartbeats 4000000 in
theorem w_X8_beside {G : Gl} {p : Program} {l : Launch} {e : Env} {s0 : State} {m : MethodId} {args : Array Value} {below : List Frame} {meth : Method} {c : Code} (C : Cx G p s0 m args meth c cX8_beside 10 RX8 (some .int)) {r : Int32} {μf : Mu}  (x1 : Int32) (x2 : Int32) (μ : Mu) (hF : f_X8_beside x1 x2 μ = some (r, μf)) : X G p l e 5 117 s0 m args below meth c 10 (some (.int r)) μf μ 0 [(0, .ref (G.ad 82)), (1, .int x1), (2, .int x2)] [] := by
  unfold f_X8_beside at hF
  refine x_aload_n C 0 dX8_beside_0 rfl rfl ?_
  refine x_iload_n C 1 dX8_beside_1 rfl rfl ?_
  obtain ⟨q1, hq1, hF⟩ := f_bind hF
  refine x_cVi (rest := []) C (c_X8_noVersion l C.2.2.2.2.2.2.2.2 x1 μ hq1) cw_X8_324 sh_82 rfl rfl ⟨by decide, by decide⟩ rfl rfl (Nat.le_of_ble_eq_true rfl) dX8_beside_2 ?_
  refine x_if_eq (tgt := 12) C dX8_beside_5 (by decide) (fun hc => ?_) (fun hc => ?_)
  · replace hF := f_t hc hF
    refine x_iload_n C 2 dX8_beside_12 rfl rfl ?_
    refine x_i2l C dX8_beside_13 ?_
    refine x_lconst (v := 0) C dX8_beside_14 (by decide) ?_
    refine x_ldc2 C cl_X8_156 dX8_beside_15 ?_
    refine x_cSi (rest := []) C (c_X8_in l C.2.2.2.2.2.2.2.2 ((x2 : Int32).toInt64) 0 2 μ) cw_X8_127 ⟨by decide, by decide⟩ rfl rfl (Nat.le_of_ble_eq_true rfl) dX8_beside_18 ?_
    refine x_if_ne (tgt := 28) C dX8_beside_21 (by decide) (fun hc => ?_) (fun hc => ?_)
    · replace hF := f_f hc hF
      refine x_aload_n C 0 dX8_beside_28 rfl rfl ?_
      refine x_iload_n C 1 dX8_beside_29 rfl rfl ?_
      obtain ⟨q2, hq2, hF⟩ := f_bind hF
      refine x_cVv (rest := []) C (c_X8_findAll l C.2.2.2.2.2.2.2.2 x1 μ hq2) cw_X8_221 sh_82 rfl rfl ⟨by decide, by decide⟩ rfl rfl (Nat.le_of_ble_eq_true rfl) dX8_beside_30 ?_
      refine x_iconst (v := 0) C dX8_beside_33 (by decide) ?_
      refine x_istore_n C [(3, .int 0), (0, .ref (G.ad 82)), (1, .int x1), (2, .int x2)] dX8_beside_34 rfl (by decide) rfl ?_
      exact x_pick [(0, .ref (G.ad 82)), (2, .int x2), (3, .int 0)] [1, 3, 0] rfl (w_X8_beside_L35 C fu x2 0 q2 hF)
    · replace hF := f_t hc hF
      refine x_sipush (v := (-1002)) C dX8_beside_24 (by decide) ?_
      exact x_iret C dX8_beside_27 (Prod.mk.inj (Option.some.inj hF)).1 (Prod.mk.inj (Option.some.inj hF)).2
  · replace hF := f_f hc hF
    refine x_sipush (v := (-1001)) C dX8_beside_8 (by decide) ?_
    exact x_iret C dX8_beside_11 (Prod.mk.inj (Option.some.inj hF)).1 (Prod.mk.inj (Option.some.inj hF)).2
set_option maxHeartbeats 4000000 in
theorem c_X8_beside {G : Gl} (l : Launch) (hA : Ap G) {r : Int32} {μf : Mu}  (x1 : Int32) (x2 : Int32) (μ : Mu) (hF : f_X8_beside x1 x2 μ = some (r, μf)) : Mth G l yX8_beside cX8_beside 10 (some .int) 5 117 [.ref (G.ad 82), .int x1, .int x2] (some (.int r)) μf μ := Mth.of hA (by decide) rfl (Nat.le_of_ble_eq_true rfl) (fun p e s0 m args below meth c C => w_X8_beside C x1 x2 μ hF)
set_option maxHeartbeats 4000000 in
theorem w_X8_call {G : Gl} {p : Program} {l : Launch} {e : Env} {s0 : State} {m : MethodId} {args : Array Value} {below : List Frame} {meth : Method} {c : Code} (C : Cx G p s0 m args meth c cX8_call 5 RX8 (some .int)) {r : Int32} {μf : Mu}  (x1 : Int32) (x2 : Int32) (x3 : Int32) (μ : Mu) (hF : f_X8_call x1 x2 x3 μ = some (r, μf)) : X G p l e 2 46 s0 m args below meth c 5 (some (.int r)) μf μ 0 [(0, .ref (G.ad 82)), (1, .int x1), (2, .int x2), (3, .int x3)] [] := by
  unfold f_X8_call at hF
  refine x_aload_n C 0 dX8_call_0 rfl rfl ?_
  refine x_iload_n C 1 dX8_call_1 rfl rfl ?_
  obtain ⟨q1, hq1, hF⟩ := f_bind hF
  refine x_cVi (rest := []) C (c_X8_noNote l C.2.2.2.2.2.2.2.2 x1 μ hq1) cw_X8_239 sh_82 rfl rfl ⟨by decide, by decide⟩ rfl rfl (Nat.le_of_ble_eq_true rfl) dX8_call_2 ?_
  refine x_if_ne (tgt := 16) C dX8_call_5 (by decide) (fun hc => ?_) (fun hc => ?_)
  · replace hF := f_f hc hF
    refine x_sipush (v := (-1001)) C dX8_call_16 (by decide) ?_
    exact x_iret C dX8_call_19 (Prod.mk.inj (Option.some.inj hF)).1 (Prod.mk.inj (Option.some.inj hF)).2
  · replace hF := f_t hc hF
    refine x_aload_n C 0 dX8_call_8 rfl rfl ?_
    refine x_iload_n C 2 dX8_call_9 rfl rfl ?_
    refine x_cVi (rest := []) C (c_X8_noWork l C.2.2.2.2.2.2.2.2 x2 μ) cw_X8_147 sh_82 rfl rfl ⟨by decide, by decide⟩ rfl rfl (Nat.le_of_ble_eq_true rfl) dX8_call_10 ?_
    refine x_if_eq (tgt := 20) C dX8_call_13 (by decide) (fun hc => ?_) (fun hc => ?_)
    · replace hF := f_t hc hF
      refine x_iload_n C 3 dX8_call_20 rfl rfl ?_
      refine x_i2l C dX8_call_21 ?_
      refine x_ldc2 C cl_X8_242 dX8_call_22 ?_
      refine x_ldc2 C cl_X8_151 dX8_call_25 ?_
      refine x_cSi (rest := []) C (c_X8_in l C.2.2.2.2.2.2.2.2 ((x3 : Int32).toInt64) (-1) 9999 μ) cw_X8_127 ⟨by decide, by decide⟩ rfl rfl (Nat.le_of_ble_eq_true rfl) dX8_call_28 ?_
      refine x_if_ne (tgt := 38) C dX8_call_31 (by decide) (fun hc => ?_) (fun hc => ?_)
      · replace hF := f_f hc hF
        refine x_sipush (v := 160) C dX8_call_38 (by decide) ?_
        refine x_iload_n C 1 dX8_call_41 rfl rfl ?_
        refine x_iadd C dX8_call_42 ?_
        refine x_letI hF (fun y2 hF => ?_)
        refine x_istore C [(4, .int y2), (0, .ref (G.ad 82)), (1, .int x1), (2, .int x2), (3, .int x3)] dX8_call_43 (by decide) rfl ?_
        refine x_aload_n C 1 dX8_call_45 rfl rfl ?_
        refine x_getR C fc_X8 fl_X8_40 sh_82 (by decide) rfl dX8_call_46 ?_
        refine x_iload C 0 dX8_call_49 rfl ?_
        obtain ⟨hi3, hF⟩ := f_chk hF
        refine x_iald C sh_93 hi3 dX8_call_51 ?_
        refine x_iconst (v := 5) C dX8_call_52 (by decide) ?_
        refine x_icmp_eq (tgt := 65) C dX8_call_53 (by decide) (fun hc => ?_) (fun hc => ?_)
        · replace hF := f_t hc hF
          refine x_sipush (v := (-1004)) C dX8_call_65 (by decide) ?_
          exact x_iret C dX8_call_68 (Prod.mk.inj (Option.some.inj hF)).1 (Prod.mk.inj (Option.some.inj hF)).2
        · replace hF := f_f hc hF
          refine x_aload_n C 1 dX8_call_56 rfl rfl ?_
          refine x_getI C fc_X8 fl_X8_161 sh_82 (by decide) rfl dX8_call_57 ?_
          refine x_bipush (v := 100) C dX8_call_60 (by decide) ?_
          refine x_icmp_ne (tgt := 69) C dX8_call_62 (by decide) (fun hc => ?_) (fun hc => ?_)
          · replace hF := f_f hc hF
            refine x_aload_n C 1 dX8_call_69 rfl rfl ?_
            refine x_getR C fc_X8 fl_X8_57 sh_82 (by decide) rfl dX8_call_70 ?_
            refine x_aload_n C 1 dX8_call_73 rfl rfl ?_
            refine x_getI C fc_X8 fl_X8_161 sh_82 (by decide) rfl dX8_call_74 ?_
            refine x_iload_n C 3 dX8_call_77 rfl rfl ?_
            obtain ⟨hi4, hF⟩ := f_chk hF
            refine x_iast C sh_97 hi4 dX8_call_78 ?_
            refine x_letM hF (fun μ5 hF => ?_)
            refine x_aload_n C 1 dX8_call_79 rfl rfl ?_
            refine x_getR C fc_X8 fl_X8_60 sh_82 (by decide) rfl dX8_call_80 ?_
            refine x_aload_n C 1 dX8_call_83 rfl rfl ?_
            refine x_getI C fc_X8 fl_X8_161 sh_82 (by decide) rfl dX8_call_84 ?_
            refine x_iload_n C 4 dX8_call_87 rfl rfl ?_
            obtain ⟨hi6, hF⟩ := f_chk hF
            refine x_iast C sh_98 hi6 dX8_call_88 ?_
            refine x_letM hF (fun μ7 hF => ?_)
            refine x_aload_n C 1 dX8_call_89 rfl rfl ?_
            refine x_getR C fc_X8 fl_X8_43 sh_82 (by decide) rfl dX8_call_90 ?_
            refine x_iconst (v := 5) C dX8_call_93 (by decide) ?_
            refine x_iload C 0 dX8_call_94 rfl ?_
            refine x_imul C dX8_call_96 ?_
            refine x_aload_n C 1 dX8_call_97 rfl rfl ?_
            refine x_getR C fc_X8 fl_X8_40 sh_82 (by decide) rfl dX8_call_98 ?_
            refine x_iload C 0 dX8_call_101 rfl ?_
            refine x_iald C sh_93 hi3 dX8_call_103 ?_
            refine x_iadd C dX8_call_104 ?_
            refine x_aload_n C 1 dX8_call_105 rfl rfl ?_
            refine x_getI C fc_X8 fl_X8_161 sh_82 (by decide) rfl dX8_call_106 ?_
            obtain ⟨hi8, hF⟩ := f_chk hF
            refine x_iast C sh_94 hi8 dX8_call_109 ?_
            refine x_letM hF (fun μ9 hF => ?_)
            refine x_aload_n C 1 dX8_call_110 rfl rfl ?_
            refine x_getR C fc_X8 fl_X8_40 sh_82 (by decide) rfl dX8_call_111 ?_
            refine x_iload C 0 dX8_call_114 rfl ?_
            refine x_dup2 C dX8_call_116 rfl rfl ?_
            refine x_iald C sh_93 hi3 dX8_call_117 ?_
            refine x_iconst (v := 1) C dX8_call_118 (by decide) ?_
            refine x_iadd C dX8_call_119 ?_
            refine x_iast C sh_93 hi3 dX8_call_120 ?_
            refine x_letM hF (fun μ10 hF => ?_)
            refine x_aload_n C 1 dX8_call_121 rfl rfl ?_
            refine x_dup C dX8_call_122 rfl ?_
            refine x_getI C fc_X8 fl_X8_161 sh_82 (by decide) rfl dX8_call_123 ?_
            refine x_iconst (v := 1) C dX8_call_126 (by decide) ?_
            refine x_iadd C dX8_call_127 ?_
            refine x_putI C fc_X8 fl_X8_161 sh_82 (by decide) rfl rfl rfl ⟨rfl, rfl⟩ dX8_call_128 ?_
            refine x_letM hF (fun μ11 hF => ?_)
            refine x_aload_n C 1 dX8_call_131 rfl rfl ?_
            refine x_getI C fc_X8 fl_X8_161 sh_82 (by decide) rfl dX8_call_132 ?_
            refine x_iconst (v := 1) C dX8_call_135 (by decide) ?_
            refine x_isub C dX8_call_136 ?_
            exact x_iret C dX8_call_137 (Prod.mk.inj (Option.some.inj hF)).1 (Prod.mk.inj (Option.some.inj hF)).2
          · replace hF := f_t hc hF
            refine x_sipush (v := (-1004)) C dX8_call_65 (by decide) ?_
            exact x_iret C dX8_call_68 (Prod.mk.inj (Option.some.inj hF)).1 (Prod.mk.inj (Option.some.inj hF)).2
      · replace hF := f_t hc hF
        refine x_sipush (v := (-1002)) C dX8_call_34 (by decide) ?_
        exact x_iret C dX8_call_37 (Prod.mk.inj (Option.some.inj hF)).1 (Prod.mk.inj (Option.some.inj hF)).2
    · replace hF := f_f hc hF
      refine x_sipush (v := (-1001)) C dX8_call_16 (by decide) ?_
      exact x_iret C dX8_call_19 (Prod.mk.inj (Option.some.inj hF)).1 (Prod.mk.inj (Option.some.inj hF)).2
set_option maxHeartbeats 4000000 in
theorem c_X8_call {G : Gl} (l : Launch) (hA : Ap G) {r : Int32} {μf : Mu}  (x1 : Int32) (x2 : Int32) (x3 : Int32) (μ : Mu) (hF : f_X8_call x1 x2 x3 μ = some (r, μf)) : Mth G l yX8_call cX8_call 5 (some .int) 2 46 [.ref (G.ad 82), .int x1, .int x2, .int x3] (some (.int r)) μf μ := Mth.of hA (by decide) rfl (Nat.le_of_ble_eq_true rfl) (fun p e s0 m args below meth c C => w_X8_call C x1 x2 x3 μ hF)
set_option maxHeartbeats 4000000 in
theorem w_X8_copyNote_L22 {G : Gl} {p : Program} {l : Launch} {e : Env} {s0 : State} {m : MethodId} {args : Array Value} {below : List Frame} {meth : Method} {c : Code} (C : Cx G p s0 m args meth c cX8_copyNote 4 RX8 none) {μf : Mu}  : ∀ (n : Nat) (x1 : Int32) (x2 : Int32) (x3 : Int32) (μ : Mu), f_X8_copyNote_L22 n x1 x2 x3 μ = some μf → X G p l e 0 0 s0 m args below meth c 4 none μf μ 22 [(0, .ref (G.ad 82)), (1, .int x1), (2, .int x2), (3, .int x3)] [] := by
  intro n
  induction n with
  | zero =>
    intro x1 x2 x3 μ hF
    rw [f_X8_copyNote_L22] at hF
    cases hF
  | succ n ih =>
    intro x1 x2 x3 μ hF
    rw [f_X8_copyNote_L22] at hF
    refine x_iload_n C 3 dX8_copyNote_22 rfl rfl ?_
    refine x_iconst (v := 5) C dX8_copyNote_23 (by decide) ?_
    refine x_icmp_ge (tgt := 61) C dX8_copyNote_24 (by decide) (fun hc => ?_) (fun hc => ?_)
    · replace hF := f_t hc hF
      exact x_vret C dX8_copyNote_61 (Option.some.inj hF)
    · replace hF := f_f hc hF
      refine x_aload_n C 0 dX8_copyNote_27 rfl rfl ?_
      refine x_getR C fc_X8 fl_X8_43 sh_82 (by decide) rfl dX8_copyNote_28 ?_
      refine x_iconst (v := 5) C dX8_copyNote_31 (by decide) ?_
      refine x_sipush (v := 160) C dX8_copyNote_32 (by decide) ?_
      refine x_iload_n C 2 dX8_copyNote_35 rfl rfl ?_
      refine x_iadd C dX8_copyNote_36 ?_
      refine x_imul C dX8_copyNote_37 ?_
      refine x_iload_n C 3 dX8_copyNote_38 rfl rfl ?_
      refine x_iadd C dX8_copyNote_39 ?_
      refine x_aload_n C 0 dX8_copyNote_40 rfl rfl ?_
      refine x_getR C fc_X8 fl_X8_43 sh_82 (by decide) rfl dX8_copyNote_41 ?_
      refine x_iconst (v := 5) C dX8_copyNote_44 (by decide) ?_
      refine x_sipush (v := 160) C dX8_copyNote_45 (by decide) ?_
      refine x_iload_n C 1 dX8_copyNote_48 rfl rfl ?_
      refine x_iadd C dX8_copyNote_49 ?_
      refine x_imul C dX8_copyNote_50 ?_
      refine x_iload_n C 3 dX8_copyNote_51 rfl rfl ?_
      refine x_iadd C dX8_copyNote_52 ?_
      obtain ⟨hi1, hF⟩ := f_chk hF
      refine x_iald C sh_94 hi1 dX8_copyNote_53 ?_
      obtain ⟨hi2, hF⟩ := f_chk hF
      refine x_iast C sh_94 hi2 dX8_copyNote_54 ?_
      refine x_letM hF (fun μ3 hF => ?_)
      refine x_iinc C [(3, .int (x3 + 1)), (0, .ref (G.ad 82)), (1, .int x1), (2, .int x2)] 3 dX8_copyNote_55 rfl rfl (by decide) rfl ?_
      refine x_goto (tgt := 22) C dX8_copyNote_58 (by decide) ?_
      exact x_pick [(0, .ref (G.ad 82)), (1, .int x1), (2, .int x2), (3, .int (x3 + 1))] [1, 2, 3, 0] rfl (ih x1 x2 (x3 + 1) μ3 hF)
set_option maxHeartbeats 4000000 in
theorem w_X8_copyNote {G : Gl} {p : Program} {l : Launch} {e : Env} {s0 : State} {m : MethodId} {args : Array Value} {below : List Frame} {meth : Method} {c : Code} (C : Cx G p s0 m args meth c cX8_copyNote 4 RX8 none) {μf : Mu}  (x1 : Int32) (x2 : Int32) (μ : Mu) (hF : f_X8_copyNote x1 x2 μ = some μf) : X G p l e 0 0 s0 m args below meth c 4 none μf μ 0 [(0, .ref (G.ad 82)), (1, .int x1), (2, .int x2)] [] := by
  unfold f_X8_copyNote at hF
  refine x_aload_n C 0 dX8_copyNote_0 rfl rfl ?_
  refine x_getR C fc_X8 fl_X8_40 sh_82 (by decide) rfl dX8_copyNote_1 ?_
  refine x_sipush (v := 160) C dX8_copyNote_4 (by decide) ?_
  refine x_iload_n C 2 dX8_copyNote_7 rfl rfl ?_
  refine x_iadd C dX8_copyNote_8 ?_
  refine x_aload_n C 0 dX8_copyNote_9 rfl rfl ?_
  refine x_getR C fc_X8 fl_X8_40 sh_82 (by decide) rfl dX8_copyNote_10 ?_
  refine x_sipush (v := 160) C dX8_copyNote_13 (by decide) ?_
  refine x_iload_n C 1 dX8_copyNote_16 rfl rfl ?_
  refine x_iadd C dX8_copyNote_17 ?_
  obtain ⟨hi1, hF⟩ := f_chk hF
  refine x_iald C sh_93 hi1 dX8_copyNote_18 ?_
  obtain ⟨hi2, hF⟩ := f_chk hF
  refine x_iast C sh_93 hi2 dX8_copyNote_19 ?_
  refine x_letM hF (fun μ3 hF => ?_)
  refine x_iconst (v := 0) C dX8_copyNote_20 (by decide) ?_
  refine x_istore_n C [(3, .int 0), (0, .ref (G.ad 82)), (1, .int x1), (2, .int x2)] dX8_copyNote_21 rfl (by decide) rfl ?_
  exact x_pick [(0, .ref (G.ad 82)), (1, .int x1), (2, .int x2), (3, .int 0)] [1, 2, 3, 0] rfl (w_X8_copyNote_L22 C fu x1 x2 0 μ3 hF)
set_option maxHeartbeats 4000000 in
theorem c_X8_copyNote {G : Gl} (l : Launch) (hA : Ap G) {μf : Mu}  (x1 : Int32) (x2 : Int32) (μ : Mu) (hF : f_X8_copyNote x1 x2 μ = some μf) : Mth G l yX8_copyNote cX8_copyNote 4 none 0 0 [.ref (G.ad 82), .int x1, .int x2] none μf μ := Mth.of hA (by decide) rfl (Nat.le_of_ble_eq_true rfl) (fun p e s0 m args below meth c C => w_X8_copyNote C x1 x2 μ hF)
set_option maxHeartbeats 4000000 in
theorem w_X8_unclear_L4 {G : Gl} {p : Program} {l : Launch} {e : Env} {s0 : State} {m : MethodId} {args : Array Value} {below : List Frame} {meth : Method} {c : Code} (C : Cx G p s0 m args meth c cX8_unclear 3 RX8 (some .int)) {r : Int32}  (μ : Mu) : ∀ (n : Nat) (x1 : Int32) (x2 : Int32), f_X8_unclear_L4 μ n x1 x2 = some r → X G p l e 1 20 s0 m args below meth c 3 (some (.int r)) μ μ 4 [(0, .ref (G.ad 82)), (1, .int x1), (2, .int x2)] [] := by
  intro n
  induction n with
  | zero =>
    intro x1 x2 hF
    rw [f_X8_unclear_L4] at hF
    cases hF
  | succ n ih =>
    intro x1 x2 hF
    rw [f_X8_unclear_L4] at hF
    refine x_iload_n C 2 dX8_unclear_4 rfl rfl ?_
    refine x_aload_n C 0 dX8_unclear_5 rfl rfl ?_
    refine x_getI C fc_X8 fl_X8_177 sh_82 (by decide) rfl dX8_unclear_6 ?_
    refine x_icmp_ge (tgt := 57) C dX8_unclear_9 (by decide) (fun hc => ?_) (fun hc => ?_)
    · replace hF := f_t hc hF
      refine x_iload_n C 1 dX8_unclear_57 rfl rfl ?_
      exact x_iret C dX8_unclear_58 (Option.some.inj hF) rfl
    · replace hF := f_f hc hF
      refine x_iload_n C 1 dX8_unclear_12 rfl rfl ?_
      refine x_aload_n C 0 dX8_unclear_13 rfl rfl ?_
      refine x_getR C fc_X8 fl_X8_90 sh_82 (by decide) rfl dX8_unclear_14 ?_
      refine x_aload_n C 0 dX8_unclear_17 rfl rfl ?_
      refine x_getR C fc_X8 fl_X8_75 sh_82 (by decide) rfl dX8_unclear_18 ?_
      refine x_iload_n C 2 dX8_unclear_21 rfl rfl ?_
      obtain ⟨hi1, hF⟩ := f_chk hF
      refine x_iald C sh_103 hi1 dX8_unclear_22 ?_
      obtain ⟨hi2, hF⟩ := f_chk hF
      refine x_zald C sh_108 hi2 dX8_unclear_23 ?_
      refine x_if_eq (tgt := 45) C dX8_unclear_24 (by decide) (fun hc => ?_) (fun hc => ?_)
      · replace hF := f_t hc hF
        refine x_iconst (v := 0) C dX8_unclear_45 (by decide) ?_
        refine x_cSi (rest := [.int x1]) C (c_X8_one l C.2.2.2.2.2.2.2.2 0 μ) cw_X8_205 ⟨by decide, by decide⟩ rfl rfl (Nat.le_of_ble_eq_true rfl) dX8_unclear_46 ?_
        refine x_iadd C dX8_unclear_49 ?_
        refine x_letI hF (fun y3 hF => ?_)
        refine x_istore_n C [(1, .int y3), (0, .ref (G.ad 82)), (2, .int x2)] dX8_unclear_50 rfl (by decide) rfl ?_
        refine x_iinc C [(2, .int (x2 + 1)), (1, .int y3), (0, .ref (G.ad 82))] 2 dX8_unclear_51 rfl rfl (by decide) rfl ?_
        refine x_goto (tgt := 4) C dX8_unclear_54 (by decide) ?_
        exact x_pick [(0, .ref (G.ad 82)), (1, .int y3), (2, .int (x2 + 1))] [2, 1, 0] rfl (ih y3 (x2 + 1) hF)
      · replace hF := f_f hc hF
        refine x_aload_n C 0 dX8_unclear_27 rfl rfl ?_
        refine x_getR C fc_X8 fl_X8_87 sh_82 (by decide) rfl dX8_unclear_28 ?_
        refine x_aload_n C 0 dX8_unclear_31 rfl rfl ?_
        refine x_getR C fc_X8 fl_X8_75 sh_82 (by decide) rfl dX8_unclear_32 ?_
        refine x_iload_n C 2 dX8_unclear_35 rfl rfl ?_
        refine x_iald C sh_103 hi1 dX8_unclear_36 ?_
        refine x_iald C sh_107 hi2 dX8_unclear_37 ?_
        refine x_if_ne (tgt := 45) C dX8_unclear_38 (by decide) (fun hc => ?_) (fun hc => ?_)
        · replace hF := f_f hc hF
          refine x_iconst (v := 0) C dX8_unclear_45 (by decide) ?_
          refine x_cSi (rest := [.int x1]) C (c_X8_one l C.2.2.2.2.2.2.2.2 0 μ) cw_X8_205 ⟨by decide, by decide⟩ rfl rfl (Nat.le_of_ble_eq_true rfl) dX8_unclear_46 ?_
          refine x_iadd C dX8_unclear_49 ?_
          refine x_letI hF (fun y4 hF => ?_)
          refine x_istore_n C [(1, .int y4), (0, .ref (G.ad 82)), (2, .int x2)] dX8_unclear_50 rfl (by decide) rfl ?_
          refine x_iinc C [(2, .int (x2 + 1)), (1, .int y4), (0, .ref (G.ad 82))] 2 dX8_unclear_51 rfl rfl (by decide) rfl ?_
          refine x_goto (tgt := 4) C dX8_unclear_54 (by decide) ?_
          exact x_pick [(0, .ref (G.ad 82)), (1, .int y4), (2, .int (x2 + 1))] [2, 1, 0] rfl (ih y4 (x2 + 1) hF)
        · replace hF := f_t hc hF
          refine x_iconst (v := 1) C dX8_unclear_41 (by decide) ?_
          refine x_goto (tgt := 46) C dX8_unclear_42 (by decide) ?_
          refine x_cSi (rest := [.int x1]) C (c_X8_one l C.2.2.2.2.2.2.2.2 1 μ) cw_X8_205 ⟨by decide, by decide⟩ rfl rfl (Nat.le_of_ble_eq_true rfl) dX8_unclear_46 ?_
          refine x_iadd C dX8_unclear_49 ?_
          refine x_letI hF (fun y5 hF => ?_)
          refine x_istore_n C [(1, .int y5), (0, .ref (G.ad 82)), (2, .int x2)] dX8_unclear_50 rfl (by decide) rfl ?_
          refine x_iinc C [(2, .int (x2 + 1)), (1, .int y5), (0, .ref (G.ad 82))] 2 dX8_unclear_51 rfl rfl (by decide) rfl ?_
          refine x_goto (tgt := 4) C dX8_unclear_54 (by decide) ?_
          exact x_pick [(0, .ref (G.ad 82)), (1, .int y5), (2, .int (x2 + 1))] [2, 1, 0] rfl (ih y5 (x2 + 1) hF)
set_option maxHeartbeats 4000000 in
theorem w_X8_unclear {G : Gl} {p : Program} {l : Launch} {e : Env} {s0 : State} {m : MethodId} {args : Array Value} {below : List Frame} {meth : Method} {c : Code} (C : Cx G p s0 m args meth c cX8_unclear 3 RX8 (some .int)) {r : Int32}  (μ : Mu) (hF : f_X8_unclear μ = some r) : X G p l e 1 20 s0 m args below meth c 3 (some (.int r)) μ μ 0 [(0, .ref (G.ad 82))] [] := by
  unfold f_X8_unclear at hF
  refine x_iconst (v := 0) C dX8_unclear_0 (by decide) ?_
  refine x_istore_n C [(1, .int 0), (0, .ref (G.ad 82))] dX8_unclear_1 rfl (by decide) rfl ?_
  refine x_iconst (v := 0) C dX8_unclear_2 (by decide) ?_
  refine x_istore_n C [(2, .int 0), (1, .int 0), (0, .ref (G.ad 82))] dX8_unclear_3 rfl (by decide) rfl ?_
  exact x_pick [(0, .ref (G.ad 82)), (1, .int 0), (2, .int 0)] [2, 1, 0] rfl (w_X8_unclear_L4 C μ fu 0 0 hF)
set_option maxHeartbeats 4000000 in
theorem c_X8_unclear {G : Gl} (l : Launch) (hA : Ap G) {r : Int32}  (μ : Mu) (hF : f_X8_unclear μ = some r) : Mth G l yX8_unclear cX8_unclear 3 (some .int) 1 20 [.ref (G.ad 82)] (some (.int r)) μ μ := Mth.of hA (by decide) rfl (Nat.le_of_ble_eq_true rfl) (fun p e s0 m args below meth c C => w_X8_unclear C μ hF)
set_option maxHeartbeats 4000000 in
theorem w_X8_roomAll_L4 {G : Gl} {p : Program} {l : Launch} {e : Env} {s0 : State} {m : MethodId} {args : Array Value} {below : List Frame} {meth : Method} {c : Code} (C : Cx G p s0 m args meth c cX8_roomAll 3 RX8 (some .int)) {r : Int32}  (μ : Mu) : ∀ (n : Nat) (x1 : Int32) (x2 : Int32), f_X8_roomAll_L4 μ n x1 x2 = some r → X G p l e 2 42 s0 m args below meth c 3 (some (.int r)) μ μ 4 [(0, .ref (G.ad 82)), (1, .int x1), (2, .int x2)] [] := by
  intro n
  induction n with
  | zero =>
    intro x1 x2 hF
    rw [f_X8_roomAll_L4] at hF
    cases hF
  | succ n ih =>
    intro x1 x2 hF
    rw [f_X8_roomAll_L4] at hF
    refine x_iload_n C 2 dX8_roomAll_4 rfl rfl ?_
    refine x_aload_n C 0 dX8_roomAll_5 rfl rfl ?_
    refine x_getI C fc_X8 fl_X8_177 sh_82 (by decide) rfl dX8_roomAll_6 ?_
    refine x_icmp_ge (tgt := 31) C dX8_roomAll_9 (by decide) (fun hc => ?_) (fun hc => ?_)
    · replace hF := f_t hc hF
      refine x_iload_n C 1 dX8_roomAll_31 rfl rfl ?_
      exact x_iret C dX8_roomAll_32 (Option.some.inj hF) rfl
    · replace hF := f_f hc hF
      refine x_iload_n C 1 dX8_roomAll_12 rfl rfl ?_
      refine x_aload_n C 0 dX8_roomAll_13 rfl rfl ?_
      refine x_aload_n C 0 dX8_roomAll_14 rfl rfl ?_
      refine x_getR C fc_X8 fl_X8_75 sh_82 (by decide) rfl dX8_roomAll_15 ?_
      refine x_iload_n C 2 dX8_roomAll_18 rfl rfl ?_
      obtain ⟨hi1, hF⟩ := f_chk hF
      refine x_iald C sh_103 hi1 dX8_roomAll_19 ?_
      obtain ⟨q2, hq2, hF⟩ := f_bind hF
      refine x_cVi (rest := [.int x1]) C (c_X8_roomOf l C.2.2.2.2.2.2.2.2 (μ 103 (ix x2)) μ hq2) cw_X8_218 sh_82 rfl rfl ⟨by decide, by decide⟩ rfl rfl (Nat.le_of_ble_eq_true rfl) dX8_roomAll_20 ?_
      refine x_iadd C dX8_roomAll_23 ?_
      refine x_letI hF (fun y3 hF => ?_)
      refine x_istore_n C [(1, .int y3), (0, .ref (G.ad 82)), (2, .int x2)] dX8_roomAll_24 rfl (by decide) rfl ?_
      refine x_iinc C [(2, .int (x2 + 1)), (1, .int y3), (0, .ref (G.ad 82))] 2 dX8_roomAll_25 rfl rfl (by decide) rfl ?_
      refine x_goto (tgt := 4) C dX8_roomAll_28 (by decide) ?_
      exact x_pick [(0, .ref (G.ad 82)), (1, .int y3), (2, .int (x2 + 1))] [2, 1, 0] rfl (ih y3 (x2 + 1) hF)
set_option maxHeartbeats 4000000 in
theorem w_X8_roomAll {G : Gl} {p : Program} {l : Launch} {e : Env} {s0 : State} {m : MethodId} {args : Array Value} {below : List Frame} {meth : Method} {c : Code} (C : Cx G p s0 m args meth c cX8_roomAll 3 RX8 (some .int)) {r : Int32}  (μ : Mu) (hF : f_X8_roomAll μ = some r) : X G p l e 2 42 s0 m args below meth c 3 (some (.int r)) μ μ 0 [(0, .ref (G.ad 82))] [] := by
  unfold f_X8_roomAll at hF
  refine x_iconst (v := 0) C dX8_roomAll_0 (by decide) ?_
  refine x_istore_n C [(1, .int 0), (0, .ref (G.ad 82))] dX8_roomAll_1 rfl (by decide) rfl ?_
  refine x_iconst (v := 0) C dX8_roomAll_2 (by decide) ?_
  refine x_istore_n C [(2, .int 0), (1, .int 0), (0, .ref (G.ad 82))] dX8_roomAll_3 rfl (by decide) rfl ?_
  exact x_pick [(0, .ref (G.ad 82)), (1, .int 0), (2, .int 0)] [2, 1, 0] rfl (w_X8_roomAll_L4 C μ fu 0 0 hF)
set_option maxHeartbeats 4000000 in
theorem c_X8_roomAll {G : Gl} (l : Launch) (hA : Ap G) {r : Int32}  (μ : Mu) (hF : f_X8_roomAll μ = some r) : Mth G l yX8_roomAll cX8_roomAll 3 (some .int) 2 42 [.ref (G.ad 82)] (some (.int r)) μ μ := Mth.of hA (by decide) rfl (Nat.le_of_ble_eq_true rfl) (fun p e s0 m args below meth c C => w_X8_roomAll C μ hF)
set_option maxHeartbeats 4000000 in
theorem w_X8_count_b40 {G : Gl} {p : Program} {l : Launch} {e : Env} {s0 : State} {m : MethodId} {args : Array Value} {below : List Frame} {meth : Method} {c : Code} (C : Cx G p s0 m args meth c cX8_count 5 RX8 (some .int)) {r : Int32} {μf : Mu}  {k12 : Int32 → Int32 → Int32 → Int32 → Mu → Option (Int32 × Mu)} (hk12 : ∀ (x1 : Int32) (x2 : Int32) (x3 : Int32) (x4 : Int32) (μ : Mu), k12 x1 x2 x3 x4 μ = some (r, μf) → X G p l e 5 117 s0 m args below meth c 5 (some (.int r)) μf μ 12 [(0, .ref (G.ad 82)), (1, .int x1), (2, .int x2), (3, .int x3), (4, .int x4)] []) (x1 : Int32) (x3 : Int32) (x4 : Int32) (t0 : Int32) (t1 : Int32) (μ : Mu) (hF : f_X8_count_b40 k12 x1 x3 x4 t0 t1 μ = some (r, μf)) : X G p l e 5 117 s0 m args below meth c 5 (some (.int r)) μf μ 40 [(0, .ref (G.ad 82)), (1, .int x1), (3, .int x3), (4, .int x4)] [.int t1, .int t0] := by
  unfold f_X8_count_b40 at hF
  refine x_cSi (rest := [.int t0]) C (c_X8_one l C.2.2.2.2.2.2.2.2 t1 μ) cw_X8_205 ⟨by decide, by decide⟩ rfl rfl (Nat.le_of_ble_eq_true rfl) dX8_count_40 ?_
  refine x_iadd C dX8_count_43 ?_
  refine x_letI hF (fun y1 hF => ?_)
  refine x_istore_n C [(2, .int y1), (0, .ref (G.ad 82)), (1, .int x1), (3, .int x3), (4, .int x4)] dX8_count_44 rfl (by decide) rfl ?_
  refine x_iload_n C 3 dX8_count_45 rfl rfl ?_
  refine x_aload_n C 1 dX8_count_46 rfl rfl ?_
  refine x_getR C fc_X8 fl_X8_87 sh_82 (by decide) rfl dX8_count_47 ?_
  refine x_iload C 4 dX8_count_50 rfl ?_
  obtain ⟨hi2, hF⟩ := f_chk hF
  refine x_iald C sh_107 hi2 dX8_count_52 ?_
  refine x_if_le (tgt := 60) C dX8_count_53 (by decide) (fun hc => ?_) (fun hc => ?_)
  · replace hF := f_t hc hF
    refine x_iconst (v := 0) C dX8_count_60 (by decide) ?_
    refine x_cSi (rest := [.int x3]) C (c_X8_one l C.2.2.2.2.2.2.2.2 0 μ) cw_X8_205 ⟨by decide, by decide⟩ rfl rfl (Nat.le_of_ble_eq_true rfl) dX8_count_61 ?_
    refine x_iadd C dX8_count_64 ?_
    refine x_letI hF (fun y3 hF => ?_)
    refine x_istore_n C [(3, .int y3), (2, .int y1), (0, .ref (G.ad 82)), (1, .int x1), (4, .int x4)] dX8_count_65 rfl (by decide) rfl ?_
    refine x_iinc C [(4, .int (x4 + 1)), (3, .int y3), (2, .int y1), (0, .ref (G.ad 82)), (1, .int x1)] 4 dX8_count_66 rfl rfl (by decide) rfl ?_
    refine x_goto (tgt := 12) C dX8_count_69 (by decide) ?_
    exact x_pick [(0, .ref (G.ad 82)), (1, .int x1), (2, .int y1), (3, .int y3), (4, .int (x4 + 1))] [3, 4, 2, 1, 0] rfl (hk12 x1 y1 y3 (x4 + 1) μ hF)
  · replace hF := f_f hc hF
    refine x_iconst (v := 1) C dX8_count_56 (by decide) ?_
    refine x_goto (tgt := 61) C dX8_count_57 (by decide) ?_
    refine x_cSi (rest := [.int x3]) C (c_X8_one l C.2.2.2.2.2.2.2.2 1 μ) cw_X8_205 ⟨by decide, by decide⟩ rfl rfl (Nat.le_of_ble_eq_true rfl) dX8_count_61 ?_
    refine x_iadd C dX8_count_64 ?_
    refine x_letI hF (fun y4 hF => ?_)
    refine x_istore_n C [(3, .int y4), (2, .int y1), (0, .ref (G.ad 82)), (1, .int x1), (4, .int x4)] dX8_count_65 rfl (by decide) rfl ?_
    refine x_iinc C [(4, .int (x4 + 1)), (3, .int y4), (2, .int y1), (0, .ref (G.ad 82)), (1, .int x1)] 4 dX8_count_66 rfl rfl (by decide) rfl ?_
    refine x_goto (tgt := 12) C dX8_count_69 (by decide) ?_
    exact x_pick [(0, .ref (G.ad 82)), (1, .int x1), (2, .int y1), (3, .int y4), (4, .int (x4 + 1))] [3, 4, 2, 1, 0] rfl (hk12 x1 y1 y4 (x4 + 1) μ hF)
set_option maxHeartbeats 4000000 in
theorem w_X8_count_L12 {G : Gl} {p : Program} {l : Launch} {e : Env} {s0 : State} {m : MethodId} {args : Array Value} {below : List Frame} {meth : Method} {c : Code} (C : Cx G p s0 m args meth c cX8_count 5 RX8 (some .int)) {r : Int32} {μf : Mu}  : ∀ (n : Nat) (x1 : Int32) (x2 : Int32) (x3 : Int32) (x4 : Int32) (μ : Mu), f_X8_count_L12 n x1 x2 x3 x4 μ = some (r, μf) → X G p l e 5 117 s0 m args below meth c 5 (some (.int r)) μf μ 12 [(0, .ref (G.ad 82)), (1, .int x1), (2, .int x2), (3, .int x3), (4, .int x4)] [] := by
  intro n
  induction n with
  | zero =>
    intro x1 x2 x3 x4 μ hF
    rw [f_X8_count_L12] at hF
    cases hF
  | succ n ih =>
    intro x1 x2 x3 x4 μ hF
    rw [f_X8_count_L12] at hF
    refine x_iload C 4 dX8_count_12 rfl ?_
    refine x_aload_n C 0 dX8_count_14 rfl rfl ?_
    refine x_getI C fc_X8 fl_X8_124 sh_82 (by decide) rfl dX8_count_15 ?_
    refine x_icmp_ge (tgt := 72) C dX8_count_18 (by decide) (fun hc => ?_) (fun hc => ?_)
    · replace hF := f_t hc hF
      refine x_iload_n C 1 dX8_count_72 rfl rfl ?_
      by_cases hs0 : x1 = 0
      · replace hF := f_t hs0 hF
        refine x_tableIn (tgt := 124) (off := 51) C dX8_count_73 (by rw [hs0]; decide) (by rw [hs0]; decide) (by rw [hs0]; decide +kernel) (by decide) ?_
        refine x_aload_n C 0 dX8_count_124 rfl rfl ?_
        refine x_getI C fc_X8 fl_X8_124 sh_82 (by decide) rfl dX8_count_125 ?_
        exact x_iret C dX8_count_128 (Prod.mk.inj (Option.some.inj hF)).1 (Prod.mk.inj (Option.some.inj hF)).2
      · replace hF := f_f hs0 hF
        by_cases hs1 : x1 = 1
        · replace hF := f_t hs1 hF
          refine x_tableIn (tgt := 129) (off := 56) C dX8_count_73 (by rw [hs1]; decide) (by rw [hs1]; decide) (by rw [hs1]; decide +kernel) (by decide) ?_
          refine x_iload_n C 2 dX8_count_129 rfl rfl ?_
          exact x_iret C dX8_count_130 (Prod.mk.inj (Option.some.inj hF)).1 (Prod.mk.inj (Option.some.inj hF)).2
        · replace hF := f_f hs1 hF
          by_cases hs2 : x1 = 2
          · replace hF := f_t hs2 hF
            refine x_tableIn (tgt := 131) (off := 58) C dX8_count_73 (by rw [hs2]; decide) (by rw [hs2]; decide) (by rw [hs2]; decide +kernel) (by decide) ?_
            refine x_aload_n C 0 dX8_count_131 rfl rfl ?_
            refine x_getR C fc_X8 fl_X8_37 sh_82 (by decide) rfl dX8_count_132 ?_
            refine x_iconst (v := 4) C dX8_count_135 (by decide) ?_
            refine x_iald C sh_92 (by decide) dX8_count_136 ?_
            exact x_iret C dX8_count_137 (Prod.mk.inj (Option.some.inj hF)).1 (Prod.mk.inj (Option.some.inj hF)).2
          · replace hF := f_f hs2 hF
            by_cases hs3 : x1 = 3
            · replace hF := f_t hs3 hF
              refine x_tableIn (tgt := 138) (off := 65) C dX8_count_73 (by rw [hs3]; decide) (by rw [hs3]; decide) (by rw [hs3]; decide +kernel) (by decide) ?_
              refine x_aload_n C 0 dX8_count_138 rfl rfl ?_
              refine x_getI C fc_X8 fl_X8_158 sh_82 (by decide) rfl dX8_count_139 ?_
              exact x_iret C dX8_count_142 (Prod.mk.inj (Option.some.inj hF)).1 (Prod.mk.inj (Option.some.inj hF)).2
            · replace hF := f_f hs3 hF
              by_cases hs4 : x1 = 4
              · replace hF := f_t hs4 hF
                refine x_tableIn (tgt := 143) (off := 70) C dX8_count_73 (by rw [hs4]; decide) (by rw [hs4]; decide) (by rw [hs4]; decide +kernel) (by decide) ?_
                refine x_aload_n C 0 dX8_count_143 rfl rfl ?_
                refine x_getI C fc_X8 fl_X8_177 sh_82 (by decide) rfl dX8_count_144 ?_
                exact x_iret C dX8_count_147 (Prod.mk.inj (Option.some.inj hF)).1 (Prod.mk.inj (Option.some.inj hF)).2
              · replace hF := f_f hs4 hF
                by_cases hs5 : x1 = 5
                · replace hF := f_t hs5 hF
                  refine x_tableIn (tgt := 148) (off := 75) C dX8_count_73 (by rw [hs5]; decide) (by rw [hs5]; decide) (by rw [hs5]; decide +kernel) (by decide) ?_
                  refine x_aload_n C 0 dX8_count_148 rfl rfl ?_
                  obtain ⟨q1, hq1, hF⟩ := f_bind hF
                  refine x_cVi (rest := []) C (c_X8_unclear l C.2.2.2.2.2.2.2.2 μ hq1) cw_X8_256 sh_82 rfl rfl ⟨by decide, by decide⟩ rfl rfl (Nat.le_of_ble_eq_true rfl) dX8_count_149 ?_
                  exact x_iret C dX8_count_152 (Prod.mk.inj (Option.some.inj hF)).1 (Prod.mk.inj (Option.some.inj hF)).2
                · replace hF := f_f hs5 hF
                  by_cases hs6 : x1 = 6
                  · replace hF := f_t hs6 hF
                    refine x_tableIn (tgt := 153) (off := 80) C dX8_count_73 (by rw [hs6]; decide) (by rw [hs6]; decide) (by rw [hs6]; decide +kernel) (by decide) ?_
                    refine x_iload_n C 3 dX8_count_153 rfl rfl ?_
                    exact x_iret C dX8_count_154 (Prod.mk.inj (Option.some.inj hF)).1 (Prod.mk.inj (Option.some.inj hF)).2
                  · replace hF := f_f hs6 hF
                    by_cases hs7 : x1 = 7
                    · replace hF := f_t hs7 hF
                      refine x_tableIn (tgt := 155) (off := 82) C dX8_count_73 (by rw [hs7]; decide) (by rw [hs7]; decide) (by rw [hs7]; decide +kernel) (by decide) ?_
                      refine x_aload_n C 0 dX8_count_155 rfl rfl ?_
                      obtain ⟨q2, hq2, hF⟩ := f_bind hF
                      refine x_cVi (rest := []) C (c_X8_roomAll l C.2.2.2.2.2.2.2.2 μ hq2) cw_X8_260 sh_82 rfl rfl ⟨by decide, by decide⟩ rfl rfl (Nat.le_of_ble_eq_true rfl) dX8_count_156 ?_
                      exact x_iret C dX8_count_159 (Prod.mk.inj (Option.some.inj hF)).1 (Prod.mk.inj (Option.some.inj hF)).2
                    · replace hF := f_f hs7 hF
                      by_cases hs8 : x1 = 8
                      · replace hF := f_t hs8 hF
                        refine x_tableIn (tgt := 160) (off := 87) C dX8_count_73 (by rw [hs8]; decide) (by rw [hs8]; decide) (by rw [hs8]; decide +kernel) (by decide) ?_
                        refine x_aload_n C 0 dX8_count_160 rfl rfl ?_
                        refine x_getI C fc_X8 fl_X8_263 sh_82 (by decide) rfl dX8_count_161 ?_
                        exact x_iret C dX8_count_164 (Prod.mk.inj (Option.some.inj hF)).1 (Prod.mk.inj (Option.some.inj hF)).2
                      · replace hF := f_f hs8 hF
                        refine x_tableOut (tgt := 165) C dX8_count_73 (sw_out_0_8 hs0 hs1 hs2 hs3 hs4 hs5 hs6 hs7 hs8) (by decide) ?_
                        refine x_sipush (v := (-1002)) C dX8_count_165 (by decide) ?_
                        exact x_iret C dX8_count_168 (Prod.mk.inj (Option.some.inj hF)).1 (Prod.mk.inj (Option.some.inj hF)).2
    · replace hF := f_f hc hF
      refine x_iload_n C 2 dX8_count_21 rfl rfl ?_
      refine x_aload_n C 0 dX8_count_22 rfl rfl ?_
      refine x_getR C fc_X8 fl_X8_34 sh_82 (by decide) rfl dX8_count_23 ?_
      refine x_bipush (v := 96) C dX8_count_26 (by decide) ?_
      refine x_iload C 4 dX8_count_28 rfl ?_
      refine x_iadd C dX8_count_30 ?_
      obtain ⟨hi3, hF⟩ := f_chk hF
      refine x_iald C sh_91 hi3 dX8_count_31 ?_
      refine x_if_lt (tgt := 39) C dX8_count_32 (by decide) (fun hc => ?_) (fun hc => ?_)
      · replace hF := f_t hc hF
        refine x_iconst (v := 0) C dX8_count_39 (by decide) ?_
        exact x_pick [(0, .ref (G.ad 82)), (1, .int x1), (3, .int x3), (4, .int x4)] [0, 1, 3, 4] rfl (w_X8_count_b40 C ih x1 x3 x4 x2 0 μ hF)
      · replace hF := f_f hc hF
        refine x_iconst (v := 1) C dX8_count_35 (by decide) ?_
        refine x_goto (tgt := 40) C dX8_count_36 (by decide) ?_
        exact x_pick [(0, .ref (G.ad 82)), (1, .int x1), (3, .int x3), (4, .int x4)] [0, 1, 3, 4] rfl (w_X8_count_b40 C ih x1 x3 x4 x2 1 μ hF)
set_option maxHeartbeats 4000000 in
theorem w_X8_count {G : Gl} {p : Program} {l : Launch} {e : Env} {s0 : State} {m : MethodId} {args : Array Value} {below : List Frame} {meth : Method} {c : Code} (C : Cx G p s0 m args meth c cX8_count 5 RX8 (some .int)) {r : Int32} {μf : Mu}  (x1 : Int32) (μ : Mu) (hF : f_X8_count x1 μ = some (r, μf)) : X G p l e 5 117 s0 m args below meth c 5 (some (.int r)) μf μ 0 [(0, .ref (G.ad 82)), (1, .int x1)] [] := by
  unfold f_X8_count at hF
  refine x_aload_n C 0 dX8_count_0 rfl rfl ?_
  refine x_iconst (v := 4) C dX8_count_1 (by decide) ?_
  obtain ⟨q1, hq1, hF⟩ := f_bind hF
  refine x_cVv (rest := []) C (c_X8_findAll l C.2.2.2.2.2.2.2.2 4 μ hq1) cw_X8_221 sh_82 rfl rfl ⟨by decide, by decide⟩ rfl rfl (Nat.le_of_ble_eq_true rfl) dX8_count_2 ?_
  refine x_iconst (v := 0) C dX8_count_5 (by decide) ?_
  refine x_istore_n C [(2, .int 0), (0, .ref (G.ad 82)), (1, .int x1)] dX8_count_6 rfl (by decide) rfl ?_
  refine x_iconst (v := 0) C dX8_count_7 (by decide) ?_
  refine x_istore_n C [(3, .int 0), (2, .int 0), (0, .ref (G.ad 82)), (1, .int x1)] dX8_count_8 rfl (by decide) rfl ?_
  refine x_iconst (v := 0) C dX8_count_9 (by decide) ?_
  refine x_istore C [(4, .int 0), (3, .int 0), (2, .int 0), (0, .ref (G.ad 82)), (1, .int x1)] dX8_count_10 (by decide) rfl ?_
  exact x_pick [(0, .ref (G.ad 82)), (1, .int x1), (2, .int 0), (3, .int 0), (4, .int 0)] [3, 4, 2, 1, 0] rfl (w_X8_count_L12 C fu x1 0 0 0 q1 hF)
set_option maxHeartbeats 4000000 in
theorem c_X8_count {G : Gl} (l : Launch) (hA : Ap G) {r : Int32} {μf : Mu}  (x1 : Int32) (μ : Mu) (hF : f_X8_count x1 μ = some (r, μf)) : Mth G l yX8_count cX8_count 5 (some .int) 5 117 [.ref (G.ad 82), .int x1] (some (.int r)) μf μ := Mth.of hA (by decide) rfl (Nat.le_of_ble_eq_true rfl) (fun p e s0 m args below meth c C => w_X8_count C x1 μ hF)
set_option maxHeartbeats 4000000 in
theorem w_X8_cut_L25 {G : Gl} {p : Program} {l : Launch} {e : Env} {s0 : State} {m : MethodId} {args : Array Value} {below : List Frame} {meth : Method} {c : Code} (C : Cx G p s0 m args meth c cX8_cut 4 RX8 (some .int)) {r : Int32} {μf : Mu}  : ∀ (n : Nat) (x2 : Int32) (x3 : Int32) (μ : Mu), f_X8_cut_L25 n x2 x3 μ = some (r, μf) → X G p l e 2 46 s0 m args below meth c 4 (some (.int r)) μf μ 25 [(0, .ref (G.ad 82)), (2, .int x2), (3, .int x3)] [] := by
  intro n
  induction n with
  | zero =>
    intro x2 x3 μ hF
    rw [f_X8_cut_L25] at hF
    cases hF
  | succ n ih =>
    intro x2 x3 μ hF
    rw [f_X8_cut_L25] at hF
    refine x_iload_n C 2 dX8_cut_25 rfl rfl ?_
    refine x_iconst (v := 1) C dX8_cut_26 (by decide) ?_
    refine x_iadd C dX8_cut_27 ?_
    refine x_aload_n C 0 dX8_cut_28 rfl rfl ?_
    refine x_getR C fc_X8 fl_X8_37 sh_82 (by decide) rfl dX8_cut_29 ?_
    refine x_iconst (v := 4) C dX8_cut_32 (by decide) ?_
    refine x_iald C sh_92 (by decide) dX8_cut_33 ?_
    refine x_icmp_ge (tgt := 51) C dX8_cut_34 (by decide) (fun hc => ?_) (fun hc => ?_)
    · replace hF := f_t hc hF
      refine x_aload_n C 0 dX8_cut_51 rfl rfl ?_
      refine x_getR C fc_X8 fl_X8_37 sh_82 (by decide) rfl dX8_cut_52 ?_
      refine x_iconst (v := 4) C dX8_cut_55 (by decide) ?_
      refine x_dup2 C dX8_cut_56 rfl rfl ?_
      refine x_iald C sh_92 (by decide) dX8_cut_57 ?_
      refine x_iconst (v := 1) C dX8_cut_58 (by decide) ?_
      refine x_isub C dX8_cut_59 ?_
      refine x_iast C sh_92 (by decide) dX8_cut_60 ?_
      refine x_letM hF (fun μ1 hF => ?_)
      refine x_iload_n C 1 dX8_cut_61 rfl rfl ?_
      exact x_iret C dX8_cut_62 (Prod.mk.inj (Option.some.inj hF)).1 (Prod.mk.inj (Option.some.inj hF)).2
    · replace hF := f_f hc hF
      refine x_aload_n C 0 dX8_cut_37 rfl rfl ?_
      refine x_iload_n C 2 dX8_cut_38 rfl rfl ?_
      refine x_iconst (v := 1) C dX8_cut_39 (by decide) ?_
      refine x_iadd C dX8_cut_40 ?_
      refine x_iload_n C 2 dX8_cut_41 rfl rfl ?_
      obtain ⟨q2, hq2, hF⟩ := f_bind hF
      refine x_cVv (rest := []) C (c_X8_copyNote l C.2.2.2.2.2.2.2.2 (x3 + 1) x3 μ hq2) cw_X8_235 sh_82 rfl rfl ⟨by decide, by decide⟩ rfl rfl (Nat.le_of_ble_eq_true rfl) dX8_cut_42 ?_
      refine x_iinc C [(3, .int (x3 + 1)), (0, .ref (G.ad 82)), (2, .int x2)] 2 dX8_cut_45 rfl rfl (by decide) rfl ?_
      refine x_goto (tgt := 25) C dX8_cut_48 (by decide) ?_
      exact x_pick [(0, .ref (G.ad 82)), (2, .int x2), (3, .int (x3 + 1))] [1, 2, 0] rfl (ih x2 (x3 + 1) q2 hF)
set_option maxHeartbeats 4000000 in
theorem w_X8_cut {G : Gl} {p : Program} {l : Launch} {e : Env} {s0 : State} {m : MethodId} {args : Array Value} {below : List Frame} {meth : Method} {c : Code} (C : Cx G p s0 m args meth c cX8_cut 4 RX8 (some .int)) {r : Int32} {μf : Mu}  (x1 : Int32) (μ : Mu) (hF : f_X8_cut x1 μ = some (r, μf)) : X G p l e 2 46 s0 m args below meth c 4 (some (.int r)) μf μ 0 [(0, .ref (G.ad 82)), (1, .int x1)] [] := by
  unfold f_X8_cut at hF
  refine x_aload_n C 0 dX8_cut_0 rfl rfl ?_
  refine x_iload_n C 1 dX8_cut_1 rfl rfl ?_
  obtain ⟨q1, hq1, hF⟩ := f_bind hF
  refine x_cVi (rest := []) C (c_X8_noNote l C.2.2.2.2.2.2.2.2 x1 μ hq1) cw_X8_239 sh_82 rfl rfl ⟨by decide, by decide⟩ rfl rfl (Nat.le_of_ble_eq_true rfl) dX8_cut_2 ?_
  refine x_if_eq (tgt := 12) C dX8_cut_5 (by decide) (fun hc => ?_) (fun hc => ?_)
  · replace hF := f_t hc hF
    refine x_aload_n C 0 dX8_cut_12 rfl rfl ?_
    refine x_getR C fc_X8 fl_X8_40 sh_82 (by decide) rfl dX8_cut_13 ?_
    refine x_sipush (v := 160) C dX8_cut_16 (by decide) ?_
    refine x_iload_n C 1 dX8_cut_19 rfl rfl ?_
    refine x_iadd C dX8_cut_20 ?_
    obtain ⟨hi2, hF⟩ := f_chk hF
    refine x_iald C sh_93 hi2 dX8_cut_21 ?_
    refine x_letI hF (fun y3 hF => ?_)
    refine x_istore_n C [(2, .int y3), (0, .ref (G.ad 82)), (1, .int x1)] dX8_cut_22 rfl (by decide) rfl ?_
    refine x_iload_n C 2 dX8_cut_23 rfl rfl ?_
    refine x_istore_n C [(3, .int x1), (2, .int y3), (0, .ref (G.ad 82)), (1, .int x1)] dX8_cut_24 rfl (by decide) rfl ?_
    exact x_pick [(0, .ref (G.ad 82)), (2, .int y3), (3, .int x1)] [2, 1, 0] rfl (w_X8_cut_L25 C fu y3 x1 μ hF)
  · replace hF := f_f hc hF
    refine x_sipush (v := (-1001)) C dX8_cut_8 (by decide) ?_
    exact x_iret C dX8_cut_11 (Prod.mk.inj (Option.some.inj hF)).1 (Prod.mk.inj (Option.some.inj hF)).2
set_option maxHeartbeats 4000000 in
theorem c_X8_cut {G : Gl} (l : Launch) (hA : Ap G) {r : Int32} {μf : Mu}  (x1 : Int32) (μ : Mu) (hF : f_X8_cut x1 μ = some (r, μf)) : Mth G l yX8_cut cX8_cut 4 (some .int) 2 46 [.ref (G.ad 82), .int x1] (some (.int r)) μf μ := Mth.of hA (by decide) rfl (Nat.le_of_ble_eq_true rfl) (fun p e s0 m args below meth c C => w_X8_cut C x1 μ hF)
set_option maxHeartbeats 4000000 in
theorem w_X8_standing_L14 {G : Gl} {p : Program} {l : Launch} {e : Env} {s0 : State} {m : MethodId} {args : Array Value} {below : List Frame} {meth : Method} {c : Code} (C : Cx G p s0 m args meth c cX8_standing 4 RX8 (some .int)) {r : Int32}  (μ : Mu) {k2 : Int32 → Int32 → Option (Int32)} (hk2 : ∀ (x1 : Int32) (x2 : Int32), k2 x1 x2 = some r → X G p l e 0 0 s0 m args below meth c 4 (some (.int r)) μ μ 2 [(0, .ref (G.ad 82)), (1, .int x1), (2, .int x2)] []) : ∀ (n : Nat) (x1 : Int32) (x2 : Int32) (x3 : Int32), f_X8_standing_L14 k2 μ n x1 x2 x3 = some r → X G p l e 0 0 s0 m args below meth c 4 (some (.int r)) μ μ 14 [(0, .ref (G.ad 82)), (1, .int x1), (2, .int x2), (3, .int x3)] [] := by
  intro n
  induction n with
  | zero =>
    intro x1 x2 x3 hF
    rw [f_X8_standing_L14] at hF
    cases hF
  | succ n ih =>
    intro x1 x2 x3 hF
    rw [f_X8_standing_L14] at hF
    refine x_iload_n C 3 dX8_standing_14 rfl rfl ?_
    refine x_aload_n C 0 dX8_standing_15 rfl rfl ?_
    refine x_getR C fc_X8 fl_X8_40 sh_82 (by decide) rfl dX8_standing_16 ?_
    refine x_sipush (v := 160) C dX8_standing_19 (by decide) ?_
    refine x_iload_n C 2 dX8_standing_22 rfl rfl ?_
    refine x_iadd C dX8_standing_23 ?_
    obtain ⟨hi1, hF⟩ := f_chk hF
    refine x_iald C sh_93 hi1 dX8_standing_24 ?_
    refine x_icmp_ge (tgt := 58) C dX8_standing_25 (by decide) (fun hc => ?_) (fun hc => ?_)
    · replace hF := f_t hc hF
      refine x_iinc C [(2, .int (x2 + 1)), (0, .ref (G.ad 82)), (1, .int x1), (3, .int x3)] 2 dX8_standing_58 rfl rfl (by decide) rfl ?_
      refine x_goto (tgt := 2) C dX8_standing_61 (by decide) ?_
      exact x_pick [(0, .ref (G.ad 82)), (1, .int x1), (2, .int (x2 + 1))] [1, 2, 0] rfl (hk2 x1 (x2 + 1) hF)
    · replace hF := f_f hc hF
      refine x_aload_n C 0 dX8_standing_28 rfl rfl ?_
      refine x_getR C fc_X8 fl_X8_43 sh_82 (by decide) rfl dX8_standing_29 ?_
      refine x_iconst (v := 5) C dX8_standing_32 (by decide) ?_
      refine x_sipush (v := 160) C dX8_standing_33 (by decide) ?_
      refine x_iload_n C 2 dX8_standing_36 rfl rfl ?_
      refine x_iadd C dX8_standing_37 ?_
      refine x_imul C dX8_standing_38 ?_
      refine x_iload_n C 3 dX8_standing_39 rfl rfl ?_
      refine x_iadd C dX8_standing_40 ?_
      obtain ⟨hi2, hF⟩ := f_chk hF
      refine x_iald C sh_94 hi2 dX8_standing_41 ?_
      refine x_iload_n C 1 dX8_standing_42 rfl rfl ?_
      refine x_icmp_ne (tgt := 52) C dX8_standing_43 (by decide) (fun hc => ?_) (fun hc => ?_)
      · replace hF := f_f hc hF
        refine x_iinc C [(3, .int (x3 + 1)), (0, .ref (G.ad 82)), (1, .int x1), (2, .int x2)] 3 dX8_standing_52 rfl rfl (by decide) rfl ?_
        refine x_goto (tgt := 14) C dX8_standing_55 (by decide) ?_
        exact x_pick [(0, .ref (G.ad 82)), (1, .int x1), (2, .int x2), (3, .int (x3 + 1))] [1, 2, 3, 0] rfl (ih x1 x2 (x3 + 1) hF)
      · replace hF := f_t hc hF
        refine x_iconst (v := 5) C dX8_standing_46 (by decide) ?_
        refine x_iload_n C 2 dX8_standing_47 rfl rfl ?_
        refine x_imul C dX8_standing_48 ?_
        refine x_iload_n C 3 dX8_standing_49 rfl rfl ?_
        refine x_iadd C dX8_standing_50 ?_
        exact x_iret C dX8_standing_51 (Option.some.inj hF) rfl
set_option maxHeartbeats 4000000 in
theorem w_X8_standing_L2 {G : Gl} {p : Program} {l : Launch} {e : Env} {s0 : State} {m : MethodId} {args : Array Value} {below : List Frame} {meth : Method} {c : Code} (C : Cx G p s0 m args meth c cX8_standing 4 RX8 (some .int)) {r : Int32}  (μ : Mu) : ∀ (n : Nat) (x1 : Int32) (x2 : Int32), f_X8_standing_L2 μ n x1 x2 = some r → X G p l e 0 0 s0 m args below meth c 4 (some (.int r)) μ μ 2 [(0, .ref (G.ad 82)), (1, .int x1), (2, .int x2)] [] := by
  intro n
  induction n with
  | zero =>
    intro x1 x2 hF
    rw [f_X8_standing_L2] at hF
    cases hF
  | succ n ih =>
    intro x1 x2 hF
    rw [f_X8_standing_L2] at hF
    refine x_iload_n C 2 dX8_standing_2 rfl rfl ?_
    refine x_aload_n C 0 dX8_standing_3 rfl rfl ?_
    refine x_getR C fc_X8 fl_X8_37 sh_82 (by decide) rfl dX8_standing_4 ?_
    refine x_iconst (v := 4) C dX8_standing_7 (by decide) ?_
    refine x_iald C sh_92 (by decide) dX8_standing_8 ?_
    refine x_icmp_ge (tgt := 64) C dX8_standing_9 (by decide) (fun hc => ?_) (fun hc => ?_)
    · replace hF := f_t hc hF
      refine x_iconst (v := (-1)) C dX8_standing_64 (by decide) ?_
      exact x_iret C dX8_standing_65 (Option.some.inj hF) rfl
    · replace hF := f_f hc hF
      refine x_iconst (v := 0) C dX8_standing_12 (by decide) ?_
      refine x_istore_n C [(3, .int 0), (0, .ref (G.ad 82)), (1, .int x1), (2, .int x2)] dX8_standing_13 rfl (by decide) rfl ?_
      exact x_pick [(0, .ref (G.ad 82)), (1, .int x1), (2, .int x2), (3, .int 0)] [1, 2, 3, 0] rfl (w_X8_standing_L14 C μ ih fu x1 x2 0 hF)
set_option maxHeartbeats 4000000 in
theorem w_X8_standing {G : Gl} {p : Program} {l : Launch} {e : Env} {s0 : State} {m : MethodId} {args : Array Value} {below : List Frame} {meth : Method} {c : Code} (C : Cx G p s0 m args meth c cX8_standing 4 RX8 (some .int)) {r : Int32}  (x1 : Int32) (μ : Mu) (hF : f_X8_standing x1 μ = some r) : X G p l e 0 0 s0 m args below meth c 4 (some (.int r)) μ μ 0 [(0, .ref (G.ad 82)), (1, .int x1)] [] := by
  unfold f_X8_standing at hF
  refine x_iconst (v := 0) C dX8_standing_0 (by decide) ?_
  refine x_istore_n C [(2, .int 0), (0, .ref (G.ad 82)), (1, .int x1)] dX8_standing_1 rfl (by decide) rfl ?_
  exact x_pick [(0, .ref (G.ad 82)), (1, .int x1), (2, .int 0)] [1, 2, 0] rfl (w_X8_standing_L2 C μ fu x1 0 hF)
set_option maxHeartbeats 4000000 in
theorem c_X8_standing {G : Gl} (l : Launch) (hA : Ap G) {r : Int32}  (x1 : Int32) (μ : Mu) (hF : f_X8_standing x1 μ = some r) : Mth G l yX8_standing cX8_standing 4 (some .int) 0 0 [.ref (G.ad 82), .int x1] (some (.int r)) μ μ := Mth.of hA (by decide) rfl (Nat.le_of_ble_eq_true rfl) (fun p e s0 m args below meth c C => w_X8_standing C x1 μ hF)
set_option maxHeartbeats 4000000 in
theorem w_X8_drop_L45 {G : Gl} {p : Program} {l : Launch} {e : Env} {s0 : State} {m : MethodId} {args : Array Value} {below : List Frame} {meth : Method} {c : Code} (C : Cx G p s0 m args meth c cX8_drop 5 RX8 (some .int)) {r : Int32} {μf : Mu}  : ∀ (n : Nat) (x3 : Int32) (x4 : Int32) (μ : Mu), f_X8_drop_L45 n x3 x4 μ = some (r, μf) → X G p l e 1 23 s0 m args below meth c 5 (some (.int r)) μf μ 45 [(0, .ref (G.ad 82)), (3, .int x3), (4, .int x4)] [] := by
  intro n
  induction n with
  | zero =>
    intro x3 x4 μ hF
    rw [f_X8_drop_L45] at hF
    cases hF
  | succ n ih =>
    intro x3 x4 μ hF
    rw [f_X8_drop_L45] at hF
    refine x_iload C 2 dX8_drop_45 rfl ?_
    refine x_aload_n C 0 dX8_drop_47 rfl rfl ?_
    refine x_getR C fc_X8 fl_X8_40 sh_82 (by decide) rfl dX8_drop_48 ?_
    refine x_iload_n C 1 dX8_drop_51 rfl rfl ?_
    obtain ⟨hi1, hF⟩ := f_chk hF
    refine x_iald C sh_93 hi1 dX8_drop_52 ?_
    refine x_icmp_ge (tgt := 86) C dX8_drop_53 (by decide) (fun hc => ?_) (fun hc => ?_)
    · replace hF := f_t hc hF
      refine x_iconst (v := 1) C dX8_drop_86 (by decide) ?_
      exact x_iret C dX8_drop_87 (Prod.mk.inj (Option.some.inj hF)).1 (Prod.mk.inj (Option.some.inj hF)).2
    · replace hF := f_f hc hF
      refine x_aload_n C 0 dX8_drop_56 rfl rfl ?_
      refine x_getR C fc_X8 fl_X8_43 sh_82 (by decide) rfl dX8_drop_57 ?_
      refine x_iconst (v := 5) C dX8_drop_60 (by decide) ?_
      refine x_iload_n C 1 dX8_drop_61 rfl rfl ?_
      refine x_imul C dX8_drop_62 ?_
      refine x_iload C 2 dX8_drop_63 rfl ?_
      refine x_iadd C dX8_drop_65 ?_
      refine x_aload_n C 0 dX8_drop_66 rfl rfl ?_
      refine x_getR C fc_X8 fl_X8_43 sh_82 (by decide) rfl dX8_drop_67 ?_
      refine x_iconst (v := 5) C dX8_drop_70 (by decide) ?_
      refine x_iload_n C 1 dX8_drop_71 rfl rfl ?_
      refine x_imul C dX8_drop_72 ?_
      refine x_iload C 2 dX8_drop_73 rfl ?_
      refine x_iadd C dX8_drop_75 ?_
      refine x_iconst (v := 1) C dX8_drop_76 (by decide) ?_
      refine x_iadd C dX8_drop_77 ?_
      obtain ⟨hi2, hF⟩ := f_chk hF
      refine x_iald C sh_94 hi2 dX8_drop_78 ?_
      obtain ⟨hi3, hF⟩ := f_chk hF
      refine x_iast C sh_94 hi3 dX8_drop_79 ?_
      refine x_letM hF (fun μ4 hF => ?_)
      refine x_iinc C [(4, .int (x4 + 1)), (0, .ref (G.ad 82)), (3, .int x3)] 2 dX8_drop_80 rfl rfl (by decide) rfl ?_
      refine x_goto (tgt := 45) C dX8_drop_83 (by decide) ?_
      exact x_pick [(0, .ref (G.ad 82)), (3, .int x3), (4, .int (x4 + 1))] [1, 2, 0] rfl (ih x3 (x4 + 1) μ4 hF)
set_option maxHeartbeats 4000000 in
theorem w_X8_drop_b13 {G : Gl} {p : Program} {l : Launch} {e : Env} {s0 : State} {m : MethodId} {args : Array Value} {below : List Frame} {meth : Method} {c : Code} (C : Cx G p s0 m args meth c cX8_drop 5 RX8 (some .int)) {r : Int32} {μf : Mu}  (t0 : Int32) (μ : Mu) (hF : f_X8_drop_b13 t0 μ = some (r, μf)) : X G p l e 1 23 s0 m args below meth c 5 (some (.int r)) μf μ 13 [(0, .ref (G.ad 82))] [.int t0] := by
  unfold f_X8_drop_b13 at hF
  refine x_istore_n C [(2, .int t0), (0, .ref (G.ad 82))] dX8_drop_13 rfl (by decide) rfl ?_
  refine x_iload_n C 0 dX8_drop_14 rfl rfl ?_
  refine x_if_ge (tgt := 22) C dX8_drop_15 (by decide) (fun hc => ?_) (fun hc => ?_)
  · replace hF := f_t hc hF
    refine x_sipush (v := 160) C dX8_drop_22 (by decide) ?_
    refine x_iload_n C 0 dX8_drop_25 rfl rfl ?_
    refine x_iconst (v := 5) C dX8_drop_26 (by decide) ?_
    refine x_idiv C dX8_drop_27 (by decide) ?_
    refine x_iadd C dX8_drop_28 ?_
    refine x_letI hF (fun y1 hF => ?_)
    refine x_istore_n C [(3, .int y1), (2, .int t0), (0, .ref (G.ad 82))] dX8_drop_29 rfl (by decide) rfl ?_
    refine x_aload_n C 2 dX8_drop_30 rfl rfl ?_
    refine x_getR C fc_X8 fl_X8_40 sh_82 (by decide) rfl dX8_drop_31 ?_
    refine x_iload_n C 0 dX8_drop_34 rfl rfl ?_
    refine x_dup2 C dX8_drop_35 rfl rfl ?_
    obtain ⟨hi2, hF⟩ := f_chk hF
    refine x_iald C sh_93 hi2 dX8_drop_36 ?_
    refine x_iconst (v := 1) C dX8_drop_37 (by decide) ?_
    refine x_isub C dX8_drop_38 ?_
    refine x_iast C sh_93 hi2 dX8_drop_39 ?_
    refine x_letM hF (fun μ3 hF => ?_)
    refine x_iload_n C 1 dX8_drop_40 rfl rfl ?_
    refine x_iconst (v := 5) C dX8_drop_41 (by decide) ?_
    refine x_irem C dX8_drop_42 (by decide) ?_
    refine x_letI hF (fun y4 hF => ?_)
    refine x_istore C [(4, .int y4), (3, .int y1), (2, .int t0), (0, .ref (G.ad 82))] dX8_drop_43 (by decide) rfl ?_
    exact x_pick [(0, .ref (G.ad 82)), (3, .int y1), (4, .int y4)] [3, 1, 0] rfl (w_X8_drop_L45 C fu y1 y4 μ3 hF)
  · replace hF := f_f hc hF
    refine x_sipush (v := (-1001)) C dX8_drop_18 (by decide) ?_
    exact x_iret C dX8_drop_21 (Prod.mk.inj (Option.some.inj hF)).1 (Prod.mk.inj (Option.some.inj hF)).2
set_option maxHeartbeats 4000000 in
theorem w_X8_drop {G : Gl} {p : Program} {l : Launch} {e : Env} {s0 : State} {m : MethodId} {args : Array Value} {below : List Frame} {meth : Method} {c : Code} (C : Cx G p s0 m args meth c cX8_drop 5 RX8 (some .int)) {r : Int32} {μf : Mu}  (x1 : Int32) (μ : Mu) (hF : f_X8_drop x1 μ = some (r, μf)) : X G p l e 1 23 s0 m args below meth c 5 (some (.int r)) μf μ 0 [(0, .ref (G.ad 82)), (1, .int x1)] [] := by
  unfold f_X8_drop at hF
  refine x_iload_n C 1 dX8_drop_0 rfl rfl ?_
  refine x_if_ge (tgt := 8) C dX8_drop_1 (by decide) (fun hc => ?_) (fun hc => ?_)
  · replace hF := f_t hc hF
    refine x_aload_n C 0 dX8_drop_8 rfl rfl ?_
    refine x_iload_n C 1 dX8_drop_9 rfl rfl ?_
    obtain ⟨q1, hq1, hF⟩ := f_bind hF
    refine x_cVi (rest := []) C (c_X8_standing l C.2.2.2.2.2.2.2.2 x1 μ hq1) cw_X8_244 sh_82 rfl rfl ⟨by decide, by decide⟩ rfl rfl (Nat.le_of_ble_eq_true rfl) dX8_drop_10 ?_
    exact x_pick [(0, .ref (G.ad 82))] [0] rfl (w_X8_drop_b13 C q1 μ hF)
  · replace hF := f_f hc hF
    refine x_iconst (v := (-1)) C dX8_drop_4 (by decide) ?_
    refine x_goto (tgt := 13) C dX8_drop_5 (by decide) ?_
    exact x_pick [(0, .ref (G.ad 82))] [0] rfl (w_X8_drop_b13 C (-1) μ hF)
set_option maxHeartbeats 4000000 in
theorem c_X8_drop {G : Gl} (l : Launch) (hA : Ap G) {r : Int32} {μf : Mu}  (x1 : Int32) (μ : Mu) (hF : f_X8_drop x1 μ = some (r, μf)) : Mth G l yX8_drop cX8_drop 5 (some .int) 1 23 [.ref (G.ad 82), .int x1] (some (.int r)) μf μ := Mth.of hA (by decide) rfl (Nat.le_of_ble_eq_true rfl) (fun p e s0 m args below meth c C => w_X8_drop C x1 μ hF)
set_option maxHeartbeats 4000000 in
theorem w_X8_fault {G : Gl} {p : Program} {l : Launch} {e : Env} {s0 : State} {m : MethodId} {args : Array Value} {below : List Frame} {meth : Method} {c : Code} (C : Cx G p s0 m args meth c cX8_fault 1 RX8 (some .int)) {r : Int32}  (μ : Mu) (hF : f_X8_fault μ = r) : X G p l e 0 0 s0 m args below meth c 1 (some (.int r)) μ μ 0 [(0, .ref (G.ad 82))] [] := by
  unfold f_X8_fault at hF
  refine x_aload_n C 0 dX8_fault_0 rfl rfl ?_
  refine x_getI C fc_X8 fl_X8_105 sh_82 (by decide) rfl dX8_fault_1 ?_
  exact x_iret C dX8_fault_4 hF rfl
set_option maxHeartbeats 4000000 in
theorem c_X8_fault {G : Gl} (l : Launch) (hA : Ap G) (μ : Mu) : Mth G l yX8_fault cX8_fault 1 (some .int) 0 0 [.ref (G.ad 82)] (some (.int (f_X8_fault μ))) μ μ := Mth.of hA (by decide) rfl (Nat.le_of_ble_eq_true rfl) (fun p e s0 m args below meth c C => w_X8_fault C μ rfl)
set_option maxHeartbeats 4000000 in
theorem w_X8_feed_L37 {G : Gl} {p : Program} {l : Launch} {e : Env} {s0 : State} {m : MethodId} {args : Array Value} {below : List Frame} {meth : Method} {c : Code} (C : Cx G p s0 m args meth c cX8_feed 5 RX8 (some .int)) {r : Int32} {μf : Mu}  : ∀ (n : Nat) (x2 : Int64) (x4 : Int32) (μ : Mu), f_X8_feed_L37 n x2 x4 μ = some (r, μf) → X G p l e 1 25 s0 m args below meth c 5 (some (.int r)) μf μ 37 [(0, .ref (G.ad 82)), (2, .long x2), (4, .int x4)] [] := by
  intro n
  induction n with
  | zero =>
    intro x2 x4 μ hF
    rw [f_X8_feed_L37] at hF
    cases hF
  | succ n ih =>
    intro x2 x4 μ hF
    rw [f_X8_feed_L37] at hF
    refine x_iload C 2 dX8_feed_37 rfl ?_
    refine x_if_lt (tgt := 79) C dX8_feed_39 (by decide) (fun hc => ?_) (fun hc => ?_)
    · replace hF := f_t hc hF
      refine x_aload_n C 0 dX8_feed_79 rfl rfl ?_
      refine x_getI C fc_X8 fl_X8_263 sh_82 (by decide) rfl dX8_feed_80 ?_
      exact x_iret C dX8_feed_83 (Prod.mk.inj (Option.some.inj hF)).1 (Prod.mk.inj (Option.some.inj hF)).2
    · replace hF := f_f hc hF
      refine x_aload_n C 0 dX8_feed_42 rfl rfl ?_
      refine x_getR C fc_X8 fl_X8_102 sh_82 (by decide) rfl dX8_feed_43 ?_
      refine x_aload_n C 0 dX8_feed_46 rfl rfl ?_
      refine x_getI C fc_X8 fl_X8_263 sh_82 (by decide) rfl dX8_feed_47 ?_
      refine x_lload_n C 1 dX8_feed_50 rfl rfl ?_
      refine x_bipush (v := 8) C dX8_feed_51 (by decide) ?_
      refine x_iload C 2 dX8_feed_53 rfl ?_
      refine x_imul C dX8_feed_55 ?_
      refine x_lshr C dX8_feed_56 ?_
      refine x_ldc2 C cl_X8_268 dX8_feed_57 ?_
      refine x_land C dX8_feed_60 ?_
      refine x_l2i C dX8_feed_61 ?_
      obtain ⟨hi1, hF⟩ := f_chk hF
      refine x_iast C sh_112 hi1 dX8_feed_62 ?_
      refine x_letM hF (fun μ2 hF => ?_)
      refine x_aload_n C 0 dX8_feed_63 rfl rfl ?_
      refine x_dup C dX8_feed_64 rfl ?_
      refine x_getI C fc_X8 fl_X8_263 sh_82 (by decide) rfl dX8_feed_65 ?_
      refine x_iconst (v := 1) C dX8_feed_68 (by decide) ?_
      refine x_iadd C dX8_feed_69 ?_
      refine x_putI C fc_X8 fl_X8_263 sh_82 (by decide) rfl rfl rfl ⟨rfl, rfl⟩ dX8_feed_70 ?_
      refine x_letM hF (fun μ3 hF => ?_)
      refine x_iinc C [(4, .int (x4 + (-1))), (0, .ref (G.ad 82)), (2, .long x2)] 2 dX8_feed_73 rfl rfl (by decide) rfl ?_
      refine x_goto (tgt := 37) C dX8_feed_76 (by decide) ?_
      exact x_pick [(0, .ref (G.ad 82)), (2, .long x2), (4, .int (x4 + (-1)))] [1, 2, 0] rfl (ih x2 (x4 + (-1)) μ3 hF)
set_option maxHeartbeats 4000000 in
theorem w_X8_feed {G : Gl} {p : Program} {l : Launch} {e : Env} {s0 : State} {m : MethodId} {args : Array Value} {below : List Frame} {meth : Method} {c : Code} (C : Cx G p s0 m args meth c cX8_feed 5 RX8 (some .int)) {r : Int32} {μf : Mu}  (x1 : Int32) (x2 : Int64) (μ : Mu) (hF : f_X8_feed x1 x2 μ = some (r, μf)) : X G p l e 1 25 s0 m args below meth c 5 (some (.int r)) μf μ 0 [(0, .ref (G.ad 82)), (1, .int x1), (2, .long x2)] [] := by
  unfold f_X8_feed at hF
  refine x_iload_n C 1 dX8_feed_0 rfl rfl ?_
  refine x_i2l C dX8_feed_1 ?_
  refine x_lconst (v := 1) C dX8_feed_2 (by decide) ?_
  refine x_ldc2 C cl_X8_266 dX8_feed_3 ?_
  refine x_cSi (rest := []) C (c_X8_in l C.2.2.2.2.2.2.2.2 ((x1 : Int32).toInt64) 1 8 μ) cw_X8_127 ⟨by decide, by decide⟩ rfl rfl (Nat.le_of_ble_eq_true rfl) dX8_feed_6 ?_
  refine x_if_ne (tgt := 16) C dX8_feed_9 (by decide) (fun hc => ?_) (fun hc => ?_)
  · replace hF := f_f hc hF
    refine x_aload_n C 0 dX8_feed_16 rfl rfl ?_
    refine x_getI C fc_X8 fl_X8_263 sh_82 (by decide) rfl dX8_feed_17 ?_
    refine x_iload_n C 1 dX8_feed_20 rfl rfl ?_
    refine x_iadd C dX8_feed_21 ?_
    refine x_sipush (v := 200) C dX8_feed_22 (by decide) ?_
    refine x_icmp_le (tgt := 32) C dX8_feed_25 (by decide) (fun hc => ?_) (fun hc => ?_)
    · replace hF := f_t hc hF
      refine x_iload_n C 1 dX8_feed_32 rfl rfl ?_
      refine x_iconst (v := 1) C dX8_feed_33 (by decide) ?_
      refine x_isub C dX8_feed_34 ?_
      refine x_letI hF (fun y1 hF => ?_)
      refine x_istore C [(4, .int y1), (0, .ref (G.ad 82)), (1, .int x1), (2, .long x2)] dX8_feed_35 (by decide) rfl ?_
      exact x_pick [(0, .ref (G.ad 82)), (2, .long x2), (4, .int y1)] [1, 3, 0] rfl (w_X8_feed_L37 C fu x2 y1 μ hF)
    · replace hF := f_f hc hF
      refine x_sipush (v := (-1004)) C dX8_feed_28 (by decide) ?_
      exact x_iret C dX8_feed_31 (Prod.mk.inj (Option.some.inj hF)).1 (Prod.mk.inj (Option.some.inj hF)).2
  · replace hF := f_t hc hF
    refine x_sipush (v := (-1002)) C dX8_feed_12 (by decide) ?_
    exact x_iret C dX8_feed_15 (Prod.mk.inj (Option.some.inj hF)).1 (Prod.mk.inj (Option.some.inj hF)).2
set_option maxHeartbeats 4000000 in
theorem c_X8_feed {G : Gl} (l : Launch) (hA : Ap G) {r : Int32} {μf : Mu}  (x1 : Int32) (x2 : Int64) (μ : Mu) (hF : f_X8_feed x1 x2 μ = some (r, μf)) : Mth G l yX8_feed cX8_feed 5 (some .int) 1 25 [.ref (G.ad 82), .int x1, .long x2] (some (.int r)) μf μ := Mth.of hA (by decide) rfl (Nat.le_of_ble_eq_true rfl) (fun p e s0 m args below meth c C => w_X8_feed C x1 x2 μ hF)
set_option maxHeartbeats 4000000 in
theorem w_X8_figures {G : Gl} {p : Program} {l : Launch} {e : Env} {s0 : State} {m : MethodId} {args : Array Value} {below : List Frame} {meth : Method} {c : Code} (C : Cx G p s0 m args meth c cX8_figures 1 RX8 (some .int)) {r : Int32}  (x0 : Int32) (μ : Mu) (hF : f_X8_figures x0 = r) : X G p l e 0 0 s0 m args below meth c 1 (some (.int r)) μ μ 0 [(0, .int x0)] [] := by
  unfold f_X8_figures at hF
  refine x_iload_n C 0 dX8_figures_0 rfl rfl ?_
  refine x_sipush (v := 999) C dX8_figures_1 (by decide) ?_
  refine x_icmp_le (tgt := 11) C dX8_figures_4 (by decide) (fun hc => ?_) (fun hc => ?_)
  · replace hF := f_t hc hF
    refine x_iload_n C 0 dX8_figures_11 rfl rfl ?_
    refine x_bipush (v := 99) C dX8_figures_12 (by decide) ?_
    refine x_icmp_le (tgt := 21) C dX8_figures_14 (by decide) (fun hc => ?_) (fun hc => ?_)
    · replace hF := f_t hc hF
      refine x_iload_n C 0 dX8_figures_21 rfl rfl ?_
      refine x_bipush (v := 9) C dX8_figures_22 (by decide) ?_
      refine x_icmp_le (tgt := 31) C dX8_figures_24 (by decide) (fun hc => ?_) (fun hc => ?_)
      · replace hF := f_t hc hF
        refine x_iconst (v := 1) C dX8_figures_31 (by decide) ?_
        exact x_iret C dX8_figures_32 hF rfl
      · replace hF := f_f hc hF
        refine x_iconst (v := 2) C dX8_figures_27 (by decide) ?_
        refine x_goto (tgt := 32) C dX8_figures_28 (by decide) ?_
        exact x_iret C dX8_figures_32 hF rfl
    · replace hF := f_f hc hF
      refine x_iconst (v := 3) C dX8_figures_17 (by decide) ?_
      refine x_goto (tgt := 32) C dX8_figures_18 (by decide) ?_
      exact x_iret C dX8_figures_32 hF rfl
  · replace hF := f_f hc hF
    refine x_iconst (v := 4) C dX8_figures_7 (by decide) ?_
    refine x_goto (tgt := 32) C dX8_figures_8 (by decide) ?_
    exact x_iret C dX8_figures_32 hF rfl
set_option maxHeartbeats 4000000 in
theorem c_X8_figures {G : Gl} (l : Launch) (hA : Ap G) (x0 : Int32) (μ : Mu) : Mth G l yX8_figures cX8_figures 1 (some .int) 0 0 [.int x0] (some (.int (f_X8_figures x0))) μ μ := Mth.of hA (by decide) rfl (Nat.le_of_ble_eq_true rfl) (fun p e s0 m args below meth c C => w_X8_figures C x0 μ rfl)
set_option maxHeartbeats 4000000 in
theorem w_X8_findPieces_b153 {G : Gl} {p : Program} {l : Launch} {e : Env} {s0 : State} {m : MethodId} {args : Array Value} {below : List Frame} {meth : Method} {c : Code} (C : Cx G p s0 m args meth c cX8_findPieces 7 RX8 none) {μf : Mu}  {k59 : Int32 → Int32 → Int32 → Mu → Option (Mu)} (hk59 : ∀ (x2 : Int32) (x3 : Int32) (x4 : Int32) (μ : Mu), k59 x2 x3 x4 μ = some μf → X G p l e 1 22 s0 m args below meth c 7 none μf μ 59 [(0, .ref (G.ad 82)), (2, .int x2), (3, .int x3), (4, .int x4)] []) (x2 : Int32) (x3 : Int32) (x4 : Int32) (x5 : Int32) (x6 : Int32) (t1 : Int32) (t2 : Int32) (μ : Mu) (hF : f_X8_findPieces_b153 k59 x2 x3 x4 x5 x6 t1 t2 μ = some μf) : X G p l e 1 22 s0 m args below meth c 7 none μf μ 153 [(0, .ref (G.ad 82)), (2, .int x2), (3, .int x3), (4, .int x4), (5, .int x5), (6, .int x6)] [.int t2, .int t1, .ref (G.ad 111)] := by
  unfold f_X8_findPieces_b153 at hF
  obtain ⟨hi1, hF⟩ := f_chk hF
  refine x_iast C sh_111 hi1 dX8_findPieces_153 ?_
  refine x_letM hF (fun μ2 hF => ?_)
  refine x_aload_n C 0 dX8_findPieces_154 rfl rfl ?_
  refine x_dup C dX8_findPieces_155 rfl ?_
  refine x_getI C fc_X8 fl_X8_250 sh_82 (by decide) rfl dX8_findPieces_156 ?_
  refine x_iconst (v := 1) C dX8_findPieces_159 (by decide) ?_
  refine x_iadd C dX8_findPieces_160 ?_
  refine x_putI C fc_X8 fl_X8_250 sh_82 (by decide) rfl rfl rfl ⟨rfl, rfl⟩ dX8_findPieces_161 ?_
  refine x_letM hF (fun μ3 hF => ?_)
  refine x_iload C 5 dX8_findPieces_164 rfl ?_
  refine x_if_eq (tgt := 174) C dX8_findPieces_166 (by decide) (fun hc => ?_) (fun hc => ?_)
  · replace hF := f_t hc hF
    refine x_iload C 3 dX8_findPieces_174 rfl ?_
    refine x_iconst (v := 1) C dX8_findPieces_176 (by decide) ?_
    refine x_iadd C dX8_findPieces_177 ?_
    refine x_letI hF (fun y4 hF => ?_)
    refine x_istore C [(4, .int y4), (0, .ref (G.ad 82)), (2, .int x2), (3, .int x3), (5, .int x5), (6, .int x6)] dX8_findPieces_178 (by decide) rfl ?_
    refine x_goto (tgt := 59) C dX8_findPieces_180 (by decide) ?_
    exact x_pick [(0, .ref (G.ad 82)), (2, .int x2), (3, .int x3), (4, .int y4)] [1, 2, 3, 0] rfl (hk59 x2 x3 y4 μ3 hF)
  · replace hF := f_f hc hF
    refine x_iload C 4 dX8_findPieces_169 rfl ?_
    refine x_goto (tgt := 178) C dX8_findPieces_171 (by decide) ?_
    refine x_istore C [(4, .int x5), (0, .ref (G.ad 82)), (2, .int x2), (3, .int x3), (5, .int x5), (6, .int x6)] dX8_findPieces_178 (by decide) rfl ?_
    refine x_goto (tgt := 59) C dX8_findPieces_180 (by decide) ?_
    exact x_pick [(0, .ref (G.ad 82)), (2, .int x2), (3, .int x3), (4, .int x5)] [1, 2, 3, 0] rfl (hk59 x2 x3 x5 μ3 hF)
set_option maxHeartbeats 4000000 in
theorem w_X8_findPieces_b111 {G : Gl} {p : Program} {l : Launch} {e : Env} {s0 : State} {m : MethodId} {args : Array Value} {below : List Frame} {meth : Method} {c : Code} (C : Cx G p s0 m args meth c cX8_findPieces 7 RX8 none) {μf : Mu}  {k59 : Int32 → Int32 → Int32 → Mu → Option (Mu)} (hk59 : ∀ (x2 : Int32) (x3 : Int32) (x4 : Int32) (μ : Mu), k59 x2 x3 x4 μ = some μf → X G p l e 1 22 s0 m args below meth c 7 none μf μ 59 [(0, .ref (G.ad 82)), (2, .int x2), (3, .int x3), (4, .int x4)] []) (x2 : Int32) (x3 : Int32) (x4 : Int32) (x5 : Int32) (t0 : Int32) (μ : Mu) (hF : f_X8_findPieces_b111 k59 x2 x3 x4 x5 t0 μ = some μf) : X G p l e 1 22 s0 m args below meth c 7 none μf μ 111 [(0, .ref (G.ad 82)), (2, .int x2), (3, .int x3), (4, .int x4), (5, .int x5)] [.int t0] := by
  unfold f_X8_findPieces_b111 at hF
  refine x_istore C [(6, .int t0), (0, .ref (G.ad 82)), (2, .int x2), (3, .int x3), (4, .int x4), (5, .int x5)] dX8_findPieces_111 (by decide) rfl ?_
  refine x_iload C 5 dX8_findPieces_113 rfl ?_
  refine x_iload C 4 dX8_findPieces_115 rfl ?_
  refine x_icmp_le (tgt := 164) C dX8_findPieces_117 (by decide) (fun hc => ?_) (fun hc => ?_)
  · replace hF := f_t hc hF
    refine x_iload C 0 dX8_findPieces_164 rfl ?_
    refine x_if_eq (tgt := 174) C dX8_findPieces_166 (by decide) (fun hc => ?_) (fun hc => ?_)
    · replace hF := f_t hc hF
      refine x_iload C 4 dX8_findPieces_174 rfl ?_
      refine x_iconst (v := 1) C dX8_findPieces_176 (by decide) ?_
      refine x_iadd C dX8_findPieces_177 ?_
      refine x_letI hF (fun y1 hF => ?_)
      refine x_istore C [(4, .int y1), (6, .int t0), (0, .ref (G.ad 82)), (2, .int x2), (3, .int x3), (5, .int x5)] dX8_findPieces_178 (by decide) rfl ?_
      refine x_goto (tgt := 59) C dX8_findPieces_180 (by decide) ?_
      exact x_pick [(0, .ref (G.ad 82)), (2, .int x2), (3, .int x3), (4, .int y1)] [2, 3, 4, 0] rfl (hk59 x2 x3 y1 μ hF)
    · replace hF := f_f hc hF
      refine x_iload C 5 dX8_findPieces_169 rfl ?_
      refine x_goto (tgt := 178) C dX8_findPieces_171 (by decide) ?_
      refine x_istore C [(4, .int x5), (6, .int t0), (0, .ref (G.ad 82)), (2, .int x2), (3, .int x3), (5, .int x5)] dX8_findPieces_178 (by decide) rfl ?_
      refine x_goto (tgt := 59) C dX8_findPieces_180 (by decide) ?_
      exact x_pick [(0, .ref (G.ad 82)), (2, .int x2), (3, .int x3), (4, .int x5)] [2, 3, 4, 0] rfl (hk59 x2 x3 x5 μ hF)
  · replace hF := f_f hc hF
    refine x_aload_n C 1 dX8_findPieces_120 rfl rfl ?_
    refine x_getR C fc_X8 fl_X8_96 sh_82 (by decide) rfl dX8_findPieces_121 ?_
    refine x_aload_n C 1 dX8_findPieces_124 rfl rfl ?_
    refine x_getI C fc_X8 fl_X8_250 sh_82 (by decide) rfl dX8_findPieces_125 ?_
    refine x_iload C 4 dX8_findPieces_128 rfl ?_
    obtain ⟨hi2, hF⟩ := f_chk hF
    refine x_iast C sh_110 hi2 dX8_findPieces_130 ?_
    refine x_letM hF (fun μ3 hF => ?_)
    refine x_aload_n C 1 dX8_findPieces_131 rfl rfl ?_
    refine x_getR C fc_X8 fl_X8_99 sh_82 (by decide) rfl dX8_findPieces_132 ?_
    refine x_aload_n C 1 dX8_findPieces_135 rfl rfl ?_
    refine x_getI C fc_X8 fl_X8_250 sh_82 (by decide) rfl dX8_findPieces_136 ?_
    refine x_iload C 0 dX8_findPieces_139 rfl ?_
    refine x_if_eq (tgt := 151) C dX8_findPieces_141 (by decide) (fun hc => ?_) (fun hc => ?_)
    · replace hF := f_t hc hF
      refine x_iload C 4 dX8_findPieces_151 rfl ?_
      exact x_pick [(0, .ref (G.ad 82)), (2, .int x2), (3, .int x3), (4, .int x4), (5, .int x5), (6, .int t0)] [1, 2, 3, 4, 5, 0] rfl (w_X8_findPieces_b153 C hk59 x2 x3 x4 x5 t0 (μ3 82 34) x4 μ3 hF)
    · replace hF := f_f hc hF
      refine x_iload C 5 dX8_findPieces_144 rfl ?_
      refine x_iconst (v := 1) C dX8_findPieces_146 (by decide) ?_
      refine x_isub C dX8_findPieces_147 ?_
      refine x_goto (tgt := 153) C dX8_findPieces_148 (by decide) ?_
      exact x_pick [(0, .ref (G.ad 82)), (2, .int x2), (3, .int x3), (4, .int x4), (5, .int x5), (6, .int t0)] [1, 2, 3, 4, 5, 0] rfl (w_X8_findPieces_b153 C hk59 x2 x3 x4 x5 t0 (μ3 82 34) (x5 - 1) μ3 hF)
set_option maxHeartbeats 4000000 in
theorem w_X8_findPieces_L70 {G : Gl} {p : Program} {l : Launch} {e : Env} {s0 : State} {m : MethodId} {args : Array Value} {below : List Frame} {meth : Method} {c : Code} (C : Cx G p s0 m args meth c cX8_findPieces 7 RX8 none) {μf : Mu}  {k59 : Int32 → Int32 → Int32 → Mu → Option (Mu)} (hk59 : ∀ (x2 : Int32) (x3 : Int32) (x4 : Int32) (μ : Mu), k59 x2 x3 x4 μ = some μf → X G p l e 1 22 s0 m args below meth c 7 none μf μ 59 [(0, .ref (G.ad 82)), (2, .int x2), (3, .int x3), (4, .int x4)] []) : ∀ (n : Nat) (x2 : Int32) (x3 : Int32) (x4 : Int32) (x5 : Int32) (μ : Mu), f_X8_findPieces_L70 k59 n x2 x3 x4 x5 μ = some μf → X G p l e 1 22 s0 m args below meth c 7 none μf μ 70 [(0, .ref (G.ad 82)), (2, .int x2), (3, .int x3), (4, .int x4), (5, .int x5)] [] := by
  intro n
  induction n with
  | zero =>
    intro x2 x3 x4 x5 μ hF
    rw [f_X8_findPieces_L70] at hF
    cases hF
  | succ n ih =>
    intro x2 x3 x4 x5 μ hF
    rw [f_X8_findPieces_L70] at hF
    refine x_iload C 4 dX8_findPieces_70 rfl ?_
    refine x_bipush (v := 24) C dX8_findPieces_72 (by decide) ?_
    refine x_icmp_gt (tgt := 93) C dX8_findPieces_74 (by decide) (fun hc => ?_) (fun hc => ?_)
    · replace hF := f_t hc hF
      refine x_iload_n C 2 dX8_findPieces_93 rfl rfl ?_
      refine x_if_le (tgt := 110) C dX8_findPieces_94 (by decide) (fun hc => ?_) (fun hc => ?_)
      · replace hF := f_t hc hF
        refine x_iconst (v := 0) C dX8_findPieces_110 (by decide) ?_
        exact x_pick [(0, .ref (G.ad 82)), (2, .int x2), (3, .int x3), (4, .int x4), (5, .int x5)] [0, 1, 2, 3, 4] rfl (w_X8_findPieces_b111 C hk59 x2 x3 x4 x5 0 μ hF)
      · replace hF := f_f hc hF
        refine x_iload C 4 dX8_findPieces_97 rfl ?_
        refine x_iload C 3 dX8_findPieces_99 rfl ?_
        refine x_isub C dX8_findPieces_101 ?_
        refine x_iload_n C 2 dX8_findPieces_102 rfl rfl ?_
        refine x_icmp_lt (tgt := 110) C dX8_findPieces_103 (by decide) (fun hc => ?_) (fun hc => ?_)
        · replace hF := f_t hc hF
          refine x_iconst (v := 0) C dX8_findPieces_110 (by decide) ?_
          exact x_pick [(0, .ref (G.ad 82)), (2, .int x2), (3, .int x3), (4, .int x4), (5, .int x5)] [0, 1, 2, 3, 4] rfl (w_X8_findPieces_b111 C hk59 x2 x3 x4 x5 0 μ hF)
        · replace hF := f_f hc hF
          refine x_iconst (v := 1) C dX8_findPieces_106 (by decide) ?_
          refine x_goto (tgt := 111) C dX8_findPieces_107 (by decide) ?_
          exact x_pick [(0, .ref (G.ad 82)), (2, .int x2), (3, .int x3), (4, .int x4), (5, .int x5)] [0, 1, 2, 3, 4] rfl (w_X8_findPieces_b111 C hk59 x2 x3 x4 x5 1 μ hF)
    · replace hF := f_f hc hF
      refine x_iload_n C 1 dX8_findPieces_77 rfl rfl ?_
      refine x_iload C 4 dX8_findPieces_78 rfl ?_
      refine x_ishr C dX8_findPieces_80 ?_
      refine x_iconst (v := 1) C dX8_findPieces_81 (by decide) ?_
      refine x_iand C dX8_findPieces_82 ?_
      refine x_iconst (v := 1) C dX8_findPieces_83 (by decide) ?_
      refine x_icmp_ne (tgt := 93) C dX8_findPieces_84 (by decide) (fun hc => ?_) (fun hc => ?_)
      · replace hF := f_f hc hF
        refine x_iload_n C 2 dX8_findPieces_93 rfl rfl ?_
        refine x_if_le (tgt := 110) C dX8_findPieces_94 (by decide) (fun hc => ?_) (fun hc => ?_)
        · replace hF := f_t hc hF
          refine x_iconst (v := 0) C dX8_findPieces_110 (by decide) ?_
          exact x_pick [(0, .ref (G.ad 82)), (2, .int x2), (3, .int x3), (4, .int x4), (5, .int x5)] [0, 1, 2, 3, 4] rfl (w_X8_findPieces_b111 C hk59 x2 x3 x4 x5 0 μ hF)
        · replace hF := f_f hc hF
          refine x_iload C 4 dX8_findPieces_97 rfl ?_
          refine x_iload C 3 dX8_findPieces_99 rfl ?_
          refine x_isub C dX8_findPieces_101 ?_
          refine x_iload_n C 2 dX8_findPieces_102 rfl rfl ?_
          refine x_icmp_lt (tgt := 110) C dX8_findPieces_103 (by decide) (fun hc => ?_) (fun hc => ?_)
          · replace hF := f_t hc hF
            refine x_iconst (v := 0) C dX8_findPieces_110 (by decide) ?_
            exact x_pick [(0, .ref (G.ad 82)), (2, .int x2), (3, .int x3), (4, .int x4), (5, .int x5)] [0, 1, 2, 3, 4] rfl (w_X8_findPieces_b111 C hk59 x2 x3 x4 x5 0 μ hF)
          · replace hF := f_f hc hF
            refine x_iconst (v := 1) C dX8_findPieces_106 (by decide) ?_
            refine x_goto (tgt := 111) C dX8_findPieces_107 (by decide) ?_
            exact x_pick [(0, .ref (G.ad 82)), (2, .int x2), (3, .int x3), (4, .int x4), (5, .int x5)] [0, 1, 2, 3, 4] rfl (w_X8_findPieces_b111 C hk59 x2 x3 x4 x5 1 μ hF)
      · replace hF := f_t hc hF
        refine x_iinc C [(5, .int (x5 + 1)), (0, .ref (G.ad 82)), (2, .int x2), (3, .int x3), (4, .int x4)] 4 dX8_findPieces_87 rfl rfl (by decide) rfl ?_
        refine x_goto (tgt := 70) C dX8_findPieces_90 (by decide) ?_
        exact x_pick [(0, .ref (G.ad 82)), (2, .int x2), (3, .int x3), (4, .int x4), (5, .int (x5 + 1))] [1, 2, 3, 4, 0] rfl (ih x2 x3 x4 (x5 + 1) μ hF)
set_option maxHeartbeats 4000000 in
theorem w_X8_findPieces_L59 {G : Gl} {p : Program} {l : Launch} {e : Env} {s0 : State} {m : MethodId} {args : Array Value} {below : List Frame} {meth : Method} {c : Code} (C : Cx G p s0 m args meth c cX8_findPieces 7 RX8 none) {μf : Mu}  : ∀ (n : Nat) (x2 : Int32) (x3 : Int32) (x4 : Int32) (μ : Mu), f_X8_findPieces_L59 n x2 x3 x4 μ = some μf → X G p l e 1 22 s0 m args below meth c 7 none μf μ 59 [(0, .ref (G.ad 82)), (2, .int x2), (3, .int x3), (4, .int x4)] [] := by
  intro n
  induction n with
  | zero =>
    intro x2 x3 x4 μ hF
    rw [f_X8_findPieces_L59] at hF
    cases hF
  | succ n ih =>
    intro x2 x3 x4 μ hF
    rw [f_X8_findPieces_L59] at hF
    refine x_iload C 3 dX8_findPieces_59 rfl ?_
    refine x_bipush (v := 24) C dX8_findPieces_61 (by decide) ?_
    refine x_icmp_gt (tgt := 183) C dX8_findPieces_63 (by decide) (fun hc => ?_) (fun hc => ?_)
    · replace hF := f_t hc hF
      exact x_vret C dX8_findPieces_183 (Option.some.inj hF)
    · replace hF := f_f hc hF
      refine x_iload C 3 dX8_findPieces_66 rfl ?_
      refine x_istore C [(5, .int x4), (0, .ref (G.ad 82)), (2, .int x2), (3, .int x3), (4, .int x4)] dX8_findPieces_68 (by decide) rfl ?_
      exact x_pick [(0, .ref (G.ad 82)), (2, .int x2), (3, .int x3), (4, .int x4), (5, .int x4)] [1, 2, 3, 4, 0] rfl (w_X8_findPieces_L70 C ih fu x2 x3 x4 x4 μ hF)
set_option maxHeartbeats 4000000 in
theorem w_X8_findPieces_L4 {G : Gl} {p : Program} {l : Launch} {e : Env} {s0 : State} {m : MethodId} {args : Array Value} {below : List Frame} {meth : Method} {c : Code} (C : Cx G p s0 m args meth c cX8_findPieces 7 RX8 none) {μf : Mu}  : ∀ (n : Nat) (x1 : Int32) (x2 : Int32) (x3 : Int32) (μ : Mu), f_X8_findPieces_L4 n x1 x2 x3 μ = some μf → X G p l e 1 22 s0 m args below meth c 7 none μf μ 4 [(0, .ref (G.ad 82)), (1, .int x1), (2, .int x2), (3, .int x3)] [] := by
  intro n
  induction n with
  | zero =>
    intro x1 x2 x3 μ hF
    rw [f_X8_findPieces_L4] at hF
    cases hF
  | succ n ih =>
    intro x1 x2 x3 μ hF
    rw [f_X8_findPieces_L4] at hF
    refine x_iload_n C 3 dX8_findPieces_4 rfl rfl ?_
    refine x_aload_n C 0 dX8_findPieces_5 rfl rfl ?_
    refine x_iload_n C 1 dX8_findPieces_6 rfl rfl ?_
    obtain ⟨q1, hq1, hF⟩ := f_bind hF
    refine x_cVi (rest := [.int x3]) C (c_X8_sizeOf l C.2.2.2.2.2.2.2.2 x1 μ hq1) cw_X8_164 sh_82 rfl rfl ⟨by decide, by decide⟩ rfl rfl (Nat.le_of_ble_eq_true rfl) dX8_findPieces_7 ?_
    refine x_icmp_ge (tgt := 44) C dX8_findPieces_10 (by decide) (fun hc => ?_) (fun hc => ?_)
    · replace hF := f_t hc hF
      refine x_aload_n C 0 dX8_findPieces_44 rfl rfl ?_
      refine x_iconst (v := 0) C dX8_findPieces_45 (by decide) ?_
      refine x_putI C fc_X8 fl_X8_250 sh_82 (by decide) rfl rfl rfl ⟨rfl, rfl⟩ dX8_findPieces_46 ?_
      refine x_letM hF (fun μ2 hF => ?_)
      refine x_aload_n C 0 dX8_findPieces_49 rfl rfl ?_
      refine x_bipush (v := 8) C dX8_findPieces_50 (by decide) ?_
      obtain ⟨q3, hq3, hF⟩ := f_bind hF
      refine x_cVi (rest := []) C (c_X8_styleOf l C.2.2.2.2.2.2.2.2 8 μ2 hq3) cw_X8_171 sh_82 rfl rfl ⟨by decide, by decide⟩ rfl rfl (Nat.le_of_ble_eq_true rfl) dX8_findPieces_52 ?_
      refine x_istore_n C [(3, .int q3), (0, .ref (G.ad 82)), (1, .int x1), (2, .int x2)] dX8_findPieces_55 rfl (by decide) rfl ?_
      refine x_iconst (v := 1) C dX8_findPieces_56 (by decide) ?_
      refine x_istore C [(4, .int 1), (3, .int q3), (0, .ref (G.ad 82)), (1, .int x1), (2, .int x2)] dX8_findPieces_57 (by decide) rfl ?_
      exact x_pick [(0, .ref (G.ad 82)), (2, .int x2), (3, .int q3), (4, .int 1)] [2, 4, 1, 0] rfl (w_X8_findPieces_L59 C fu x2 q3 1 μ2 hF)
    · replace hF := f_f hc hF
      refine x_iload_n C 2 dX8_findPieces_13 rfl rfl ?_
      refine x_iconst (v := 1) C dX8_findPieces_14 (by decide) ?_
      refine x_aload_n C 0 dX8_findPieces_15 rfl rfl ?_
      refine x_getR C fc_X8 fl_X8_78 sh_82 (by decide) rfl dX8_findPieces_16 ?_
      refine x_aload_n C 0 dX8_findPieces_19 rfl rfl ?_
      refine x_aload_n C 0 dX8_findPieces_20 rfl rfl ?_
      refine x_getR C fc_X8 fl_X8_57 sh_82 (by decide) rfl dX8_findPieces_21 ?_
      refine x_aload_n C 0 dX8_findPieces_24 rfl rfl ?_
      refine x_iload_n C 1 dX8_findPieces_25 rfl rfl ?_
      refine x_iload_n C 3 dX8_findPieces_26 rfl rfl ?_
      obtain ⟨q4, hq4, hF⟩ := f_bind hF
      refine x_cVi (rest := [.ref (G.ad 97), .ref (G.ad 82), .ref (G.ad 104), .int 1, .int x2]) C (c_X8_callAt l C.2.2.2.2.2.2.2.2 x1 x3 μ hq4) cw_X8_167 sh_82 rfl rfl ⟨by decide, by decide⟩ rfl rfl (Nat.le_of_ble_eq_true rfl) dX8_findPieces_27 ?_
      obtain ⟨hi5, hF⟩ := f_chk hF
      refine x_iald C sh_97 hi5 dX8_findPieces_30 ?_
      obtain ⟨q6, hq6, hF⟩ := f_bind hF
      refine x_cVi (rest := [.ref (G.ad 104), .int 1, .int x2]) C (c_X8_meant l C.2.2.2.2.2.2.2.2 (μ 97 (ix q4)) μ hq6) cw_X8_153 sh_82 rfl rfl ⟨by decide, by decide⟩ rfl rfl (Nat.le_of_ble_eq_true rfl) dX8_findPieces_31 ?_
      obtain ⟨hi7, hF⟩ := f_chk hF
      refine x_iald C sh_104 hi7 dX8_findPieces_34 ?_
      refine x_ishl C dX8_findPieces_35 ?_
      refine x_ior C dX8_findPieces_36 ?_
      refine x_letI hF (fun y8 hF => ?_)
      refine x_istore_n C [(2, .int y8), (0, .ref (G.ad 82)), (1, .int x1), (3, .int x3)] dX8_findPieces_37 rfl (by decide) rfl ?_
      refine x_iinc C [(3, .int (x3 + 1)), (2, .int y8), (0, .ref (G.ad 82)), (1, .int x1)] 3 dX8_findPieces_38 rfl rfl (by decide) rfl ?_
      refine x_goto (tgt := 4) C dX8_findPieces_41 (by decide) ?_
      exact x_pick [(0, .ref (G.ad 82)), (1, .int x1), (2, .int y8), (3, .int (x3 + 1))] [2, 3, 1, 0] rfl (ih x1 y8 (x3 + 1) μ hF)
set_option maxHeartbeats 4000000 in
theorem w_X8_findPieces {G : Gl} {p : Program} {l : Launch} {e : Env} {s0 : State} {m : MethodId} {args : Array Value} {below : List Frame} {meth : Method} {c : Code} (C : Cx G p s0 m args meth c cX8_findPieces 7 RX8 none) {μf : Mu}  (x1 : Int32) (μ : Mu) (hF : f_X8_findPieces x1 μ = some μf) : X G p l e 1 22 s0 m args below meth c 7 none μf μ 0 [(0, .ref (G.ad 82)), (1, .int x1)] [] := by
  unfold f_X8_findPieces at hF
  refine x_iconst (v := 0) C dX8_findPieces_0 (by decide) ?_
  refine x_istore_n C [(2, .int 0), (0, .ref (G.ad 82)), (1, .int x1)] dX8_findPieces_1 rfl (by decide) rfl ?_
  refine x_iconst (v := 0) C dX8_findPieces_2 (by decide) ?_
  refine x_istore_n C [(3, .int 0), (2, .int 0), (0, .ref (G.ad 82)), (1, .int x1)] dX8_findPieces_3 rfl (by decide) rfl ?_
  exact x_pick [(0, .ref (G.ad 82)), (1, .int x1), (2, .int 0), (3, .int 0)] [2, 3, 1, 0] rfl (w_X8_findPieces_L4 C fu x1 0 0 μ hF)
set_option maxHeartbeats 4000000 in
theorem c_X8_findPieces {G : Gl} (l : Launch) (hA : Ap G) {μf : Mu}  (x1 : Int32) (μ : Mu) (hF : f_X8_findPieces x1 μ = some μf) : Mth G l yX8_findPieces cX8_findPieces 7 none 1 22 [.ref (G.ad 82), .int x1] none μf μ := Mth.of hA (by decide) rfl (Nat.le_of_ble_eq_true rfl) (fun p e s0 m args below meth c C => w_X8_findPieces C x1 μ hF)
set_option maxHeartbeats 4000000 in
theorem w_X8_isWord_b95 {G : Gl} {p : Program} {l : Launch} {e : Env} {s0 : State} {m : MethodId} {args : Array Value} {below : List Frame} {meth : Method} {c : Code} (C : Cx G p s0 m args meth c cX8_isWord 10 RX8 (some .boolean)) {r : Int32}  (μ : Mu) {k18 : Int32 → Int32 → Int32 → Int32 → Int32 → Int32 → Int32 → Int32 → Int32 → Option (Int32)} (hk18 : ∀ (x1 : Int32) (x2 : Int32) (x3 : Int32) (x4 : Int32) (x5 : Int32) (x6 : Int32) (x7 : Int32) (x8 : Int32) (x9 : Int32), k18 x1 x2 x3 x4 x5 x6 x7 x8 x9 = some r → X G p l e 0 0 s0 m args below meth c 10 (some (.int r)) μ μ 18 [(0, .ref (G.ad 82)), (1, .int x1), (2, .int x2), (3, .int x3), (4, .int x4), (5, .int x5), (6, .int x6), (7, .int x7), (8, .int x8), (9, .int x9)] []) (x1 : Int32) (x2 : Int32) (x3 : Int32) (x4 : Int32) (x5 : Int32) (x6 : Int32) (x7 : Int32) (x9 : Int32) (t0 : Int32) (t1 : Int32) (hF : f_X8_isWord_b95 k18 μ x1 x2 x3 x4 x5 x6 x7 x9 t0 t1 = some r) : X G p l e 0 0 s0 m args below meth c 10 (some (.int r)) μ μ 95 [(0, .ref (G.ad 82)), (1, .int x1), (2, .int x2), (3, .int x3), (4, .int x4), (5, .int x5), (6, .int x6), (7, .int x7), (9, .int x9)] [.int t1, .int t0] := by
  unfold f_X8_isWord_b95 at hF
  refine x_icmp_ne (tgt := 102) C dX8_isWord_95 (by decide) (fun hc => ?_) (fun hc => ?_)
  · replace hF := f_f hc hF
    refine x_iconst (v := 0) C dX8_isWord_102 (by decide) ?_
    refine x_istore C [(8, .int 0), (0, .ref (G.ad 82)), (1, .int x1), (2, .int x2), (3, .int x3), (4, .int x4), (5, .int x5), (6, .int x6), (7, .int x7), (9, .int x9)] dX8_isWord_103 (by decide) rfl ?_
    refine x_iinc C [(9, .int (x9 + 1)), (8, .int 0), (0, .ref (G.ad 82)), (1, .int x1), (2, .int x2), (3, .int x3), (4, .int x4), (5, .int x5), (6, .int x6), (7, .int x7)] 9 dX8_isWord_105 rfl rfl (by decide) rfl ?_
    refine x_goto (tgt := 18) C dX8_isWord_108 (by decide) ?_
    exact x_pick [(0, .ref (G.ad 82)), (1, .int x1), (2, .int x2), (3, .int x3), (4, .int x4), (5, .int x5), (6, .int x6), (7, .int x7), (8, .int 0), (9, .int (x9 + 1))] [2, 3, 4, 5, 6, 7, 8, 9, 1, 0] rfl (hk18 x1 x2 x3 x4 x5 x6 x7 0 (x9 + 1) hF)
  · replace hF := f_t hc hF
    refine x_iconst (v := 1) C dX8_isWord_98 (by decide) ?_
    refine x_goto (tgt := 103) C dX8_isWord_99 (by decide) ?_
    refine x_istore C [(8, .int 1), (0, .ref (G.ad 82)), (1, .int x1), (2, .int x2), (3, .int x3), (4, .int x4), (5, .int x5), (6, .int x6), (7, .int x7), (9, .int x9)] dX8_isWord_103 (by decide) rfl ?_
    refine x_iinc C [(9, .int (x9 + 1)), (8, .int 1), (0, .ref (G.ad 82)), (1, .int x1), (2, .int x2), (3, .int x3), (4, .int x4), (5, .int x5), (6, .int x6), (7, .int x7)] 9 dX8_isWord_105 rfl rfl (by decide) rfl ?_
    refine x_goto (tgt := 18) C dX8_isWord_108 (by decide) ?_
    exact x_pick [(0, .ref (G.ad 82)), (1, .int x1), (2, .int x2), (3, .int x3), (4, .int x4), (5, .int x5), (6, .int x6), (7, .int x7), (8, .int 1), (9, .int (x9 + 1))] [2, 3, 4, 5, 6, 7, 8, 9, 1, 0] rfl (hk18 x1 x2 x3 x4 x5 x6 x7 1 (x9 + 1) hF)
set_option maxHeartbeats 4000000 in
theorem w_X8_isWord_L18 {G : Gl} {p : Program} {l : Launch} {e : Env} {s0 : State} {m : MethodId} {args : Array Value} {below : List Frame} {meth : Method} {c : Code} (C : Cx G p s0 m args meth c cX8_isWord 10 RX8 (some .boolean)) {r : Int32}  (μ : Mu) : ∀ (n : Nat) (x1 : Int32) (x2 : Int32) (x3 : Int32) (x4 : Int32) (x5 : Int32) (x6 : Int32) (x7 : Int32) (x8 : Int32) (x9 : Int32), f_X8_isWord_L18 μ n x1 x2 x3 x4 x5 x6 x7 x8 x9 = some r → X G p l e 0 0 s0 m args below meth c 10 (some (.int r)) μ μ 18 [(0, .ref (G.ad 82)), (1, .int x1), (2, .int x2), (3, .int x3), (4, .int x4), (5, .int x5), (6, .int x6), (7, .int x7), (8, .int x8), (9, .int x9)] [] := by
  intro n
  induction n with
  | zero =>
    intro x1 x2 x3 x4 x5 x6 x7 x8 x9 hF
    rw [f_X8_isWord_L18] at hF
    cases hF
  | succ n ih =>
    intro x1 x2 x3 x4 x5 x6 x7 x8 x9 hF
    rw [f_X8_isWord_L18] at hF
    refine x_iload C 9 dX8_isWord_18 rfl ?_
    refine x_iload_n C 1 dX8_isWord_20 rfl rfl ?_
    refine x_icmp_ge (tgt := 111) C dX8_isWord_21 (by decide) (fun hc => ?_) (fun hc => ?_)
    · replace hF := f_t hc hF
      refine x_iload C 8 dX8_isWord_111 rfl ?_
      obtain ⟨hb1, hF⟩ := f_chk hF
      exact x_zret C dX8_isWord_113 hb1 (Option.some.inj hF) rfl
    · replace hF := f_f hc hF
      refine x_iload C 8 dX8_isWord_24 rfl ?_
      refine x_if_eq (tgt := 111) C dX8_isWord_26 (by decide) (fun hc => ?_) (fun hc => ?_)
      · replace hF := f_t hc hF
        refine x_iload C 8 dX8_isWord_111 rfl ?_
        obtain ⟨hb2, hF⟩ := f_chk hF
        exact x_zret C dX8_isWord_113 hb2 (Option.some.inj hF) rfl
      · replace hF := f_f hc hF
        refine x_aload_n C 0 dX8_isWord_29 rfl rfl ?_
        refine x_getR C fc_X8 fl_X8_102 sh_82 (by decide) rfl dX8_isWord_30 ?_
        refine x_aload_n C 0 dX8_isWord_33 rfl rfl ?_
        refine x_getI C fc_X8 fl_X8_279 sh_82 (by decide) rfl dX8_isWord_34 ?_
        refine x_iload C 9 dX8_isWord_37 rfl ?_
        refine x_iadd C dX8_isWord_39 ?_
        obtain ⟨hi3, hF⟩ := f_chk hF
        refine x_iald C sh_112 hi3 dX8_isWord_40 ?_
        refine x_iload C 9 dX8_isWord_41 rfl ?_
        refine x_if_ne (tgt := 50) C dX8_isWord_43 (by decide) (fun hc => ?_) (fun hc => ?_)
        · replace hF := f_f hc hF
          refine x_iload C 9 dX8_isWord_50 rfl ?_
          refine x_iconst (v := 1) C dX8_isWord_52 (by decide) ?_
          refine x_icmp_ne (tgt := 60) C dX8_isWord_53 (by decide) (fun hc => ?_) (fun hc => ?_)
          · replace hF := f_f hc hF
            refine x_iload C 9 dX8_isWord_60 rfl ?_
            refine x_iconst (v := 2) C dX8_isWord_62 (by decide) ?_
            refine x_icmp_ne (tgt := 71) C dX8_isWord_63 (by decide) (fun hc => ?_) (fun hc => ?_)
            · replace hF := f_f hc hF
              refine x_iload C 9 dX8_isWord_71 rfl ?_
              refine x_iconst (v := 3) C dX8_isWord_73 (by decide) ?_
              refine x_icmp_ne (tgt := 82) C dX8_isWord_74 (by decide) (fun hc => ?_) (fun hc => ?_)
              · replace hF := f_f hc hF
                refine x_iload C 9 dX8_isWord_82 rfl ?_
                refine x_iconst (v := 4) C dX8_isWord_84 (by decide) ?_
                refine x_icmp_ne (tgt := 93) C dX8_isWord_85 (by decide) (fun hc => ?_) (fun hc => ?_)
                · replace hF := f_f hc hF
                  refine x_iload C 7 dX8_isWord_93 rfl ?_
                  exact x_pick [(0, .ref (G.ad 82)), (1, .int x1), (2, .int x2), (3, .int x3), (4, .int x4), (5, .int x5), (6, .int x6), (7, .int x7), (9, .int x9)] [0, 1, 2, 3, 4, 5, 6, 7, 9] rfl (w_X8_isWord_b95 C μ ih x1 x2 x3 x4 x5 x6 x7 x9 (μ 112 (ix ((μ 82 40) + x9))) x7 hF)
                · replace hF := f_t hc hF
                  refine x_iload C 6 dX8_isWord_88 rfl ?_
                  refine x_goto (tgt := 95) C dX8_isWord_90 (by decide) ?_
                  exact x_pick [(0, .ref (G.ad 82)), (1, .int x1), (2, .int x2), (3, .int x3), (4, .int x4), (5, .int x5), (6, .int x6), (7, .int x7), (9, .int x9)] [0, 1, 2, 3, 4, 5, 6, 7, 9] rfl (w_X8_isWord_b95 C μ ih x1 x2 x3 x4 x5 x6 x7 x9 (μ 112 (ix ((μ 82 40) + x9))) x6 hF)
              · replace hF := f_t hc hF
                refine x_iload C 5 dX8_isWord_77 rfl ?_
                refine x_goto (tgt := 95) C dX8_isWord_79 (by decide) ?_
                exact x_pick [(0, .ref (G.ad 82)), (1, .int x1), (2, .int x2), (3, .int x3), (4, .int x4), (5, .int x5), (6, .int x6), (7, .int x7), (9, .int x9)] [0, 1, 2, 3, 4, 5, 6, 7, 9] rfl (w_X8_isWord_b95 C μ ih x1 x2 x3 x4 x5 x6 x7 x9 (μ 112 (ix ((μ 82 40) + x9))) x5 hF)
            · replace hF := f_t hc hF
              refine x_iload C 4 dX8_isWord_66 rfl ?_
              refine x_goto (tgt := 95) C dX8_isWord_68 (by decide) ?_
              exact x_pick [(0, .ref (G.ad 82)), (1, .int x1), (2, .int x2), (3, .int x3), (4, .int x4), (5, .int x5), (6, .int x6), (7, .int x7), (9, .int x9)] [0, 1, 2, 3, 4, 5, 6, 7, 9] rfl (w_X8_isWord_b95 C μ ih x1 x2 x3 x4 x5 x6 x7 x9 (μ 112 (ix ((μ 82 40) + x9))) x4 hF)
          · replace hF := f_t hc hF
            refine x_iload_n C 3 dX8_isWord_56 rfl rfl ?_
            refine x_goto (tgt := 95) C dX8_isWord_57 (by decide) ?_
            exact x_pick [(0, .ref (G.ad 82)), (1, .int x1), (2, .int x2), (3, .int x3), (4, .int x4), (5, .int x5), (6, .int x6), (7, .int x7), (9, .int x9)] [0, 1, 2, 3, 4, 5, 6, 7, 9] rfl (w_X8_isWord_b95 C μ ih x1 x2 x3 x4 x5 x6 x7 x9 (μ 112 (ix ((μ 82 40) + x9))) x3 hF)
        · replace hF := f_t hc hF
          refine x_iload_n C 2 dX8_isWord_46 rfl rfl ?_
          refine x_goto (tgt := 95) C dX8_isWord_47 (by decide) ?_
          exact x_pick [(0, .ref (G.ad 82)), (1, .int x1), (2, .int x2), (3, .int x3), (4, .int x4), (5, .int x5), (6, .int x6), (7, .int x7), (9, .int x9)] [0, 1, 2, 3, 4, 5, 6, 7, 9] rfl (w_X8_isWord_b95 C μ ih x1 x2 x3 x4 x5 x6 x7 x9 (μ 112 (ix ((μ 82 40) + x9))) x2 hF)
set_option maxHeartbeats 4000000 in
theorem w_X8_isWord {G : Gl} {p : Program} {l : Launch} {e : Env} {s0 : State} {m : MethodId} {args : Array Value} {below : List Frame} {meth : Method} {c : Code} (C : Cx G p s0 m args meth c cX8_isWord 10 RX8 (some .boolean)) {r : Int32}  (x1 : Int32) (x2 : Int32) (x3 : Int32) (x4 : Int32) (x5 : Int32) (x6 : Int32) (x7 : Int32) (μ : Mu) (hF : f_X8_isWord x1 x2 x3 x4 x5 x6 x7 μ = some r) : X G p l e 0 0 s0 m args below meth c 10 (some (.int r)) μ μ 0 [(0, .ref (G.ad 82)), (1, .int x1), (2, .int x2), (3, .int x3), (4, .int x4), (5, .int x5), (6, .int x6), (7, .int x7)] [] := by
  unfold f_X8_isWord at hF
  refine x_aload_n C 0 dX8_isWord_0 rfl rfl ?_
  refine x_getI C fc_X8 fl_X8_286 sh_82 (by decide) rfl dX8_isWord_1 ?_
  refine x_iload_n C 1 dX8_isWord_4 rfl rfl ?_
  refine x_icmp_ne (tgt := 12) C dX8_isWord_5 (by decide) (fun hc => ?_) (fun hc => ?_)
  · replace hF := f_f hc hF
    refine x_iconst (v := 0) C dX8_isWord_12 (by decide) ?_
    refine x_istore C [(8, .int 0), (0, .ref (G.ad 82)), (1, .int x1), (2, .int x2), (3, .int x3), (4, .int x4), (5, .int x5), (6, .int x6), (7, .int x7)] dX8_isWord_13 (by decide) rfl ?_
    refine x_iconst (v := 0) C dX8_isWord_15 (by decide) ?_
    refine x_istore C [(9, .int 0), (8, .int 0), (0, .ref (G.ad 82)), (1, .int x1), (2, .int x2), (3, .int x3), (4, .int x4), (5, .int x5), (6, .int x6), (7, .int x7)] dX8_isWord_16 (by decide) rfl ?_
    exact x_pick [(0, .ref (G.ad 82)), (1, .int x1), (2, .int x2), (3, .int x3), (4, .int x4), (5, .int x5), (6, .int x6), (7, .int x7), (8, .int 0), (9, .int 0)] [2, 3, 4, 5, 6, 7, 8, 9, 1, 0] rfl (w_X8_isWord_L18 C μ fu x1 x2 x3 x4 x5 x6 x7 0 0 hF)
  · replace hF := f_t hc hF
    refine x_iconst (v := 1) C dX8_isWord_8 (by decide) ?_
    refine x_goto (tgt := 13) C dX8_isWord_9 (by decide) ?_
    refine x_istore C [(8, .int 1), (0, .ref (G.ad 82)), (1, .int x1), (2, .int x2), (3, .int x3), (4, .int x4), (5, .int x5), (6, .int x6), (7, .int x7)] dX8_isWord_13 (by decide) rfl ?_
    refine x_iconst (v := 0) C dX8_isWord_15 (by decide) ?_
    refine x_istore C [(9, .int 0), (8, .int 1), (0, .ref (G.ad 82)), (1, .int x1), (2, .int x2), (3, .int x3), (4, .int x4), (5, .int x5), (6, .int x6), (7, .int x7)] dX8_isWord_16 (by decide) rfl ?_
    exact x_pick [(0, .ref (G.ad 82)), (1, .int x1), (2, .int x2), (3, .int x3), (4, .int x4), (5, .int x5), (6, .int x6), (7, .int x7), (8, .int 1), (9, .int 0)] [2, 3, 4, 5, 6, 7, 8, 9, 1, 0] rfl (w_X8_isWord_L18 C μ fu x1 x2 x3 x4 x5 x6 x7 1 0 hF)
set_option maxHeartbeats 4000000 in
theorem c_X8_isWord {G : Gl} (l : Launch) (hA : Ap G) {r : Int32}  (x1 : Int32) (x2 : Int32) (x3 : Int32) (x4 : Int32) (x5 : Int32) (x6 : Int32) (x7 : Int32) (μ : Mu) (hF : f_X8_isWord x1 x2 x3 x4 x5 x6 x7 μ = some r) : Mth G l yX8_isWord cX8_isWord 10 (some .boolean) 0 0 [.ref (G.ad 82), .int x1, .int x2, .int x3, .int x4, .int x5, .int x6, .int x7] (some (.int r)) μ μ := Mth.of hA (by decide) rfl (Nat.le_of_ble_eq_true rfl) (fun p e s0 m args below meth c C => w_X8_isWord C x1 x2 x3 x4 x5 x6 x7 μ hF)
set_option maxHeartbeats 4000000 in
theorem w_X8_join {G : Gl} {p : Program} {l : Launch} {e : Env} {s0 : State} {m : MethodId} {args : Array Value} {below : List Frame} {meth : Method} {c : Code} (C : Cx G p s0 m args meth c cX8_join 3 RX8 (some .int)) {r : Int32} {μf : Mu}  (x1 : Int32) (x2 : Int32) (μ : Mu) (hF : f_X8_join x1 x2 μ = some (r, μf)) : X G p l e 2 46 s0 m args below meth c 3 (some (.int r)) μf μ 0 [(0, .ref (G.ad 82)), (1, .int x1), (2, .int x2)] [] := by
  unfold f_X8_join at hF
  refine x_aload_n C 0 dX8_join_0 rfl rfl ?_
  refine x_iload_n C 1 dX8_join_1 rfl rfl ?_
  refine x_cVi (rest := []) C (c_X8_noWork l C.2.2.2.2.2.2.2.2 x1 μ) cw_X8_147 sh_82 rfl rfl ⟨by decide, by decide⟩ rfl rfl (Nat.le_of_ble_eq_true rfl) dX8_join_2 ?_
  refine x_if_ne (tgt := 16) C dX8_join_5 (by decide) (fun hc => ?_) (fun hc => ?_)
  · replace hF := f_f hc hF
    refine x_sipush (v := (-1001)) C dX8_join_16 (by decide) ?_
    exact x_iret C dX8_join_19 (Prod.mk.inj (Option.some.inj hF)).1 (Prod.mk.inj (Option.some.inj hF)).2
  · replace hF := f_t hc hF
    refine x_aload_n C 0 dX8_join_8 rfl rfl ?_
    refine x_iload_n C 2 dX8_join_9 rfl rfl ?_
    refine x_cVi (rest := []) C (c_X8_noWork l C.2.2.2.2.2.2.2.2 x2 μ) cw_X8_147 sh_82 rfl rfl ⟨by decide, by decide⟩ rfl rfl (Nat.le_of_ble_eq_true rfl) dX8_join_10 ?_
    refine x_if_eq (tgt := 20) C dX8_join_13 (by decide) (fun hc => ?_) (fun hc => ?_)
    · replace hF := f_t hc hF
      refine x_aload_n C 0 dX8_join_20 rfl rfl ?_
      refine x_iconst (v := 4) C dX8_join_21 (by decide) ?_
      refine x_putI C fc_X8 fl_X8_53 sh_82 (by decide) rfl rfl rfl ⟨rfl, rfl⟩ dX8_join_22 ?_
      refine x_letM hF (fun μ1 hF => ?_)
      refine x_aload_n C 0 dX8_join_25 rfl rfl ?_
      refine x_getR C fc_X8 fl_X8_34 sh_82 (by decide) rfl dX8_join_26 ?_
      refine x_bipush (v := 96) C dX8_join_29 (by decide) ?_
      refine x_iload_n C 1 dX8_join_31 rfl rfl ?_
      refine x_iadd C dX8_join_32 ?_
      obtain ⟨hi2, hF⟩ := f_chk hF
      refine x_iald C sh_91 hi2 dX8_join_33 ?_
      refine x_if_ge (tgt := 46) C dX8_join_34 (by decide) (fun hc => ?_) (fun hc => ?_)
      · replace hF := f_t hc hF
        refine x_sipush (v := (-1003)) C dX8_join_46 (by decide) ?_
        exact x_iret C dX8_join_49 (Prod.mk.inj (Option.some.inj hF)).1 (Prod.mk.inj (Option.some.inj hF)).2
      · replace hF := f_f hc hF
        refine x_aload_n C 0 dX8_join_37 rfl rfl ?_
        refine x_iload_n C 2 dX8_join_38 rfl rfl ?_
        obtain ⟨q3, hq3, hF⟩ := f_bind hF
        refine x_cVi (rest := []) C (c_X8_meant l C.2.2.2.2.2.2.2.2 x2 μ1 hq3) cw_X8_153 sh_82 rfl rfl ⟨by decide, by decide⟩ rfl rfl (Nat.le_of_ble_eq_true rfl) dX8_join_39 ?_
        refine x_iload_n C 1 dX8_join_42 rfl rfl ?_
        refine x_icmp_ne (tgt := 50) C dX8_join_43 (by decide) (fun hc => ?_) (fun hc => ?_)
        · replace hF := f_f hc hF
          refine x_aload_n C 0 dX8_join_50 rfl rfl ?_
          refine x_getR C fc_X8 fl_X8_34 sh_82 (by decide) rfl dX8_join_51 ?_
          refine x_bipush (v := 96) C dX8_join_54 (by decide) ?_
          refine x_iload_n C 1 dX8_join_56 rfl rfl ?_
          refine x_iadd C dX8_join_57 ?_
          refine x_iload_n C 2 dX8_join_58 rfl rfl ?_
          refine x_iast C sh_91 hi2 dX8_join_59 ?_
          refine x_letM hF (fun μ4 hF => ?_)
          refine x_aload_n C 0 dX8_join_60 rfl rfl ?_
          refine x_iload_n C 2 dX8_join_61 rfl rfl ?_
          obtain ⟨q5, hq5, hF⟩ := f_bind hF
          refine x_cVi (rest := []) C (c_X8_meant l C.2.2.2.2.2.2.2.2 x2 μ4 hq5) cw_X8_153 sh_82 rfl rfl ⟨by decide, by decide⟩ rfl rfl (Nat.le_of_ble_eq_true rfl) dX8_join_62 ?_
          exact x_iret C dX8_join_65 (Prod.mk.inj (Option.some.inj hF)).1 (Prod.mk.inj (Option.some.inj hF)).2
        · replace hF := f_t hc hF
          refine x_sipush (v := (-1003)) C dX8_join_46 (by decide) ?_
          exact x_iret C dX8_join_49 (Prod.mk.inj (Option.some.inj hF)).1 (Prod.mk.inj (Option.some.inj hF)).2
    · replace hF := f_f hc hF
      refine x_sipush (v := (-1001)) C dX8_join_16 (by decide) ?_
      exact x_iret C dX8_join_19 (Prod.mk.inj (Option.some.inj hF)).1 (Prod.mk.inj (Option.some.inj hF)).2
set_option maxHeartbeats 4000000 in
theorem c_X8_join {G : Gl} (l : Launch) (hA : Ap G) {r : Int32} {μf : Mu}  (x1 : Int32) (x2 : Int32) (μ : Mu) (hF : f_X8_join x1 x2 μ = some (r, μf)) : Mth G l yX8_join cX8_join 3 (some .int) 2 46 [.ref (G.ad 82), .int x1, .int x2] (some (.int r)) μf μ := Mth.of hA (by decide) rfl (Nat.le_of_ble_eq_true rfl) (fun p e s0 m args below meth c C => w_X8_join C x1 x2 μ hF)
set_option maxHeartbeats 4000000 in
theorem w_X8_keep {G : Gl} {p : Program} {l : Launch} {e : Env} {s0 : State} {m : MethodId} {args : Array Value} {below : List Frame} {meth : Method} {c : Code} (C : Cx G p s0 m args meth c cX8_keep 2 RX8 (some .int)) {r : Int32} {μf : Mu}  (x1 : Int32) (μ : Mu) (hF : f_X8_keep x1 μ = some (r, μf)) : X G p l e 5 117 s0 m args below meth c 2 (some (.int r)) μf μ 0 [(0, .ref (G.ad 82)), (1, .int x1)] [] := by
  unfold f_X8_keep at hF
  refine x_iload_n C 1 dX8_keep_0 rfl rfl ?_
  refine x_i2l C dX8_keep_1 ?_
  refine x_lconst (v := 0) C dX8_keep_2 (by decide) ?_
  refine x_ldc2 C cl_X8_319 dX8_keep_3 ?_
  refine x_cSi (rest := []) C (c_X8_in l C.2.2.2.2.2.2.2.2 ((x1 : Int32).toInt64) 0 3 μ) cw_X8_127 ⟨by decide, by decide⟩ rfl rfl (Nat.le_of_ble_eq_true rfl) dX8_keep_6 ?_
  refine x_if_ne (tgt := 16) C dX8_keep_9 (by decide) (fun hc => ?_) (fun hc => ?_)
  · replace hF := f_f hc hF
    refine x_aload_n C 0 dX8_keep_16 rfl rfl ?_
    refine x_iconst (v := 4) C dX8_keep_17 (by decide) ?_
    refine x_iload_n C 1 dX8_keep_18 rfl rfl ?_
    obtain ⟨q1, hq1, hF⟩ := f_bind hF
    refine x_cVv (rest := []) C (c_X8_copySlot l C.2.2.2.2.2.2.2.2 4 x1 μ hq1) cw_X8_321 sh_82 rfl rfl ⟨by decide, by decide⟩ rfl rfl (Nat.le_of_ble_eq_true rfl) dX8_keep_19 ?_
    refine x_aload_n C 0 dX8_keep_22 rfl rfl ?_
    refine x_getR C fc_X8 fl_X8_49 sh_82 (by decide) rfl dX8_keep_23 ?_
    refine x_iload_n C 1 dX8_keep_26 rfl rfl ?_
    refine x_iconst (v := 1) C dX8_keep_27 (by decide) ?_
    obtain ⟨hi2, hF⟩ := f_chk hF
    refine x_zast C sh_96 hi2 (by decide) dX8_keep_28 ?_
    refine x_letM hF (fun μ3 hF => ?_)
    refine x_aload_n C 0 dX8_keep_29 rfl rfl ?_
    refine x_iconst (v := 4) C dX8_keep_30 (by decide) ?_
    obtain ⟨q4, hq4, hF⟩ := f_bind hF
    refine x_cVv (rest := []) C (c_X8_findAll l C.2.2.2.2.2.2.2.2 4 μ3 hq4) cw_X8_221 sh_82 rfl rfl ⟨by decide, by decide⟩ rfl rfl (Nat.le_of_ble_eq_true rfl) dX8_keep_31 ?_
    refine x_aload_n C 0 dX8_keep_34 rfl rfl ?_
    refine x_getI C fc_X8 fl_X8_158 sh_82 (by decide) rfl dX8_keep_35 ?_
    exact x_iret C dX8_keep_38 (Prod.mk.inj (Option.some.inj hF)).1 (Prod.mk.inj (Option.some.inj hF)).2
  · replace hF := f_t hc hF
    refine x_sipush (v := (-1001)) C dX8_keep_12 (by decide) ?_
    exact x_iret C dX8_keep_15 (Prod.mk.inj (Option.some.inj hF)).1 (Prod.mk.inj (Option.some.inj hF)).2
set_option maxHeartbeats 4000000 in
theorem c_X8_keep {G : Gl} (l : Launch) (hA : Ap G) {r : Int32} {μf : Mu}  (x1 : Int32) (μ : Mu) (hF : f_X8_keep x1 μ = some (r, μf)) : Mth G l yX8_keep cX8_keep 2 (some .int) 5 117 [.ref (G.ad 82), .int x1] (some (.int r)) μf μ := Mth.of hA (by decide) rfl (Nat.le_of_ble_eq_true rfl) (fun p e s0 m args below meth c C => w_X8_keep C x1 μ hF)
set_option maxHeartbeats 4000000 in
theorem w_X8_kindOf_b366 {G : Gl} {p : Program} {l : Launch} {e : Env} {s0 : State} {m : MethodId} {args : Array Value} {below : List Frame} {meth : Method} {c : Code} (C : Cx G p s0 m args meth c cX8_kindOf 1 RX8 (some .int)) {r : Int32}  (μ : Mu) (hF : f_X8_kindOf_b366 μ  = some r) : X G p l e 1 29 s0 m args below meth c 1 (some (.int r)) μ μ 366 [(0, .ref (G.ad 82))] [] := by
  unfold f_X8_kindOf_b366 at hF
  refine x_aload_n C 0 dX8_kindOf_366 rfl rfl ?_
  refine x_iconst (v := 3) C dX8_kindOf_367 (by decide) ?_
  refine x_bipush (v := 114) C dX8_kindOf_368 (by decide) ?_
  refine x_bipush (v := 117) C dX8_kindOf_370 (by decide) ?_
  refine x_bipush (v := 110) C dX8_kindOf_372 (by decide) ?_
  refine x_iconst (v := 0) C dX8_kindOf_374 (by decide) ?_
  refine x_iconst (v := 0) C dX8_kindOf_375 (by decide) ?_
  refine x_iconst (v := 0) C dX8_kindOf_376 (by decide) ?_
  obtain ⟨q1, hq1, hF⟩ := f_bind hF
  refine x_cVi (rest := []) C (c_X8_isWord l C.2.2.2.2.2.2.2.2 3 114 117 110 0 0 0 μ hq1) cw_X8_297 sh_82 rfl rfl ⟨by decide, by decide⟩ rfl rfl (Nat.le_of_ble_eq_true rfl) dX8_kindOf_377 ?_
  refine x_if_eq (tgt := 386) C dX8_kindOf_380 (by decide) (fun hc => ?_) (fun hc => ?_)
  · replace hF := f_t hc hF
    refine x_aload_n C 0 dX8_kindOf_386 rfl rfl ?_
    refine x_iconst (v := 5) C dX8_kindOf_387 (by decide) ?_
    refine x_bipush (v := 112) C dX8_kindOf_388 (by decide) ?_
    refine x_bipush (v := 97) C dX8_kindOf_390 (by decide) ?_
    refine x_bipush (v := 103) C dX8_kindOf_392 (by decide) ?_
    refine x_bipush (v := 101) C dX8_kindOf_394 (by decide) ?_
    refine x_bipush (v := 115) C dX8_kindOf_396 (by decide) ?_
    refine x_iconst (v := 0) C dX8_kindOf_398 (by decide) ?_
    obtain ⟨q2, hq2, hF⟩ := f_bind hF
    refine x_cVi (rest := []) C (c_X8_isWord l C.2.2.2.2.2.2.2.2 5 112 97 103 101 115 0 μ hq2) cw_X8_297 sh_82 rfl rfl ⟨by decide, by decide⟩ rfl rfl (Nat.le_of_ble_eq_true rfl) dX8_kindOf_399 ?_
    refine x_if_eq (tgt := 410) C dX8_kindOf_402 (by decide) (fun hc => ?_) (fun hc => ?_)
    · replace hF := f_t hc hF
      refine x_iconst (v := (-1)) C dX8_kindOf_410 (by decide) ?_
      exact x_iret C dX8_kindOf_411 (Option.some.inj hF) rfl
    · replace hF := f_f hc hF
      refine x_bipush (v := 9) C dX8_kindOf_405 (by decide) ?_
      refine x_goto (tgt := 411) C dX8_kindOf_407 (by decide) ?_
      exact x_iret C dX8_kindOf_411 (Option.some.inj hF) rfl
  · replace hF := f_f hc hF
    refine x_bipush (v := 8) C dX8_kindOf_383 (by decide) ?_
    exact x_iret C dX8_kindOf_385 (Option.some.inj hF) rfl
set_option maxHeartbeats 4000000 in
theorem w_X8_kindOf_b243 {G : Gl} {p : Program} {l : Launch} {e : Env} {s0 : State} {m : MethodId} {args : Array Value} {below : List Frame} {meth : Method} {c : Code} (C : Cx G p s0 m args meth c cX8_kindOf 1 RX8 (some .int)) {r : Int32}  (μ : Mu) (hF : f_X8_kindOf_b243 μ  = some r) : X G p l e 1 29 s0 m args below meth c 1 (some (.int r)) μ μ 243 [(0, .ref (G.ad 82))] [] := by
  unfold f_X8_kindOf_b243 at hF
  refine x_aload_n C 0 dX8_kindOf_243 rfl rfl ?_
  refine x_getI C fc_X8 fl_X8_286 sh_82 (by decide) rfl dX8_kindOf_244 ?_
  refine x_bipush (v := 7) C dX8_kindOf_247 (by decide) ?_
  refine x_icmp_ne (tgt := 366) C dX8_kindOf_249 (by decide) (fun hc => ?_) (fun hc => ?_)
  · replace hF := f_f hc hF
    exact x_pick [(0, .ref (G.ad 82))] [0] rfl (w_X8_kindOf_b366 C μ  hF)
  · replace hF := f_t hc hF
    refine x_aload_n C 0 dX8_kindOf_252 rfl rfl ?_
    refine x_getR C fc_X8 fl_X8_102 sh_82 (by decide) rfl dX8_kindOf_253 ?_
    refine x_aload_n C 0 dX8_kindOf_256 rfl rfl ?_
    refine x_getI C fc_X8 fl_X8_279 sh_82 (by decide) rfl dX8_kindOf_257 ?_
    obtain ⟨hi1, hF⟩ := f_chk hF
    refine x_iald C sh_112 hi1 dX8_kindOf_260 ?_
    refine x_bipush (v := 108) C dX8_kindOf_261 (by decide) ?_
    refine x_icmp_ne (tgt := 366) C dX8_kindOf_263 (by decide) (fun hc => ?_) (fun hc => ?_)
    · replace hF := f_f hc hF
      exact x_pick [(0, .ref (G.ad 82))] [0] rfl (w_X8_kindOf_b366 C μ  hF)
    · replace hF := f_t hc hF
      refine x_aload_n C 0 dX8_kindOf_266 rfl rfl ?_
      refine x_getR C fc_X8 fl_X8_102 sh_82 (by decide) rfl dX8_kindOf_267 ?_
      refine x_aload_n C 0 dX8_kindOf_270 rfl rfl ?_
      refine x_getI C fc_X8 fl_X8_279 sh_82 (by decide) rfl dX8_kindOf_271 ?_
      refine x_iconst (v := 1) C dX8_kindOf_274 (by decide) ?_
      refine x_iadd C dX8_kindOf_275 ?_
      obtain ⟨hi2, hF⟩ := f_chk hF
      refine x_iald C sh_112 hi2 dX8_kindOf_276 ?_
      refine x_bipush (v := 101) C dX8_kindOf_277 (by decide) ?_
      refine x_icmp_ne (tgt := 366) C dX8_kindOf_279 (by decide) (fun hc => ?_) (fun hc => ?_)
      · replace hF := f_f hc hF
        exact x_pick [(0, .ref (G.ad 82))] [0] rfl (w_X8_kindOf_b366 C μ  hF)
      · replace hF := f_t hc hF
        refine x_aload_n C 0 dX8_kindOf_282 rfl rfl ?_
        refine x_getR C fc_X8 fl_X8_102 sh_82 (by decide) rfl dX8_kindOf_283 ?_
        refine x_aload_n C 0 dX8_kindOf_286 rfl rfl ?_
        refine x_getI C fc_X8 fl_X8_279 sh_82 (by decide) rfl dX8_kindOf_287 ?_
        refine x_iconst (v := 2) C dX8_kindOf_290 (by decide) ?_
        refine x_iadd C dX8_kindOf_291 ?_
        obtain ⟨hi3, hF⟩ := f_chk hF
        refine x_iald C sh_112 hi3 dX8_kindOf_292 ?_
        refine x_bipush (v := 116) C dX8_kindOf_293 (by decide) ?_
        refine x_icmp_ne (tgt := 366) C dX8_kindOf_295 (by decide) (fun hc => ?_) (fun hc => ?_)
        · replace hF := f_f hc hF
          exact x_pick [(0, .ref (G.ad 82))] [0] rfl (w_X8_kindOf_b366 C μ  hF)
        · replace hF := f_t hc hF
          refine x_aload_n C 0 dX8_kindOf_298 rfl rfl ?_
          refine x_getR C fc_X8 fl_X8_102 sh_82 (by decide) rfl dX8_kindOf_299 ?_
          refine x_aload_n C 0 dX8_kindOf_302 rfl rfl ?_
          refine x_getI C fc_X8 fl_X8_279 sh_82 (by decide) rfl dX8_kindOf_303 ?_
          refine x_iconst (v := 3) C dX8_kindOf_306 (by decide) ?_
          refine x_iadd C dX8_kindOf_307 ?_
          obtain ⟨hi4, hF⟩ := f_chk hF
          refine x_iald C sh_112 hi4 dX8_kindOf_308 ?_
          refine x_bipush (v := 116) C dX8_kindOf_309 (by decide) ?_
          refine x_icmp_ne (tgt := 366) C dX8_kindOf_311 (by decide) (fun hc => ?_) (fun hc => ?_)
          · replace hF := f_f hc hF
            exact x_pick [(0, .ref (G.ad 82))] [0] rfl (w_X8_kindOf_b366 C μ  hF)
          · replace hF := f_t hc hF
            refine x_aload_n C 0 dX8_kindOf_314 rfl rfl ?_
            refine x_getR C fc_X8 fl_X8_102 sh_82 (by decide) rfl dX8_kindOf_315 ?_
            refine x_aload_n C 0 dX8_kindOf_318 rfl rfl ?_
            refine x_getI C fc_X8 fl_X8_279 sh_82 (by decide) rfl dX8_kindOf_319 ?_
            refine x_iconst (v := 4) C dX8_kindOf_322 (by decide) ?_
            refine x_iadd C dX8_kindOf_323 ?_
            obtain ⟨hi5, hF⟩ := f_chk hF
            refine x_iald C sh_112 hi5 dX8_kindOf_324 ?_
            refine x_bipush (v := 101) C dX8_kindOf_325 (by decide) ?_
            refine x_icmp_ne (tgt := 366) C dX8_kindOf_327 (by decide) (fun hc => ?_) (fun hc => ?_)
            · replace hF := f_f hc hF
              exact x_pick [(0, .ref (G.ad 82))] [0] rfl (w_X8_kindOf_b366 C μ  hF)
            · replace hF := f_t hc hF
              refine x_aload_n C 0 dX8_kindOf_330 rfl rfl ?_
              refine x_getR C fc_X8 fl_X8_102 sh_82 (by decide) rfl dX8_kindOf_331 ?_
              refine x_aload_n C 0 dX8_kindOf_334 rfl rfl ?_
              refine x_getI C fc_X8 fl_X8_279 sh_82 (by decide) rfl dX8_kindOf_335 ?_
              refine x_iconst (v := 5) C dX8_kindOf_338 (by decide) ?_
              refine x_iadd C dX8_kindOf_339 ?_
              obtain ⟨hi6, hF⟩ := f_chk hF
              refine x_iald C sh_112 hi6 dX8_kindOf_340 ?_
              refine x_bipush (v := 114) C dX8_kindOf_341 (by decide) ?_
              refine x_icmp_ne (tgt := 366) C dX8_kindOf_343 (by decide) (fun hc => ?_) (fun hc => ?_)
              · replace hF := f_f hc hF
                exact x_pick [(0, .ref (G.ad 82))] [0] rfl (w_X8_kindOf_b366 C μ  hF)
              · replace hF := f_t hc hF
                refine x_aload_n C 0 dX8_kindOf_346 rfl rfl ?_
                refine x_getR C fc_X8 fl_X8_102 sh_82 (by decide) rfl dX8_kindOf_347 ?_
                refine x_aload_n C 0 dX8_kindOf_350 rfl rfl ?_
                refine x_getI C fc_X8 fl_X8_279 sh_82 (by decide) rfl dX8_kindOf_351 ?_
                refine x_bipush (v := 6) C dX8_kindOf_354 (by decide) ?_
                refine x_iadd C dX8_kindOf_356 ?_
                obtain ⟨hi7, hF⟩ := f_chk hF
                refine x_iald C sh_112 hi7 dX8_kindOf_357 ?_
                refine x_bipush (v := 115) C dX8_kindOf_358 (by decide) ?_
                refine x_icmp_ne (tgt := 366) C dX8_kindOf_360 (by decide) (fun hc => ?_) (fun hc => ?_)
                · replace hF := f_f hc hF
                  exact x_pick [(0, .ref (G.ad 82))] [0] rfl (w_X8_kindOf_b366 C μ  hF)
                · replace hF := f_t hc hF
                  refine x_bipush (v := 7) C dX8_kindOf_363 (by decide) ?_
                  exact x_iret C dX8_kindOf_365 (Option.some.inj hF) rfl
set_option maxHeartbeats 4000000 in
theorem w_X8_kindOf {G : Gl} {p : Program} {l : Launch} {e : Env} {s0 : State} {m : MethodId} {args : Array Value} {below : List Frame} {meth : Method} {c : Code} (C : Cx G p s0 m args meth c cX8_kindOf 1 RX8 (some .int)) {r : Int32}  (μ : Mu) (hF : f_X8_kindOf μ = some r) : X G p l e 1 29 s0 m args below meth c 1 (some (.int r)) μ μ 0 [(0, .ref (G.ad 82))] [] := by
  unfold f_X8_kindOf at hF
  refine x_aload_n C 0 dX8_kindOf_0 rfl rfl ?_
  refine x_iconst (v := 4) C dX8_kindOf_1 (by decide) ?_
  refine x_bipush (v := 102) C dX8_kindOf_2 (by decide) ?_
  refine x_bipush (v := 111) C dX8_kindOf_4 (by decide) ?_
  refine x_bipush (v := 114) C dX8_kindOf_6 (by decide) ?_
  refine x_bipush (v := 109) C dX8_kindOf_8 (by decide) ?_
  refine x_iconst (v := 0) C dX8_kindOf_10 (by decide) ?_
  refine x_iconst (v := 0) C dX8_kindOf_11 (by decide) ?_
  obtain ⟨q1, hq1, hF⟩ := f_bind hF
  refine x_cVi (rest := []) C (c_X8_isWord l C.2.2.2.2.2.2.2.2 4 102 111 114 109 0 0 μ hq1) cw_X8_297 sh_82 rfl rfl ⟨by decide, by decide⟩ rfl rfl (Nat.le_of_ble_eq_true rfl) dX8_kindOf_12 ?_
  refine x_if_eq (tgt := 20) C dX8_kindOf_15 (by decide) (fun hc => ?_) (fun hc => ?_)
  · replace hF := f_t hc hF
    refine x_aload_n C 0 dX8_kindOf_20 rfl rfl ?_
    refine x_iconst (v := 5) C dX8_kindOf_21 (by decide) ?_
    refine x_bipush (v := 111) C dX8_kindOf_22 (by decide) ?_
    refine x_bipush (v := 114) C dX8_kindOf_24 (by decide) ?_
    refine x_bipush (v := 100) C dX8_kindOf_26 (by decide) ?_
    refine x_bipush (v := 101) C dX8_kindOf_28 (by decide) ?_
    refine x_bipush (v := 114) C dX8_kindOf_30 (by decide) ?_
    refine x_iconst (v := 0) C dX8_kindOf_32 (by decide) ?_
    obtain ⟨q2, hq2, hF⟩ := f_bind hF
    refine x_cVi (rest := []) C (c_X8_isWord l C.2.2.2.2.2.2.2.2 5 111 114 100 101 114 0 μ hq2) cw_X8_297 sh_82 rfl rfl ⟨by decide, by decide⟩ rfl rfl (Nat.le_of_ble_eq_true rfl) dX8_kindOf_33 ?_
    refine x_if_eq (tgt := 41) C dX8_kindOf_36 (by decide) (fun hc => ?_) (fun hc => ?_)
    · replace hF := f_t hc hF
      refine x_aload_n C 0 dX8_kindOf_41 rfl rfl ?_
      refine x_iconst (v := 5) C dX8_kindOf_42 (by decide) ?_
      refine x_bipush (v := 110) C dX8_kindOf_43 (by decide) ?_
      refine x_bipush (v := 97) C dX8_kindOf_45 (by decide) ?_
      refine x_bipush (v := 109) C dX8_kindOf_47 (by decide) ?_
      refine x_bipush (v := 101) C dX8_kindOf_49 (by decide) ?_
      refine x_bipush (v := 115) C dX8_kindOf_51 (by decide) ?_
      refine x_iconst (v := 0) C dX8_kindOf_53 (by decide) ?_
      obtain ⟨q3, hq3, hF⟩ := f_bind hF
      refine x_cVi (rest := []) C (c_X8_isWord l C.2.2.2.2.2.2.2.2 5 110 97 109 101 115 0 μ hq3) cw_X8_297 sh_82 rfl rfl ⟨by decide, by decide⟩ rfl rfl (Nat.le_of_ble_eq_true rfl) dX8_kindOf_54 ?_
      refine x_if_eq (tgt := 62) C dX8_kindOf_57 (by decide) (fun hc => ?_) (fun hc => ?_)
      · replace hF := f_t hc hF
        refine x_aload_n C 0 dX8_kindOf_62 rfl rfl ?_
        refine x_iconst (v := 5) C dX8_kindOf_63 (by decide) ?_
        refine x_bipush (v := 97) C dX8_kindOf_64 (by decide) ?_
        refine x_bipush (v := 103) C dX8_kindOf_66 (by decide) ?_
        refine x_bipush (v := 97) C dX8_kindOf_68 (by decide) ?_
        refine x_bipush (v := 105) C dX8_kindOf_70 (by decide) ?_
        refine x_bipush (v := 110) C dX8_kindOf_72 (by decide) ?_
        refine x_iconst (v := 0) C dX8_kindOf_74 (by decide) ?_
        obtain ⟨q4, hq4, hF⟩ := f_bind hF
        refine x_cVi (rest := []) C (c_X8_isWord l C.2.2.2.2.2.2.2.2 5 97 103 97 105 110 0 μ hq4) cw_X8_297 sh_82 rfl rfl ⟨by decide, by decide⟩ rfl rfl (Nat.le_of_ble_eq_true rfl) dX8_kindOf_75 ?_
        refine x_if_eq (tgt := 83) C dX8_kindOf_78 (by decide) (fun hc => ?_) (fun hc => ?_)
        · replace hF := f_t hc hF
          refine x_aload_n C 0 dX8_kindOf_83 rfl rfl ?_
          refine x_iconst (v := 4) C dX8_kindOf_84 (by decide) ?_
          refine x_bipush (v := 109) C dX8_kindOf_85 (by decide) ?_
          refine x_bipush (v := 111) C dX8_kindOf_87 (by decide) ?_
          refine x_bipush (v := 114) C dX8_kindOf_89 (by decide) ?_
          refine x_bipush (v := 101) C dX8_kindOf_91 (by decide) ?_
          refine x_iconst (v := 0) C dX8_kindOf_93 (by decide) ?_
          refine x_iconst (v := 0) C dX8_kindOf_94 (by decide) ?_
          obtain ⟨q5, hq5, hF⟩ := f_bind hF
          refine x_cVi (rest := []) C (c_X8_isWord l C.2.2.2.2.2.2.2.2 4 109 111 114 101 0 0 μ hq5) cw_X8_297 sh_82 rfl rfl ⟨by decide, by decide⟩ rfl rfl (Nat.le_of_ble_eq_true rfl) dX8_kindOf_95 ?_
          refine x_if_eq (tgt := 103) C dX8_kindOf_98 (by decide) (fun hc => ?_) (fun hc => ?_)
          · replace hF := f_t hc hF
            refine x_aload_n C 0 dX8_kindOf_103 rfl rfl ?_
            refine x_getI C fc_X8 fl_X8_286 sh_82 (by decide) rfl dX8_kindOf_104 ?_
            refine x_bipush (v := 8) C dX8_kindOf_107 (by decide) ?_
            refine x_icmp_ne (tgt := 243) C dX8_kindOf_109 (by decide) (fun hc => ?_) (fun hc => ?_)
            · replace hF := f_f hc hF
              exact x_pick [(0, .ref (G.ad 82))] [0] rfl (w_X8_kindOf_b243 C μ  hF)
            · replace hF := f_t hc hF
              refine x_aload_n C 0 dX8_kindOf_112 rfl rfl ?_
              refine x_getR C fc_X8 fl_X8_102 sh_82 (by decide) rfl dX8_kindOf_113 ?_
              refine x_aload_n C 0 dX8_kindOf_116 rfl rfl ?_
              refine x_getI C fc_X8 fl_X8_279 sh_82 (by decide) rfl dX8_kindOf_117 ?_
              obtain ⟨hi6, hF⟩ := f_chk hF
              refine x_iald C sh_112 hi6 dX8_kindOf_120 ?_
              refine x_bipush (v := 105) C dX8_kindOf_121 (by decide) ?_
              refine x_icmp_ne (tgt := 243) C dX8_kindOf_123 (by decide) (fun hc => ?_) (fun hc => ?_)
              · replace hF := f_f hc hF
                exact x_pick [(0, .ref (G.ad 82))] [0] rfl (w_X8_kindOf_b243 C μ  hF)
              · replace hF := f_t hc hF
                refine x_aload_n C 0 dX8_kindOf_126 rfl rfl ?_
                refine x_getR C fc_X8 fl_X8_102 sh_82 (by decide) rfl dX8_kindOf_127 ?_
                refine x_aload_n C 0 dX8_kindOf_130 rfl rfl ?_
                refine x_getI C fc_X8 fl_X8_279 sh_82 (by decide) rfl dX8_kindOf_131 ?_
                refine x_iconst (v := 1) C dX8_kindOf_134 (by decide) ?_
                refine x_iadd C dX8_kindOf_135 ?_
                obtain ⟨hi7, hF⟩ := f_chk hF
                refine x_iald C sh_112 hi7 dX8_kindOf_136 ?_
                refine x_bipush (v := 110) C dX8_kindOf_137 (by decide) ?_
                refine x_icmp_ne (tgt := 243) C dX8_kindOf_139 (by decide) (fun hc => ?_) (fun hc => ?_)
                · replace hF := f_f hc hF
                  exact x_pick [(0, .ref (G.ad 82))] [0] rfl (w_X8_kindOf_b243 C μ  hF)
                · replace hF := f_t hc hF
                  refine x_aload_n C 0 dX8_kindOf_142 rfl rfl ?_
                  refine x_getR C fc_X8 fl_X8_102 sh_82 (by decide) rfl dX8_kindOf_143 ?_
                  refine x_aload_n C 0 dX8_kindOf_146 rfl rfl ?_
                  refine x_getI C fc_X8 fl_X8_279 sh_82 (by decide) rfl dX8_kindOf_147 ?_
                  refine x_iconst (v := 2) C dX8_kindOf_150 (by decide) ?_
                  refine x_iadd C dX8_kindOf_151 ?_
                  obtain ⟨hi8, hF⟩ := f_chk hF
                  refine x_iald C sh_112 hi8 dX8_kindOf_152 ?_
                  refine x_bipush (v := 105) C dX8_kindOf_153 (by decide) ?_
                  refine x_icmp_ne (tgt := 243) C dX8_kindOf_155 (by decide) (fun hc => ?_) (fun hc => ?_)
                  · replace hF := f_f hc hF
                    exact x_pick [(0, .ref (G.ad 82))] [0] rfl (w_X8_kindOf_b243 C μ  hF)
                  · replace hF := f_t hc hF
                    refine x_aload_n C 0 dX8_kindOf_158 rfl rfl ?_
                    refine x_getR C fc_X8 fl_X8_102 sh_82 (by decide) rfl dX8_kindOf_159 ?_
                    refine x_aload_n C 0 dX8_kindOf_162 rfl rfl ?_
                    refine x_getI C fc_X8 fl_X8_279 sh_82 (by decide) rfl dX8_kindOf_163 ?_
                    refine x_iconst (v := 3) C dX8_kindOf_166 (by decide) ?_
                    refine x_iadd C dX8_kindOf_167 ?_
                    obtain ⟨hi9, hF⟩ := f_chk hF
                    refine x_iald C sh_112 hi9 dX8_kindOf_168 ?_
                    refine x_bipush (v := 116) C dX8_kindOf_169 (by decide) ?_
                    refine x_icmp_ne (tgt := 243) C dX8_kindOf_171 (by decide) (fun hc => ?_) (fun hc => ?_)
                    · replace hF := f_f hc hF
                      exact x_pick [(0, .ref (G.ad 82))] [0] rfl (w_X8_kindOf_b243 C μ  hF)
                    · replace hF := f_t hc hF
                      refine x_aload_n C 0 dX8_kindOf_174 rfl rfl ?_
                      refine x_getR C fc_X8 fl_X8_102 sh_82 (by decide) rfl dX8_kindOf_175 ?_
                      refine x_aload_n C 0 dX8_kindOf_178 rfl rfl ?_
                      refine x_getI C fc_X8 fl_X8_279 sh_82 (by decide) rfl dX8_kindOf_179 ?_
                      refine x_iconst (v := 4) C dX8_kindOf_182 (by decide) ?_
                      refine x_iadd C dX8_kindOf_183 ?_
                      obtain ⟨hi10, hF⟩ := f_chk hF
                      refine x_iald C sh_112 hi10 dX8_kindOf_184 ?_
                      refine x_bipush (v := 105) C dX8_kindOf_185 (by decide) ?_
                      refine x_icmp_ne (tgt := 243) C dX8_kindOf_187 (by decide) (fun hc => ?_) (fun hc => ?_)
                      · replace hF := f_f hc hF
                        exact x_pick [(0, .ref (G.ad 82))] [0] rfl (w_X8_kindOf_b243 C μ  hF)
                      · replace hF := f_t hc hF
                        refine x_aload_n C 0 dX8_kindOf_190 rfl rfl ?_
                        refine x_getR C fc_X8 fl_X8_102 sh_82 (by decide) rfl dX8_kindOf_191 ?_
                        refine x_aload_n C 0 dX8_kindOf_194 rfl rfl ?_
                        refine x_getI C fc_X8 fl_X8_279 sh_82 (by decide) rfl dX8_kindOf_195 ?_
                        refine x_iconst (v := 5) C dX8_kindOf_198 (by decide) ?_
                        refine x_iadd C dX8_kindOf_199 ?_
                        obtain ⟨hi11, hF⟩ := f_chk hF
                        refine x_iald C sh_112 hi11 dX8_kindOf_200 ?_
                        refine x_bipush (v := 97) C dX8_kindOf_201 (by decide) ?_
                        refine x_icmp_ne (tgt := 243) C dX8_kindOf_203 (by decide) (fun hc => ?_) (fun hc => ?_)
                        · replace hF := f_f hc hF
                          exact x_pick [(0, .ref (G.ad 82))] [0] rfl (w_X8_kindOf_b243 C μ  hF)
                        · replace hF := f_t hc hF
                          refine x_aload_n C 0 dX8_kindOf_206 rfl rfl ?_
                          refine x_getR C fc_X8 fl_X8_102 sh_82 (by decide) rfl dX8_kindOf_207 ?_
                          refine x_aload_n C 0 dX8_kindOf_210 rfl rfl ?_
                          refine x_getI C fc_X8 fl_X8_279 sh_82 (by decide) rfl dX8_kindOf_211 ?_
                          refine x_bipush (v := 6) C dX8_kindOf_214 (by decide) ?_
                          refine x_iadd C dX8_kindOf_216 ?_
                          obtain ⟨hi12, hF⟩ := f_chk hF
                          refine x_iald C sh_112 hi12 dX8_kindOf_217 ?_
                          refine x_bipush (v := 108) C dX8_kindOf_218 (by decide) ?_
                          refine x_icmp_ne (tgt := 243) C dX8_kindOf_220 (by decide) (fun hc => ?_) (fun hc => ?_)
                          · replace hF := f_f hc hF
                            exact x_pick [(0, .ref (G.ad 82))] [0] rfl (w_X8_kindOf_b243 C μ  hF)
                          · replace hF := f_t hc hF
                            refine x_aload_n C 0 dX8_kindOf_223 rfl rfl ?_
                            refine x_getR C fc_X8 fl_X8_102 sh_82 (by decide) rfl dX8_kindOf_224 ?_
                            refine x_aload_n C 0 dX8_kindOf_227 rfl rfl ?_
                            refine x_getI C fc_X8 fl_X8_279 sh_82 (by decide) rfl dX8_kindOf_228 ?_
                            refine x_bipush (v := 7) C dX8_kindOf_231 (by decide) ?_
                            refine x_iadd C dX8_kindOf_233 ?_
                            obtain ⟨hi13, hF⟩ := f_chk hF
                            refine x_iald C sh_112 hi13 dX8_kindOf_234 ?_
                            refine x_bipush (v := 115) C dX8_kindOf_235 (by decide) ?_
                            refine x_icmp_ne (tgt := 243) C dX8_kindOf_237 (by decide) (fun hc => ?_) (fun hc => ?_)
                            · replace hF := f_f hc hF
                              exact x_pick [(0, .ref (G.ad 82))] [0] rfl (w_X8_kindOf_b243 C μ  hF)
                            · replace hF := f_t hc hF
                              refine x_bipush (v := 6) C dX8_kindOf_240 (by decide) ?_
                              exact x_iret C dX8_kindOf_242 (Option.some.inj hF) rfl
          · replace hF := f_f hc hF
            refine x_iconst (v := 5) C dX8_kindOf_101 (by decide) ?_
            exact x_iret C dX8_kindOf_102 (Option.some.inj hF) rfl
        · replace hF := f_f hc hF
          refine x_iconst (v := 4) C dX8_kindOf_81 (by decide) ?_
          exact x_iret C dX8_kindOf_82 (Option.some.inj hF) rfl
      · replace hF := f_f hc hF
        refine x_iconst (v := 2) C dX8_kindOf_60 (by decide) ?_
        exact x_iret C dX8_kindOf_61 (Option.some.inj hF) rfl
    · replace hF := f_f hc hF
      refine x_iconst (v := 1) C dX8_kindOf_39 (by decide) ?_
      exact x_iret C dX8_kindOf_40 (Option.some.inj hF) rfl
  · replace hF := f_f hc hF
    refine x_iconst (v := 0) C dX8_kindOf_18 (by decide) ?_
    exact x_iret C dX8_kindOf_19 (Option.some.inj hF) rfl
set_option maxHeartbeats 4000000 in
theorem c_X8_kindOf {G : Gl} (l : Launch) (hA : Ap G) {r : Int32}  (μ : Mu) (hF : f_X8_kindOf μ = some r) : Mth G l yX8_kindOf cX8_kindOf 1 (some .int) 1 29 [.ref (G.ad 82)] (some (.int r)) μ μ := Mth.of hA (by decide) rfl (Nat.le_of_ble_eq_true rfl) (fun p e s0 m args below meth c C => w_X8_kindOf C μ hF)
set_option maxHeartbeats 4000000 in
theorem w_X8_tryStyle_b149 {G : Gl} {p : Program} {l : Launch} {e : Env} {s0 : State} {m : MethodId} {args : Array Value} {below : List Frame} {meth : Method} {c : Code} (C : Cx G p s0 m args meth c cX8_tryStyle 5 RX8 none) {μf : Mu}  {k89 : Int32 → Int32 → Int32 → Int32 → Mu → Option (Mu)} (hk89 : ∀ (x1 : Int32) (x2 : Int32) (x3 : Int32) (x4 : Int32) (μ : Mu), k89 x1 x2 x3 x4 μ = some μf → X G p l e 5 117 s0 m args below meth c 5 none μf μ 89 [(0, .ref (G.ad 82)), (1, .int x1), (2, .int x2), (3, .int x3), (4, .int x4)] []) (x1 : Int32) (x2 : Int32) (x3 : Int32) (x4 : Int32) (t1 : Int32) (t2 : Int32) (μ : Mu) (hF : f_X8_tryStyle_b149 k89 x1 x2 x3 x4 t1 t2 μ = some μf) : X G p l e 5 117 s0 m args below meth c 5 none μf μ 149 [(0, .ref (G.ad 82)), (1, .int x1), (2, .int x2), (3, .int x3), (4, .int x4)] [.int t2, .int t1, .ref (G.ad 115)] := by
  unfold f_X8_tryStyle_b149 at hF
  obtain ⟨hi1, hF⟩ := f_chk hF
  refine x_iast C sh_115 hi1 dX8_tryStyle_149 ?_
  refine x_letM hF (fun μ2 hF => ?_)
  refine x_iinc C [(4, .int (x4 + 1)), (0, .ref (G.ad 82)), (1, .int x1), (2, .int x2), (3, .int x3)] 4 dX8_tryStyle_150 rfl rfl (by decide) rfl ?_
  refine x_goto (tgt := 89) C dX8_tryStyle_153 (by decide) ?_
  exact x_pick [(0, .ref (G.ad 82)), (1, .int x1), (2, .int x2), (3, .int x3), (4, .int (x4 + 1))] [1, 2, 3, 4, 0] rfl (hk89 x1 x2 x3 (x4 + 1) μ2 hF)
set_option maxHeartbeats 4000000 in
theorem w_X8_tryStyle_L89 {G : Gl} {p : Program} {l : Launch} {e : Env} {s0 : State} {m : MethodId} {args : Array Value} {below : List Frame} {meth : Method} {c : Code} (C : Cx G p s0 m args meth c cX8_tryStyle 5 RX8 none) {μf : Mu}  : ∀ (n : Nat) (x1 : Int32) (x2 : Int32) (x3 : Int32) (x4 : Int32) (μ : Mu), f_X8_tryStyle_L89 n x1 x2 x3 x4 μ = some μf → X G p l e 5 117 s0 m args below meth c 5 none μf μ 89 [(0, .ref (G.ad 82)), (1, .int x1), (2, .int x2), (3, .int x3), (4, .int x4)] [] := by
  intro n
  induction n with
  | zero =>
    intro x1 x2 x3 x4 μ hF
    rw [f_X8_tryStyle_L89] at hF
    cases hF
  | succ n ih =>
    intro x1 x2 x3 x4 μ hF
    rw [f_X8_tryStyle_L89] at hF
    refine x_iload C 4 dX8_tryStyle_89 rfl ?_
    refine x_iconst (v := 5) C dX8_tryStyle_91 (by decide) ?_
    refine x_icmp_ge (tgt := 156) C dX8_tryStyle_92 (by decide) (fun hc => ?_) (fun hc => ?_)
    · replace hF := f_t hc hF
      exact x_vret C dX8_tryStyle_156 (Option.some.inj hF)
    · replace hF := f_f hc hF
      refine x_aload_n C 0 dX8_tryStyle_95 rfl rfl ?_
      refine x_getR C fc_X8 fl_X8_114 sh_82 (by decide) rfl dX8_tryStyle_96 ?_
      refine x_iload C 4 dX8_tryStyle_99 rfl ?_
      refine x_iload C 4 dX8_tryStyle_101 rfl ?_
      refine x_if_ne (tgt := 110) C dX8_tryStyle_103 (by decide) (fun hc => ?_) (fun hc => ?_)
      · replace hF := f_f hc hF
        refine x_iload C 4 dX8_tryStyle_110 rfl ?_
        refine x_iconst (v := 1) C dX8_tryStyle_112 (by decide) ?_
        refine x_icmp_ne (tgt := 120) C dX8_tryStyle_113 (by decide) (fun hc => ?_) (fun hc => ?_)
        · replace hF := f_f hc hF
          refine x_iload C 4 dX8_tryStyle_120 rfl ?_
          refine x_iconst (v := 2) C dX8_tryStyle_122 (by decide) ?_
          refine x_icmp_ne (tgt := 132) C dX8_tryStyle_123 (by decide) (fun hc => ?_) (fun hc => ?_)
          · replace hF := f_f hc hF
            refine x_iload C 4 dX8_tryStyle_132 rfl ?_
            refine x_iconst (v := 3) C dX8_tryStyle_134 (by decide) ?_
            refine x_icmp_ne (tgt := 146) C dX8_tryStyle_135 (by decide) (fun hc => ?_) (fun hc => ?_)
            · replace hF := f_f hc hF
              refine x_iload_n C 3 dX8_tryStyle_146 rfl rfl ?_
              refine x_iconst (v := 2) C dX8_tryStyle_147 (by decide) ?_
              refine x_irem C dX8_tryStyle_148 (by decide) ?_
              exact x_pick [(0, .ref (G.ad 82)), (1, .int x1), (2, .int x2), (3, .int x3), (4, .int x4)] [0, 1, 2, 3, 4] rfl (w_X8_tryStyle_b149 C ih x1 x2 x3 x4 x4 (x3 - x3 / 2 * 2) μ hF)
            · replace hF := f_t hc hF
              refine x_iload_n C 3 dX8_tryStyle_138 rfl rfl ?_
              refine x_iconst (v := 2) C dX8_tryStyle_139 (by decide) ?_
              refine x_idiv C dX8_tryStyle_140 (by decide) ?_
              refine x_iconst (v := 2) C dX8_tryStyle_141 (by decide) ?_
              refine x_irem C dX8_tryStyle_142 (by decide) ?_
              refine x_goto (tgt := 149) C dX8_tryStyle_143 (by decide) ?_
              exact x_pick [(0, .ref (G.ad 82)), (1, .int x1), (2, .int x2), (3, .int x3), (4, .int x4)] [0, 1, 2, 3, 4] rfl (w_X8_tryStyle_b149 C ih x1 x2 x3 x4 x4 ((x3 / 2) - (x3 / 2) / 2 * 2) μ hF)
          · replace hF := f_t hc hF
            refine x_iload_n C 3 dX8_tryStyle_126 rfl rfl ?_
            refine x_iconst (v := 4) C dX8_tryStyle_127 (by decide) ?_
            refine x_idiv C dX8_tryStyle_128 (by decide) ?_
            refine x_goto (tgt := 149) C dX8_tryStyle_129 (by decide) ?_
            exact x_pick [(0, .ref (G.ad 82)), (1, .int x1), (2, .int x2), (3, .int x3), (4, .int x4)] [0, 1, 2, 3, 4] rfl (w_X8_tryStyle_b149 C ih x1 x2 x3 x4 x4 (x3 / 4) μ hF)
        · replace hF := f_t hc hF
          refine x_iload_n C 2 dX8_tryStyle_116 rfl rfl ?_
          refine x_goto (tgt := 149) C dX8_tryStyle_117 (by decide) ?_
          exact x_pick [(0, .ref (G.ad 82)), (1, .int x1), (2, .int x2), (3, .int x3), (4, .int x4)] [0, 1, 2, 3, 4] rfl (w_X8_tryStyle_b149 C ih x1 x2 x3 x4 x4 x2 μ hF)
      · replace hF := f_t hc hF
        refine x_iload_n C 1 dX8_tryStyle_106 rfl rfl ?_
        refine x_goto (tgt := 149) C dX8_tryStyle_107 (by decide) ?_
        exact x_pick [(0, .ref (G.ad 82)), (1, .int x1), (2, .int x2), (3, .int x3), (4, .int x4)] [0, 1, 2, 3, 4] rfl (w_X8_tryStyle_b149 C ih x1 x2 x3 x4 x4 x1 μ hF)
set_option maxHeartbeats 4000000 in
theorem w_X8_tryStyle {G : Gl} {p : Program} {l : Launch} {e : Env} {s0 : State} {m : MethodId} {args : Array Value} {below : List Frame} {meth : Method} {c : Code} (C : Cx G p s0 m args meth c cX8_tryStyle 5 RX8 none) {μf : Mu}  (x1 : Int32) (x2 : Int32) (x3 : Int32) (μ : Mu) (hF : f_X8_tryStyle x1 x2 x3 μ = some μf) : X G p l e 5 117 s0 m args below meth c 5 none μf μ 0 [(0, .ref (G.ad 82)), (1, .int x1), (2, .int x2), (3, .int x3)] [] := by
  unfold f_X8_tryStyle at hF
  refine x_aload_n C 0 dX8_tryStyle_0 rfl rfl ?_
  refine x_getR C fc_X8 fl_X8_46 sh_82 (by decide) rfl dX8_tryStyle_1 ?_
  refine x_bipush (v := 42) C dX8_tryStyle_4 (by decide) ?_
  refine x_iload_n C 1 dX8_tryStyle_6 rfl rfl ?_
  refine x_iast C sh_95 (by decide) dX8_tryStyle_7 ?_
  refine x_letM hF (fun μ1 hF => ?_)
  refine x_aload_n C 0 dX8_tryStyle_8 rfl rfl ?_
  refine x_getR C fc_X8 fl_X8_46 sh_82 (by decide) rfl dX8_tryStyle_9 ?_
  refine x_bipush (v := 43) C dX8_tryStyle_12 (by decide) ?_
  refine x_iload_n C 2 dX8_tryStyle_14 rfl rfl ?_
  refine x_iast C sh_95 (by decide) dX8_tryStyle_15 ?_
  refine x_letM hF (fun μ2 hF => ?_)
  refine x_aload_n C 0 dX8_tryStyle_16 rfl rfl ?_
  refine x_getR C fc_X8 fl_X8_46 sh_82 (by decide) rfl dX8_tryStyle_17 ?_
  refine x_bipush (v := 45) C dX8_tryStyle_20 (by decide) ?_
  refine x_iload_n C 3 dX8_tryStyle_22 rfl rfl ?_
  refine x_iconst (v := 4) C dX8_tryStyle_23 (by decide) ?_
  refine x_idiv C dX8_tryStyle_24 (by decide) ?_
  refine x_iast C sh_95 (by decide) dX8_tryStyle_25 ?_
  refine x_letM hF (fun μ3 hF => ?_)
  refine x_aload_n C 0 dX8_tryStyle_26 rfl rfl ?_
  refine x_getR C fc_X8 fl_X8_46 sh_82 (by decide) rfl dX8_tryStyle_27 ?_
  refine x_bipush (v := 46) C dX8_tryStyle_30 (by decide) ?_
  refine x_iload_n C 3 dX8_tryStyle_32 rfl rfl ?_
  refine x_iconst (v := 2) C dX8_tryStyle_33 (by decide) ?_
  refine x_idiv C dX8_tryStyle_34 (by decide) ?_
  refine x_iconst (v := 2) C dX8_tryStyle_35 (by decide) ?_
  refine x_irem C dX8_tryStyle_36 (by decide) ?_
  refine x_iast C sh_95 (by decide) dX8_tryStyle_37 ?_
  refine x_letM hF (fun μ4 hF => ?_)
  refine x_aload_n C 0 dX8_tryStyle_38 rfl rfl ?_
  refine x_getR C fc_X8 fl_X8_46 sh_82 (by decide) rfl dX8_tryStyle_39 ?_
  refine x_bipush (v := 47) C dX8_tryStyle_42 (by decide) ?_
  refine x_iload_n C 3 dX8_tryStyle_44 rfl rfl ?_
  refine x_iconst (v := 2) C dX8_tryStyle_45 (by decide) ?_
  refine x_irem C dX8_tryStyle_46 (by decide) ?_
  refine x_iast C sh_95 (by decide) dX8_tryStyle_47 ?_
  refine x_letM hF (fun μ5 hF => ?_)
  refine x_aload_n C 0 dX8_tryStyle_48 rfl rfl ?_
  refine x_iconst (v := 4) C dX8_tryStyle_49 (by decide) ?_
  obtain ⟨q6, hq6, hF⟩ := f_bind hF
  refine x_cVv (rest := []) C (c_X8_findAll l C.2.2.2.2.2.2.2.2 4 μ5 hq6) cw_X8_221 sh_82 rfl rfl ⟨by decide, by decide⟩ rfl rfl (Nat.le_of_ble_eq_true rfl) dX8_tryStyle_50 ?_
  refine x_aload_n C 0 dX8_tryStyle_53 rfl rfl ?_
  obtain ⟨q7, hq7, hF⟩ := f_bind hF
  refine x_cVi (rest := []) C (c_X8_unclear l C.2.2.2.2.2.2.2.2 q6 hq7) cw_X8_256 sh_82 rfl rfl ⟨by decide, by decide⟩ rfl rfl (Nat.le_of_ble_eq_true rfl) dX8_tryStyle_54 ?_
  refine x_if_ne (tgt := 156) C dX8_tryStyle_57 (by decide) (fun hc => ?_) (fun hc => ?_)
  · replace hF := f_f hc hF
    exact x_vret C dX8_tryStyle_156 (Option.some.inj hF)
  · replace hF := f_t hc hF
    refine x_aload_n C 0 dX8_tryStyle_60 rfl rfl ?_
    refine x_getI C fc_X8 fl_X8_330 sh_82 (by decide) rfl dX8_tryStyle_61 ?_
    refine x_if_lt (tgt := 78) C dX8_tryStyle_64 (by decide) (fun hc => ?_) (fun hc => ?_)
    · replace hF := f_t hc hF
      refine x_aload_n C 0 dX8_tryStyle_78 rfl rfl ?_
      refine x_aload_n C 0 dX8_tryStyle_79 rfl rfl ?_
      obtain ⟨q8, hq8, hF⟩ := f_bind hF
      refine x_cVi (rest := [.ref (G.ad 82)]) C (c_X8_roomAll l C.2.2.2.2.2.2.2.2 q6 hq8) cw_X8_260 sh_82 rfl rfl ⟨by decide, by decide⟩ rfl rfl (Nat.le_of_ble_eq_true rfl) dX8_tryStyle_80 ?_
      refine x_putI C fc_X8 fl_X8_330 sh_82 (by decide) rfl rfl rfl ⟨rfl, rfl⟩ dX8_tryStyle_83 ?_
      refine x_letM hF (fun μ9 hF => ?_)
      refine x_iconst (v := 0) C dX8_tryStyle_86 (by decide) ?_
      refine x_istore C [(4, .int 0), (0, .ref (G.ad 82)), (1, .int x1), (2, .int x2), (3, .int x3)] dX8_tryStyle_87 (by decide) rfl ?_
      exact x_pick [(0, .ref (G.ad 82)), (1, .int x1), (2, .int x2), (3, .int x3), (4, .int 0)] [1, 2, 3, 4, 0] rfl (w_X8_tryStyle_L89 C fu x1 x2 x3 0 μ9 hF)
    · replace hF := f_f hc hF
      refine x_aload_n C 0 dX8_tryStyle_67 rfl rfl ?_
      obtain ⟨q10, hq10, hF⟩ := f_bind hF
      refine x_cVi (rest := []) C (c_X8_roomAll l C.2.2.2.2.2.2.2.2 q6 hq10) cw_X8_260 sh_82 rfl rfl ⟨by decide, by decide⟩ rfl rfl (Nat.le_of_ble_eq_true rfl) dX8_tryStyle_68 ?_
      refine x_aload_n C 0 dX8_tryStyle_71 rfl rfl ?_
      refine x_getI C fc_X8 fl_X8_330 sh_82 (by decide) rfl dX8_tryStyle_72 ?_
      refine x_icmp_ge (tgt := 156) C dX8_tryStyle_75 (by decide) (fun hc => ?_) (fun hc => ?_)
      · replace hF := f_t hc hF
        exact x_vret C dX8_tryStyle_156 (Option.some.inj hF)
      · replace hF := f_f hc hF
        refine x_aload_n C 0 dX8_tryStyle_78 rfl rfl ?_
        refine x_aload_n C 0 dX8_tryStyle_79 rfl rfl ?_
        obtain ⟨q11, hq11, hF⟩ := f_bind hF
        refine x_cVi (rest := [.ref (G.ad 82)]) C (c_X8_roomAll l C.2.2.2.2.2.2.2.2 q6 hq11) cw_X8_260 sh_82 rfl rfl ⟨by decide, by decide⟩ rfl rfl (Nat.le_of_ble_eq_true rfl) dX8_tryStyle_80 ?_
        refine x_putI C fc_X8 fl_X8_330 sh_82 (by decide) rfl rfl rfl ⟨rfl, rfl⟩ dX8_tryStyle_83 ?_
        refine x_letM hF (fun μ12 hF => ?_)
        refine x_iconst (v := 0) C dX8_tryStyle_86 (by decide) ?_
        refine x_istore C [(4, .int 0), (0, .ref (G.ad 82)), (1, .int x1), (2, .int x2), (3, .int x3)] dX8_tryStyle_87 (by decide) rfl ?_
        exact x_pick [(0, .ref (G.ad 82)), (1, .int x1), (2, .int x2), (3, .int x3), (4, .int 0)] [1, 2, 3, 4, 0] rfl (w_X8_tryStyle_L89 C fu x1 x2 x3 0 μ12 hF)
set_option maxHeartbeats 4000000 in
theorem c_X8_tryStyle {G : Gl} (l : Launch) (hA : Ap G) {μf : Mu}  (x1 : Int32) (x2 : Int32) (x3 : Int32) (μ : Mu) (hF : f_X8_tryStyle x1 x2 x3 μ = some μf) : Mth G l yX8_tryStyle cX8_tryStyle 5 none 5 117 [.ref (G.ad 82), .int x1, .int x2, .int x3] none μf μ := Mth.of hA (by decide) rfl (Nat.le_of_ble_eq_true rfl) (fun p e s0 m args below meth c C => w_X8_tryStyle C x1 x2 x3 μ hF)
