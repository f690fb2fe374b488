def slen (s : Nat) : Int32 := Int32.ofNat (sLen.getD s 0)
def semp (s : Nat) : Int32 := if slen s = 0 then 1 else 0
def schr (s i : Nat) : Int32 := (sByt.getD s []).getD i 0 &&& 255
theorem fls_POWERS : Cond.fieldLink "CitedWorks" 155 "CitedWorks" "POWERS" "[I" ∈ tg := tgl [Cond.fieldLink "CitedWorks" 155 "CitedWorks" "POWERS" "[I"] [495] (by decide +kernel) (by decide +kernel) _ List.mem_cons_self
theorem fls_COMPACT : Cond.fieldLink "java/lang/String" 38 "java/lang/String" "COMPACT_STRINGS" "Z" ∈ tg := tgl [Cond.fieldLink "java/lang/String" 38 "java/lang/String" "COMPACT_STRINGS" "Z"] [692] (by decide +kernel) (by decide +kernel) _ List.mem_cons_self
theorem fls_SIOOBE : Cond.fieldLink "java/lang/String" 1053 "jdk/internal/util/Preconditions" "SIOOBE_FORMATTER" "Ljava/util/function/BiFunction;" ∈ tg := tgl [Cond.fieldLink "java/lang/String" 1053 "jdk/internal/util/Preconditions" "SIOOBE_FORMATTER" "Ljava/util/function/BiFunction;"] [708] (by decide +kernel) (by decide +kernel) _ List.mem_cons_self
theorem fls_value : Cond.fieldLink "java/lang/String" 9 "java/lang/String" "value" "[B" ∈ tg := tgl [Cond.fieldLink "java/lang/String" 9 "java/lang/String" "value" "[B"] [1294] (by decide +kernel) (by decide +kernel) _ List.mem_cons_self
theorem fls_coder : Cond.fieldLink "java/lang/String" 15 "java/lang/String" "coder" "B" ∈ tg := tgl [Cond.fieldLink "java/lang/String" 15 "java/lang/String" "coder" "B"] [1295] (by decide +kernel) (by decide +kernel) _ List.mem_cons_self
theorem cws_CitedWorks_Reader_94 : CwV "CitedWorks$Reader" 94 yJ0_isEmpty_aae02 cJ0_isEmpty_aae02 1 (some .boolean) 0 := ⟨tgl _ [680, 681, 13, 683] (by decide +kernel) (by decide +kernel), tgl [Cond.selects yJ0_isEmpty_aae02.cls yJ0_isEmpty_aae02 yJ0_isEmpty_aae02] [682] (by decide +kernel) (by decide +kernel) _ List.mem_cons_self, by decide +kernel⟩
theorem cws_CitedWorks_Reader_99 : CwV "CitedWorks$Reader" 99 yJ0_length_8abf5 cJ0_length_8abf5 1 (some .int) 0 := ⟨tgl _ [684, 685, 13, 687] (by decide +kernel) (by decide +kernel), tgl [Cond.selects yJ0_length_8abf5.cls yJ0_length_8abf5 yJ0_length_8abf5] [686] (by decide +kernel) (by decide +kernel) _ List.mem_cons_self, by decide +kernel⟩
theorem cws_CitedWorks_Reader_101 : CwV "CitedWorks$Reader" 101 yJ0_charAt_5068e cJ0_charAt_5068e 2 (some .char) 1 := ⟨tgl _ [694, 695, 13, 697] (by decide +kernel) (by decide +kernel), tgl [Cond.selects yJ0_charAt_5068e.cls yJ0_charAt_5068e yJ0_charAt_5068e] [696] (by decide +kernel) (by decide +kernel) _ List.mem_cons_self, by decide +kernel⟩
theorem cws_String_335 : CwV "java/lang/String" 335 yJ0_coder_7d493 cJ0_coder_7d493 1 (some .byte) 0 := ⟨tgl _ [688, 689, 13, 691] (by decide +kernel) (by decide +kernel), tgl [Cond.selects yJ0_coder_7d493.cls yJ0_coder_7d493 yJ0_coder_7d493] [690] (by decide +kernel) (by decide +kernel) _ List.mem_cons_self, by decide +kernel⟩
theorem cws_String_492 : CwV "java/lang/String" 492 yJ0_isLatin1_aae02 cJ0_isLatin1_aae02 1 (some .boolean) 0 := ⟨tgl _ [698, 699, 13, 701] (by decide +kernel) (by decide +kernel), tgl [Cond.selects yJ0_isLatin1_aae02.cls yJ0_isLatin1_aae02 yJ0_isLatin1_aae02] [700] (by decide +kernel) (by decide +kernel) _ List.mem_cons_self, by decide +kernel⟩
theorem cws_String_495 : CwS "java/lang/String" 495 yJ1_charAt_3b067 cJ1_charAt_3b067 2 (some .char) 2 := ⟨tgl _ [702, 703, 14, 704] (by decide +kernel) (by decide +kernel), by decide +kernel⟩
theorem cws_StringLatin1_9 : CwS "java/lang/StringLatin1" 9 yJ0_checkIndex_df160 cJ0_checkIndex_df160 2 none 2 := ⟨tgl _ [705, 706, 13, 707] (by decide +kernel) (by decide +kernel), by decide +kernel⟩
theorem cws_String_1059 : CwS "java/lang/String" 1059 yJ3_checkIndex_8e157 cJ3_checkIndex_8e157 3 (some .int) 3 := ⟨tgl _ [710, 711, 15, 712] (by decide +kernel) (by decide +kernel), by decide +kernel⟩
section Rows3
variable {G : Gl} {p : Program} {l : Launch} {e : Env} {R : Room} {fr lo cells slots : Nat} {Q : State → Prop} {s : State} {m : MethodId} {args : Array Value} {below : List Frame} {meth : Method} {c : Code} {nL : Nat} {rv : Option Value} {μf μ : Mu} {pc : Nat} {lv : List (Nat × Value)} {rest : List Value} {cc : ByteArray} {own : String} {ret : Option FieldType}
theorem x_stat_POWERS (C : Cx G p s m args meth c cc nL "CitedWorks" ret) (hd : decode cc pc = .ok (.getstatic 155, 3)) (kk : XX G p l e R s m args below meth c nL cells slots Q μ (pc + 3) lv (.ref G.tP :: rest)) : XX G p l e R s m args below meth c nL cells slots Q μ pc lv rest := fun H locs ls hP hS hl =>
  va_gets C.1 C.2.1 C.2.2.2.2.2.2.2.1.2.2.1.1 hS C.2.2.2.1 (C.2.2.2.2.1 _ fls_POWERS) (fun _ h => h) hd (kk H locs ls hP hS hl)
theorem x_stat_FIRST_STYLE (C : Cx G p s m args meth c cc nL "CitedWorks$Reader" ret) (hd : decode cc pc = .ok (.getstatic 29, 3)) (kk : XX G p l e R s m args below meth c nL cells slots Q μ (pc + 3) lv (.ref G.tS :: rest)) : XX G p l e R s m args below meth c nL cells slots Q μ pc lv rest := fun H locs ls hP hS hl =>
  va_getsN C.1 C.2.1 C.2.2.2.2.2.2.2.1.2.1.1 hS C.2.2.2.1 (va_Nw.use rfl C.2.2.2.2.2.2.2.1.2.2.2.2.2.2.2.2) (fun _ h => h) hd (kk H locs ls hP hS hl)
theorem x_sald_POWERS (C : Cx G p s m args meth c cc nL own ret) {i : Int32} (hin : inb i 5 = true) (hd : decode cc pc = .ok (.iaload, 1)) (kk : XX G p l e R s m args below meth c nL cells slots Q μ (pc + 1) lv (.int (powers (ix i)) :: rest)) : XX G p l e R s m args below meth c nL cells slots Q μ pc lv (.int i :: .ref G.tP :: rest) := fun H locs ls hP hS hl =>
  va_ti C.1 C.2.1 C.2.2.2.2.2.2.2.1.2.2.1.2 hS (inb_in hin) rfl hd (kk H locs ls hP hS hl)
/-- FIRST_STYLE copied into a row of the world -/
theorem x_copyT (C : Cx G p s m args meth c cc nL own ret) {k1 n1 idx : Nat} {sp dp n : Int32} (hw : CwA own idx) (h1 : sh k1 = .inl (0, n1)) (hc : cpk sp dp n 10 n1 = true) (hR : 1 ≤ R.frames ∧ (rest.map fun v => v.category).sum + 18 ≤ R.locals) (hd : decode cc pc = .ok (.invokestatic idx, 3)) (kk : XX G p l e R s m args below meth c nL cells slots Q (u1 μ k1 (va_cpy fstyle (μ k1) (ix sp) (ix dp) (ix n))) (pc + 3) lv rest) : XX G p l e R s m args below meth c nL cells slots Q μ pc lv (.int n :: .int dp :: .ref (G.ad k1) :: .int sp :: .ref G.tS :: rest) := by
  intro H locs ls hP hS hl T hT X0
  have ok : ∀ w ∈ tg, w.before args s = true := C.2.2.2.2.1
  obtain ⟨a1, a2, a3, a4, a5⟩ := cpk_ok hc
  have nn : ∀ z : Int32, ¬ z < 0 → z.toInt = (z.toNatClampNeg : Int) := by
    intro z hz
    have hz0 : (0 : Int) ≤ z.toInt := by
      have := Int32.not_lt.mp hz
      simpa using Int32.le_iff_toInt_le.mp this
    show z.toInt = ((z.toInt.toNat : Nat) : Int)
    omega
  obtain ⟨scr, hs1, hs2, hs3, hs4, -, hs5, hs7⟩ := C.2.2.2.2.2.2.2.1.2.1.2
  have hc0 : H[G.tS]? = some scr := by rw [hS.2.1 G.tS (Array.getElem?_eq_some_iff.mp hs1).1 hs7]; exact hs1
  have hk1 : k1 < NK := sh_ltA h1 (by decide)
  have hc1 : H[G.ad k1]? = some (vp_cell G.cI (n1, .inl (μ k1))) := hP k1 _ (wsI h1)
  obtain ⟨hs6, k0, hk0, cm0, hkk0⟩ := hs2
  obtain ⟨-, kd, hkd, cm1, hkk1⟩ := (C.2.2.2.2.2.2.2.1.1.2 0 _ rfl).1 n1 (fun j => .int (μ k1 j))
  obtain ⟨vm', X', step⟩ := X0.arraycopy (index := idx) C.1 C.2.2.2.1 (ok _ (hw (.methodLink own idx arraycopyName) (by simp))) (ok _ (hw (.native arraycopyName) (by simp))) (ok _ (hw (.static arraycopyName) (by simp))) (ok _ (hw (.initialized "java/lang/System") (by simp))) (src := G.tS) (dst := G.ad k1) (cs := scr) (cd := vp_cell G.cI (n1, .inl (μ k1))) (srcPos := sp) (destPos := dp) (n := n) (by rw [hT]; exact hc0) (by rw [hT]; exact hc1)
    hs6 (fun _ h => by cases h) hs3 (fun h => by cases h) hk0 hkd hkk0 hkk1 (by simp [refKind]) a1 a2 a3
    (by rw [nn sp a1, nn n a3]; omega)
    (by rw [nn dp a2, nn n a3]; show ¬ _ > ((arrV G.cI n1 (fun j => .int (μ k1 j))).slots.size : Int); rw [arrV_size]; omega)
    (fun vm₁ _ i hi => by
      have e : scr.slots.getD (sp.toNatClampNeg + i) .null = .int (fstyle (sp.toNatClampNeg + i)) := by
        rw [Array.getD_eq_getD_getElem?, hs5 _ (by omega)]
        rfl
      refine ⟨?_, ?_⟩
      · rw [e]
        rfl
      · rw [e]
        exact trivial)
    (g := F0 m pc ls (.int n :: .int dp :: .ref (G.ad k1) :: .int sp :: .ref G.tS :: rest)) rfl (by rw [C.2.2.1]; exact hl.1) (rest := rest) rfl (by rw [C.2.1]; exact hd) hR.1 (by show 2 * 0 + _ + 18 ≤ R.locals; omega)
  have e1 : copied scr (vp_cell G.cI (n1, .inl (μ k1))) sp dp n = vp_cell G.cI (n1, .inl (va_cpy fstyle (μ k1) sp.toNatClampNeg dp.toNatClampNeg n.toNatClampNeg)) := va_copiedX (fun z => .int z) scr G.cI fstyle (μ k1) hs5 a4
  rw [e1] at X' step
  have hlt : G.ad k1 < H.size := (Array.getElem?_eq_some_iff.mp hc1).1
  have hD := wsOf_D (G := G) C.2.2.2.2.2.2.2.2 μ
  have hheap : ((T.setVm vm').setCell (G.ad k1) (vp_cell G.cI (n1, .inl (va_cpy fstyle (μ k1) sp.toNatClampNeg dp.toNatClampNeg n.toNatClampNeg)))).heap = H.setIfInBounds (G.ad k1) (vp_cell G.cI (n1, .inl (va_cpy fstyle (μ k1) sp.toNatClampNeg dp.toNatClampNeg n.toNatClampNeg))) := by rw [← hT]; rfl
  have oq : ∀ q : Nat, q ≠ G.ad k1 → (H.setIfInBounds (G.ad k1) (vp_cell G.cI (n1, .inl (va_cpy fstyle (μ k1) sp.toNatClampNeg dp.toNatClampNeg n.toNatClampNeg))))[q]? = H[q]? := fun q hq => by simp [Array.getElem?_setIfInBounds, Ne.symm hq]
  have hP2 : va_P G.1 vwCl ((wsOf G μ).set k1 (G.ad k1, .inl (G.cI, n1, .inl (va_cpy fstyle (μ k1) sp.toNatClampNeg dp.toNatClampNeg n.toNatClampNeg)))) (H.setIfInBounds (G.ad k1) (vp_cell G.cI (n1, .inl (va_cpy fstyle (μ k1) sp.toNatClampNeg dp.toNatClampNeg n.toNatClampNeg)))) := hP.set hD (wsI h1) (show (H.setIfInBounds (G.ad k1) (vp_cell G.cI (n1, .inl (va_cpy fstyle (μ k1) sp.toNatClampNeg dp.toNatClampNeg n.toNatClampNeg))))[G.ad k1]? = some (vp_cell G.cI (n1, .inl (va_cpy fstyle (μ k1) sp.toNatClampNeg dp.toNatClampNeg n.toNatClampNeg))) by simp [Array.getElem?_setIfInBounds, hlt]) oq
  obtain ⟨t, b1, b2⟩ := kk _ _ ls (pic_set h1 (by decide) (by rw [h1]; rfl) hP2) ⟨by simp; exact hS.1, fun q g1 g2 => by
      rw [oq q (fun e => g2 (by rw [e]; exact hD.2 k1 _ (wsI h1)))]
      exact hS.2.1 q g1 g2, fun q hq => by
      rcases List.mem_append.mp hq with h | h
      · exact hS.2.2 q h
      · obtain ⟨z, -, hz⟩ := List.mem_map.mp h
        rw [← hz]
        exact hD.2 k1 _ (wsI h1)⟩ hl _ hheap X'
  exact ⟨t, step t b1, b2⟩
theorem x_sgetV (C : Cx G p s m args meth c cc nL "java/lang/String" ret) {j : Nat} (hj : j < 20) (hd : decode cc pc = .ok (.getfield 9, 3)) (kk : XX G p l e R s m args below meth c nL cells slots Q μ (pc + 3) lv (.ref (G.aV j) :: rest)) : XX G p l e R s m args below meth c nL cells slots Q μ pc lv (.ref (G.aK j) :: rest) := fun H locs ls hP hS hl =>
  vk_getf C.1 C.2.1 (C.2.2.2.2.2.2.2.1.2.2.2.2.2.1.1 j hj).2.2.1 hS C.2.2.2.1 (C.2.2.2.2.1 _ fls_value) (fun _ h => h) hd (kk H locs ls hP hS hl)
theorem x_sgetC (C : Cx G p s m args meth c cc nL "java/lang/String" ret) {j : Nat} (hj : j < 20) (hd : decode cc pc = .ok (.getfield 15, 3)) (kk : XX G p l e R s m args below meth c nL cells slots Q μ (pc + 3) lv (.int 0 :: rest)) : XX G p l e R s m args below meth c nL cells slots Q μ pc lv (.ref (G.aK j) :: rest) := fun H locs ls hP hS hl =>
  vk_getf C.1 C.2.1 (C.2.2.2.2.2.2.2.1.2.2.2.2.2.1.1 j hj).2.1 hS C.2.2.2.1 (C.2.2.2.2.1 _ fls_coder) (fun _ h => h) hd (kk H locs ls hP hS hl)
theorem x_scomp (C : Cx G p s m args meth c cc nL "java/lang/String" ret) (hd : decode cc pc = .ok (.getstatic 38, 3)) (kk : XX G p l e R s m args below meth c nL cells slots Q μ (pc + 3) lv (.int 1 :: rest)) : XX G p l e R s m args below meth c nL cells slots Q μ pc lv rest := fun H locs ls hP hS hl =>
  va_gets C.1 C.2.1 C.2.2.2.2.2.2.2.1.2.2.2.1 hS C.2.2.2.1 (C.2.2.2.2.1 _ fls_COMPACT) (fun _ h => h) hd (kk H locs ls hP hS hl)
theorem x_sfmt (C : Cx G p s m args meth c cc nL "java/lang/String" ret) (hd : decode cc pc = .ok (.getstatic 1053, 3)) (kk : ∀ v : Value, (v = .null ∨ ∃ t, v = .ref t) → XX G p l e R s m args below meth c nL cells slots Q μ (pc + 3) lv (v :: rest)) : XX G p l e R s m args below meth c nL cells slots Q μ pc lv rest := fun H locs ls hP hS hl => by
  rcases C.2.2.2.2.2.2.2.1.2.2.2.2.1 with h | ⟨t, h⟩
  · exact va_gets C.1 C.2.1 h hS C.2.2.2.1 (C.2.2.2.2.1 _ fls_SIOOBE) (fun _ h => h) hd (kk _ (Or.inl rfl) H locs ls hP hS hl)
  · exact va_gets C.1 C.2.1 h hS C.2.2.2.1 (C.2.2.2.2.1 _ fls_SIOOBE) (fun _ h => h) hd (kk _ (Or.inr ⟨t, rfl⟩) H locs ls hP hS hl)
theorem x_slenA (C : Cx G p s m args meth c cc nL own ret) {j : Nat} (hj : j < 20) (hd : decode cc pc = .ok (.arraylength, 1)) (kk : XX G p l e R s m args below meth c nL cells slots Q μ (pc + 1) lv (.int (slen j) :: rest)) : XX G p l e R s m args below meth c nL cells slots Q μ pc lv (.ref (G.aV j) :: rest) := fun H locs ls hP hS hl =>
  va_tlen C.1 C.2.1 (C.2.2.2.2.2.2.2.1.2.2.2.2.2.1.1 j hj).2.2.2 hS rfl hd (kk H locs ls hP hS hl)
theorem x_sbald (C : Cx G p s m args meth c cc nL own ret) {j : Nat} {i : Int32} (hj : j < 20) (hin : inb i (sLen.getD j 0) = true) (hd : decode cc pc = .ok (.baload, 1)) (kk : XX G p l e R s m args below meth c nL cells slots Q μ (pc + 1) lv (.int ((sByt.getD j []).getD (ix i) 0) :: rest)) : XX G p l e R s m args below meth c nL cells slots Q μ pc lv (.int i :: .ref (G.aV j) :: rest) := fun H locs ls hP hS hl =>
  va_tb C.1 C.2.1 (C.2.2.2.2.2.2.2.1.2.2.2.2.2.1.1 j hj).2.2.2 hS (inb_in hin) rfl hd (kk H locs ls hP hS hl)
theorem x_i2c (C : Cx G p s m args meth c cc nL own ret) {x : Int32} (hd : decode cc pc = .ok (.i2c, 1)) (kk : XX G p l e R s m args below meth c nL cells slots Q μ (pc + 1) lv (.int ((x.toUInt32 % 65536).toInt32) :: rest)) : XX G p l e R s m args below meth c nL cells slots Q μ pc lv (.int x :: rest) := fun H locs ls hP hS hl => lv_i2c C.1 C.2.1 hd rfl (kk H locs ls hP hS hl)
theorem x_nret {v r : Int32} {ty : FieldType} (C : Cx G p s m args meth c cc nL own (some ty)) (hd : decode cc pc = .ok (.ireturn, 1)) (hn : narrow ty (.int v) = .int v) (hv : v = r) (hm : μ = μf) : X G p l e fr lo s m args below meth c nL (some (.int r)) μf μ pc lv [.int v] := by
  subst hv
  subst hm
  intro H locs ls hP hS hl
  exact W.zret C.1 C.2.1 C.2.2.2.2.2.1 hn (fun t ht _ => ⟨rfl, by rw [ht]; exact hP, hS.F ht⟩) hS.2.2 hd C.2.2.2.2.2.2.1
/-- a call on a String constant -/
theorem x_cK (C : Cx G p s m args meth c cc nL own ret) {y : MethodName} {bytes : ByteArray} {maxL : Nat} {rt : Option FieldType} {fr1 lo1 : Nat} {r1 : Int32} {μ1 : Mu} {As st : List Value} {j idx n : Nat} (hM : Mth G l y bytes maxL rt fr1 lo1 (.ref (G.aK j) :: As) (some (.int r1)) μ1 μ) (hw : CwV own idx y bytes maxL rt n) (hj : j < 20) (hqy : y.cls = "java/lang/String") (hR : fr1 + 1 ≤ fr ∧ 8 + (maxL + 11) + lo1 ≤ lo) (hn : As.length = n) (hst : st = As.reverse ++ .ref (G.aK j) :: rest) (hro : (rest.map fun v => v.category).sum ≤ 8) (hd : decode cc pc = .ok (.invokevirtual idx, 3)) (kk : X G p l e fr lo s m args below meth c nL rv μf μ1 (pc + 3) lv (.int r1 :: rest)) : X G p l e fr lo s m args below meth c nL rv μf μ pc lv st := by
  intro H locs ls hP hS hl
  have ok : ∀ w ∈ tg, w.before args s = true := C.2.2.2.2.1
  have hcode : Cond.code y bytes maxL rt ∈ tg := hw.1 _ (by simp)
  refine x_run (a := (Value.ref (G.aK j) :: As).toArray) hS hl (va_runV (C := y.cls) (As := As) (Ts := tg) (n := n) (bytes := bytes) (maxL := maxL) (ret := rt) ⟨C.1, C.2.1, C.2.2.1, C.2.2.2.1, ok⟩ hM ⟨callB_of (own := own) (index := idx) n ok (tg_callee hcode) rfl rfl rfl (ok _ (hw.1 _ (by simp))) (ok _ (hw.1 _ (by simp))) hw.2.2 hR, ok _ (hw.1 _ (by simp)), ok _ hw.2.1⟩ ⟨blind_of, ?_, fun U hU hW => ⟨rfl, kn_at C hS hU hW, by rw [hU]; exact hP⟩⟩ rfl hn hl.1 hst (lv_room hro) hd ⟨Nat.le_refl _, Nat.le_refl _⟩) kk
  rw [hqy]
  exact vk_recv C.2.2.2.2.2.2.2.1.2.2.2.2.2.1 hj hS
end Rows3
theorem c_J3chk {G : Gl} (l : Launch) (hA : Ap G) {v : Value} (hv : v = .null ∨ ∃ t, v = .ref t) (i n : Int32) (h0 : ¬ i < 0) (h1 : i < n) (μ : Mu) : Mth G l yJ3_checkIndex_8e157 cJ3_checkIndex_8e157 3 (some .int) 0 0 [.int i, .int n, v] (some (.int i)) μ μ := by
  refine Mth.of (lv := [(0, .int i), (1, .int n), (2, v)]) hA (by decide) rfl (by rcases hv with rfl | ⟨t, rfl⟩ <;> exact Nat.le_of_ble_eq_true rfl) (fun p e s0 m args below meth c C => ?_)
  refine x_iload_n C 0 dJ3_checkIndex_8e157_0 rfl rfl ?_
  refine x_if_lt (tgt := 9) C dJ3_checkIndex_8e157_1 (by decide) (fun hc => absurd hc h0) (fun _ => ?_)
  refine x_iload_n C 0 dJ3_checkIndex_8e157_4 rfl rfl ?_
  refine x_iload_n C 1 dJ3_checkIndex_8e157_5 rfl rfl ?_
  refine x_icmp_lt (tgt := 16) C dJ3_checkIndex_8e157_6 (by decide) (fun _ => ?_) (fun hc => absurd h1 hc)
  refine x_iload_n C 0 dJ3_checkIndex_8e157_16 rfl rfl ?_
  exact x_iret C dJ3_checkIndex_8e157_17 rfl rfl
theorem c_J0chk {G : Gl} (l : Launch) (hA : Ap G) (i n : Int32) (h0 : ¬ i < 0) (h1 : i < n) (μ : Mu) : Mth G l yJ0_checkIndex_df160 cJ0_checkIndex_df160 2 none 1 22 [.int i, .int n] none μ μ := by
  refine Mth.of (lv := [(0, .int i), (1, .int n)]) hA (by decide) rfl (Nat.le_of_ble_eq_true rfl) (fun p e s0 m args below meth c C => ?_)
  refine x_iload_n C 0 dJ0_checkIndex_df160_0 rfl rfl ?_
  refine x_iload_n C 1 dJ0_checkIndex_df160_1 rfl rfl ?_
  refine x_sfmt C dJ0_checkIndex_df160_2 (fun v hv => ?_)
  refine x_cSi (rest := []) C (c_J3chk l C.2.2.2.2.2.2.2.2 hv i n h0 h1 μ) cws_String_1059 ⟨by decide, by decide⟩ rfl rfl (Nat.le_of_ble_eq_true rfl) dJ0_checkIndex_df160_5 ?_
  refine x_pop C dJ0_checkIndex_df160_8 rfl ?_
  exact x_vret C dJ0_checkIndex_df160_9 rfl
theorem inb_slen {j : Nat} (hj : j < 20) {i : Int32} (h : inb i (sLen.getD j 0) = true) : (¬ i < 0) ∧ i < slen j := by
  simp only [inb, Bool.and_eq_true, decide_eq_true_eq] at h
  obtain ⟨k, hk, rfl⟩ := nI_of (Int32.not_lt.mpr h.1)
  refine ⟨Int32.not_lt.mpr h.1, ?_⟩
  have h2 := h.2
  simp only [ix] at h2
  rw [nI_clamp hk] at h2
  have h3 : ∀ j, j < 20 → sLen.getD j 0 < 9 := by decide
  exact nI_lt h2 (by have := h3 j hj; omega)
theorem c_J1charAt {G : Gl} (l : Launch) (hA : Ap G) {j : Nat} (hj : j < 20) (i : Int32) (hi : inb i (sLen.getD j 0) = true) (μ : Mu) : Mth G l yJ1_charAt_3b067 cJ1_charAt_3b067 2 (some .char) 2 43 [.ref (G.aV j), .int i] (some (.int (schr j (ix i)))) μ μ := by
  refine Mth.of (lv := [(0, .ref (G.aV j)), (1, .int i)]) hA (by decide) rfl (Nat.le_of_ble_eq_true rfl) (fun p e s0 m args below meth c C => ?_)
  refine x_iload_n C 1 dJ1_charAt_3b067_0 rfl rfl ?_
  refine x_aload_n C 0 dJ1_charAt_3b067_1 rfl rfl ?_
  refine x_slenA C hj dJ1_charAt_3b067_2 ?_
  refine x_cSv (rest := []) C (c_J0chk l C.2.2.2.2.2.2.2.2 i (slen j) (inb_slen hj hi).1 (inb_slen hj hi).2 μ) cws_StringLatin1_9 ⟨by decide, by decide⟩ rfl rfl (Nat.le_of_ble_eq_true rfl) dJ1_charAt_3b067_3 ?_
  refine x_aload_n C 0 dJ1_charAt_3b067_6 rfl rfl ?_
  refine x_iload_n C 1 dJ1_charAt_3b067_7 rfl rfl ?_
  refine x_sbald C hj hi dJ1_charAt_3b067_8 ?_
  refine x_sipush (v := 255) C dJ1_charAt_3b067_9 (by decide) ?_
  refine x_iand C dJ1_charAt_3b067_12 ?_
  refine x_i2c C dJ1_charAt_3b067_13 ?_
  exact x_nret C dJ1_charAt_3b067_14 (pk_nc _) (sc_c2 _) rfl
theorem c_J0isLatin1 {G : Gl} (l : Launch) (hA : Ap G) {j : Nat} (hj : j < 20) (μ : Mu) : Mth G l yJ0_isLatin1_aae02 cJ0_isLatin1_aae02 1 (some .boolean) 0 0 [.ref (G.aK j)] (some (.int 1)) μ μ := by
  refine Mth.of (lv := [(0, .ref (G.aK j))]) hA (by decide) rfl (Nat.le_of_ble_eq_true rfl) (fun p e s0 m args below meth c C => ?_)
  refine x_scomp C dJ0_isLatin1_aae02_0 ?_
  refine x_if_eq (tgt := 17) C dJ0_isLatin1_aae02_3 (by decide) (fun hc => absurd hc (by decide)) (fun _ => ?_)
  refine x_aload_n C 0 dJ0_isLatin1_aae02_6 rfl rfl ?_
  refine x_sgetC C hj dJ0_isLatin1_aae02_7 ?_
  refine x_if_ne (tgt := 17) C dJ0_isLatin1_aae02_10 (by decide) (fun hc => absurd rfl hc) (fun _ => ?_)
  refine x_iconst (v := 1) C dJ0_isLatin1_aae02_13 (by decide) ?_
  refine x_goto (tgt := 18) C dJ0_isLatin1_aae02_14 (by decide) ?_
  exact x_zret C dJ0_isLatin1_aae02_18 (by decide) rfl rfl
theorem c_J0coder {G : Gl} (l : Launch) (hA : Ap G) {j : Nat} (hj : j < 20) (μ : Mu) : Mth G l yJ0_coder_7d493 cJ0_coder_7d493 1 (some .byte) 0 0 [.ref (G.aK j)] (some (.int 0)) μ μ := by
  refine Mth.of (lv := [(0, .ref (G.aK j))]) hA (by decide) rfl (Nat.le_of_ble_eq_true rfl) (fun p e s0 m args below meth c C => ?_)
  refine x_scomp C dJ0_coder_7d493_0 ?_
  refine x_if_eq (tgt := 13) C dJ0_coder_7d493_3 (by decide) (fun hc => absurd hc (by decide)) (fun _ => ?_)
  refine x_aload_n C 0 dJ0_coder_7d493_6 rfl rfl ?_
  refine x_sgetC C hj dJ0_coder_7d493_7 ?_
  refine x_goto (tgt := 14) C dJ0_coder_7d493_10 (by decide) ?_
  exact x_nret C dJ0_coder_7d493_14 rfl rfl rfl
theorem c_J0length {G : Gl} (l : Launch) (hA : Ap G) {j : Nat} (hj : j < 20) (μ : Mu) : Mth G l yJ0_length_8abf5 cJ0_length_8abf5 1 (some .int) 1 20 [.ref (G.aK j)] (some (.int (slen j))) μ μ := by
  refine Mth.of (lv := [(0, .ref (G.aK j))]) hA (by decide) rfl (Nat.le_of_ble_eq_true rfl) (fun p e s0 m args below meth c C => ?_)
  refine x_aload_n C 0 dJ0_length_8abf5_0 rfl rfl ?_
  refine x_sgetV C hj dJ0_length_8abf5_1 ?_
  refine x_slenA C hj dJ0_length_8abf5_4 ?_
  refine x_aload_n C 0 dJ0_length_8abf5_5 rfl rfl ?_
  refine x_cK (rest := [.int (slen j)]) C (c_J0coder l C.2.2.2.2.2.2.2.2 hj μ) cws_String_335 hj rfl ⟨by decide, by decide⟩ rfl rfl (Nat.le_of_ble_eq_true rfl) dJ0_length_8abf5_6 ?_
  refine x_ishr C dJ0_length_8abf5_9 ?_
  exact x_iret C dJ0_length_8abf5_10 (sb_shr0 _) rfl
theorem c_J0isEmpty {G : Gl} (l : Launch) (hA : Ap G) {j : Nat} (hj : j < 20) (μ : Mu) : Mth G l yJ0_isEmpty_aae02 cJ0_isEmpty_aae02 1 (some .boolean) 0 0 [.ref (G.aK j)] (some (.int (semp j))) μ μ := by
  refine Mth.of (lv := [(0, .ref (G.aK j))]) hA (by decide) rfl (Nat.le_of_ble_eq_true rfl) (fun p e s0 m args below meth c C => ?_)
  refine x_aload_n C 0 dJ0_isEmpty_aae02_0 rfl rfl ?_
  refine x_sgetV C hj dJ0_isEmpty_aae02_1 ?_
  refine x_slenA C hj dJ0_isEmpty_aae02_4 ?_
  refine x_if_ne (tgt := 12) C dJ0_isEmpty_aae02_5 (by decide) (fun hc => ?_) (fun hc => ?_)
  · refine x_iconst (v := 0) C dJ0_isEmpty_aae02_12 (by decide) ?_
    exact x_zret C dJ0_isEmpty_aae02_13 (by decide) (by unfold semp; rw [if_neg hc]) rfl
  · refine x_iconst (v := 1) C dJ0_isEmpty_aae02_8 (by decide) ?_
    refine x_goto (tgt := 13) C dJ0_isEmpty_aae02_9 (by decide) ?_
    exact x_zret C dJ0_isEmpty_aae02_13 (by decide) (by unfold semp; rw [if_pos hc]) rfl
theorem c_J0charAt {G : Gl} (l : Launch) (hA : Ap G) {j : Nat} (hj : j < 20) (i : Int32) (hi : inb i (sLen.getD j 0) = true) (μ : Mu) : Mth G l yJ0_charAt_5068e cJ0_charAt_5068e 2 (some .char) 3 64 [.ref (G.aK j), .int i] (some (.int (schr j (ix i)))) μ μ := by
  refine Mth.of (lv := [(0, .ref (G.aK j)), (1, .int i)]) hA (by decide) rfl (Nat.le_of_ble_eq_true rfl) (fun p e s0 m args below meth c C => ?_)
  refine x_aload_n C 0 dJ0_charAt_5068e_0 rfl rfl ?_
  refine x_cK (rest := []) C (c_J0isLatin1 l C.2.2.2.2.2.2.2.2 hj μ) cws_String_492 hj rfl ⟨by decide, by decide⟩ rfl rfl (Nat.le_of_ble_eq_true rfl) dJ0_charAt_5068e_1 ?_
  refine x_if_eq (tgt := 16) C dJ0_charAt_5068e_4 (by decide) (fun hc => absurd hc (by decide)) (fun _ => ?_)
  refine x_aload_n C 0 dJ0_charAt_5068e_7 rfl rfl ?_
  refine x_sgetV C hj dJ0_charAt_5068e_8 ?_
  refine x_iload_n C 1 dJ0_charAt_5068e_11 rfl rfl ?_
  refine x_cSi (rest := []) C (c_J1charAt l C.2.2.2.2.2.2.2.2 hj i hi μ) cws_String_495 ⟨by decide, by decide⟩ rfl rfl (Nat.le_of_ble_eq_true rfl) dJ0_charAt_5068e_12 ?_
  exact x_nret C dJ0_charAt_5068e_15 (sc_nar _) rfl rfl
section Rows4
variable {G : Gl} {p : Program} {l : Launch} {e : Env} {R : Room} {fr lo cells slots : Nat} {Q : State → Prop} {s : State} {m : MethodId} {args : Array Value} {below : List Frame} {meth : Method} {c : Code} {nL : Nat} {rv : Option Value} {μf μ : Mu} {pc : Nat} {lv : List (Nat × Value)} {rest : List Value} {cc : ByteArray} {own : String} {ret : Option FieldType}
theorem x_sLen (C : Cx G p s m args meth c cc nL "CitedWorks$Reader" ret) {j : Nat} (hj : j < 20) (hR : 2 ≤ fr ∧ 40 ≤ lo ∧ (rest.map fun v => v.category).sum ≤ 8) (hd : decode cc pc = .ok (.invokevirtual 99, 3)) (kk : X G p l e fr lo s m args below meth c nL rv μf μ (pc + 3) lv (.int (slen j) :: rest)) : X G p l e fr lo s m args below meth c nL rv μf μ pc lv (.ref (G.aK j) :: rest) := x_cK C (c_J0length l C.2.2.2.2.2.2.2.2 hj μ) cws_CitedWorks_Reader_99 hj rfl ⟨hR.1, hR.2.1⟩ rfl rfl hR.2.2 hd kk
theorem x_sEmp (C : Cx G p s m args meth c cc nL "CitedWorks$Reader" ret) {j : Nat} (hj : j < 20) (hR : 1 ≤ fr ∧ 20 ≤ lo ∧ (rest.map fun v => v.category).sum ≤ 8) (hd : decode cc pc = .ok (.invokevirtual 94, 3)) (kk : X G p l e fr lo s m args below meth c nL rv μf μ (pc + 3) lv (.int (semp j) :: rest)) : X G p l e fr lo s m args below meth c nL rv μf μ pc lv (.ref (G.aK j) :: rest) := x_cK C (c_J0isEmpty l C.2.2.2.2.2.2.2.2 hj μ) cws_CitedWorks_Reader_94 hj rfl ⟨hR.1, hR.2.1⟩ rfl rfl hR.2.2 hd kk
theorem x_sChr (C : Cx G p s m args meth c cc nL "CitedWorks$Reader" ret) {j : Nat} {i : Int32} (hj : j < 20) (hi : inb i (sLen.getD j 0) = true) (hR : 4 ≤ fr ∧ 85 ≤ lo ∧ (rest.map fun v => v.category).sum ≤ 8) (hd : decode cc pc = .ok (.invokevirtual 101, 3)) (kk : X G p l e fr lo s m args below meth c nL rv μf μ (pc + 3) lv (.int (schr j (ix i)) :: rest)) : X G p l e fr lo s m args below meth c nL rv μf μ pc lv (.int i :: .ref (G.aK j) :: rest) := x_cK C (c_J0charAt l C.2.2.2.2.2.2.2.2 hj i hi μ) cws_CitedWorks_Reader_101 hj rfl ⟨hR.1, hR.2.1⟩ rfl rfl hR.2.2 hd kk
end Rows4
