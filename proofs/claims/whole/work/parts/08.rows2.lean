theorem sw_out_0_2 {x : Int32} (h0 : ¬ x = 0) (h1 : ¬ x = 1) (h2 : ¬ x = 2) : x.toInt < 0 ∨ (2 : Int) < x.toInt := by
  by_cases ha : x.toInt < 0
  · exact Or.inl ha
  · by_cases hb : (2 : Int) < x.toInt
    · exact Or.inr hb
    · have : x.toInt = 0 ∨ x.toInt = 1 ∨ x.toInt = 2 := by omega
      rcases this with hq | hq | hq
      · exact absurd (Int32.toInt_inj.mp (by rw [hq]; rfl)) h0
      · exact absurd (Int32.toInt_inj.mp (by rw [hq]; rfl)) h1
      · exact absurd (Int32.toInt_inj.mp (by rw [hq]; rfl)) h2
theorem sw_out_0_5 {x : Int32} (h0 : ¬ x = 0) (h1 : ¬ x = 1) (h2 : ¬ x = 2) (h3 : ¬ x = 3) (h4 : ¬ x = 4) (h5 : ¬ x = 5) : x.toInt < 0 ∨ (5 : Int) < x.toInt := by
  by_cases ha : x.toInt < 0
  · exact Or.inl ha
  · by_cases hb : (5 : Int) < x.toInt
    · exact Or.inr hb
    · have : x.toInt = 0 ∨ x.toInt = 1 ∨ x.toInt = 2 ∨ x.toInt = 3 ∨ x.toInt = 4 ∨ x.toInt = 5 := by omega
      rcases this with hq | hq | hq | hq | hq | hq
      · exact absurd (Int32.toInt_inj.mp (by rw [hq]; rfl)) h0
      · exact absurd (Int32.toInt_inj.mp (by rw [hq]; rfl)) h1
      · exact absurd (Int32.toInt_inj.mp (by rw [hq]; rfl)) h2
      · exact absurd (Int32.toInt_inj.mp (by rw [hq]; rfl)) h3
      · exact absurd (Int32.toInt_inj.mp (by rw [hq]; rfl)) h4
      · exact absurd (Int32.toInt_inj.mp (by rw [hq]; rfl)) h5
theorem sw_out_0_6 {x : Int32} (h0 : ¬ x = 0) (h1 : ¬ x = 1) (h2 : ¬ x = 2) (h3 : ¬ x = 3) (h4 : ¬ x = 4) (h5 : ¬ x = 5) (h6 : ¬ x = 6) : x.toInt < 0 ∨ (6 : Int) < x.toInt := by
  by_cases ha : x.toInt < 0
  · exact Or.inl ha
  · by_cases hb : (6 : Int) < x.toInt
    · exact Or.inr hb
    · have : x.toInt = 0 ∨ x.toInt = 1 ∨ x.toInt = 2 ∨ x.toInt = 3 ∨ x.toInt = 4 ∨ x.toInt = 5 ∨ x.toInt = 6 := by omega
      rcases this with hq | hq | hq | hq | hq | hq | hq
      · exact absurd (Int32.toInt_inj.mp (by rw [hq]; rfl)) h0
      · exact absurd (Int32.toInt_inj.mp (by rw [hq]; rfl)) h1
      · exact absurd (Int32.toInt_inj.mp (by rw [hq]; rfl)) h2
      · exact absurd (Int32.toInt_inj.mp (by rw [hq]; rfl)) h3
      · exact absurd (Int32.toInt_inj.mp (by rw [hq]; rfl)) h4
      · exact absurd (Int32.toInt_inj.mp (by rw [hq]; rfl)) h5
      · exact absurd (Int32.toInt_inj.mp (by rw [hq]; rfl)) h6
theorem sw_out_0_8 {x : Int32} (h0 : ¬ x = 0) (h1 : ¬ x = 1) (h2 : ¬ x = 2) (h3 : ¬ x = 3) (h4 : ¬ x = 4) (h5 : ¬ x = 5) (h6 : ¬ x = 6) (h7 : ¬ x = 7) (h8 : ¬ x = 8) : x.toInt < 0 ∨ (8 : Int) < x.toInt := by
  by_cases ha : x.toInt < 0
  · exact Or.inl ha
  · by_cases hb : (8 : Int) < x.toInt
    · exact Or.inr hb
    · have : x.toInt = 0 ∨ x.toInt = 1 ∨ x.toInt = 2 ∨ x.toInt = 3 ∨ x.toInt = 4 ∨ x.toInt = 5 ∨ x.toInt = 6 ∨ x.toInt = 7 ∨ x.toInt = 8 := by omega
      rcases this with hq | hq | hq | hq | hq | hq | hq | hq | hq
      · exact absurd (Int32.toInt_inj.mp (by rw [hq]; rfl)) h0
      · exact absurd (Int32.toInt_inj.mp (by rw [hq]; rfl)) h1
      · exact absurd (Int32.toInt_inj.mp (by rw [hq]; rfl)) h2
      · exact absurd (Int32.toInt_inj.mp (by rw [hq]; rfl)) h3
      · exact absurd (Int32.toInt_inj.mp (by rw [hq]; rfl)) h4
      · exact absurd (Int32.toInt_inj.mp (by rw [hq]; rfl)) h5
      · exact absurd (Int32.toInt_inj.mp (by rw [hq]; rfl)) h6
      · exact absurd (Int32.toInt_inj.mp (by rw [hq]; rfl)) h7
      · exact absurd (Int32.toInt_inj.mp (by rw [hq]; rfl)) h8
theorem sw_out_0_10 {x : Int32} (h0 : ¬ x = 0) (h1 : ¬ x = 1) (h2 : ¬ x = 2) (h3 : ¬ x = 3) (h4 : ¬ x = 4) (h5 : ¬ x = 5) (h6 : ¬ x = 6) (h7 : ¬ x = 7) (h8 : ¬ x = 8) (h9 : ¬ x = 9) (h10 : ¬ x = 10) : x.toInt < 0 ∨ (10 : Int) < x.toInt := by
  by_cases ha : x.toInt < 0
  · exact Or.inl ha
  · by_cases hb : (10 : Int) < x.toInt
    · exact Or.inr hb
    · have : x.toInt = 0 ∨ x.toInt = 1 ∨ x.toInt = 2 ∨ x.toInt = 3 ∨ x.toInt = 4 ∨ x.toInt = 5 ∨ x.toInt = 6 ∨ x.toInt = 7 ∨ x.toInt = 8 ∨ x.toInt = 9 ∨ x.toInt = 10 := by omega
      rcases this with hq | hq | hq | hq | hq | hq | hq | hq | hq | hq | hq
      · exact absurd (Int32.toInt_inj.mp (by rw [hq]; rfl)) h0
      · exact absurd (Int32.toInt_inj.mp (by rw [hq]; rfl)) h1
      · exact absurd (Int32.toInt_inj.mp (by rw [hq]; rfl)) h2
      · exact absurd (Int32.toInt_inj.mp (by rw [hq]; rfl)) h3
      · exact absurd (Int32.toInt_inj.mp (by rw [hq]; rfl)) h4
      · exact absurd (Int32.toInt_inj.mp (by rw [hq]; rfl)) h5
      · exact absurd (Int32.toInt_inj.mp (by rw [hq]; rfl)) h6
      · exact absurd (Int32.toInt_inj.mp (by rw [hq]; rfl)) h7
      · exact absurd (Int32.toInt_inj.mp (by rw [hq]; rfl)) h8
      · exact absurd (Int32.toInt_inj.mp (by rw [hq]; rfl)) h9
      · exact absurd (Int32.toInt_inj.mp (by rw [hq]; rfl)) h10
theorem sw_out_1_5 {x : Int32} (h1 : ¬ x = 1) (h2 : ¬ x = 2) (h3 : ¬ x = 3) (h4 : ¬ x = 4) (h5 : ¬ x = 5) : x.toInt < 1 ∨ (5 : Int) < x.toInt := by
  by_cases ha : x.toInt < 1
  · exact Or.inl ha
  · by_cases hb : (5 : Int) < x.toInt
    · exact Or.inr hb
    · have : x.toInt = 1 ∨ x.toInt = 2 ∨ x.toInt = 3 ∨ x.toInt = 4 ∨ x.toInt = 5 := by omega
      rcases this with hq | hq | hq | hq | hq
      · exact absurd (Int32.toInt_inj.mp (by rw [hq]; rfl)) h1
      · exact absurd (Int32.toInt_inj.mp (by rw [hq]; rfl)) h2
      · exact absurd (Int32.toInt_inj.mp (by rw [hq]; rfl)) h3
      · exact absurd (Int32.toInt_inj.mp (by rw [hq]; rfl)) h4
      · exact absurd (Int32.toInt_inj.mp (by rw [hq]; rfl)) h5
theorem sw_out_6_9 {x : Int32} (h6 : ¬ x = 6) (h7 : ¬ x = 7) (h8 : ¬ x = 8) (h9 : ¬ x = 9) : x.toInt < 6 ∨ (9 : Int) < x.toInt := by
  by_cases ha : x.toInt < 6
  · exact Or.inl ha
  · by_cases hb : (9 : Int) < x.toInt
    · exact Or.inr hb
    · have : x.toInt = 6 ∨ x.toInt = 7 ∨ x.toInt = 8 ∨ x.toInt = 9 := by omega
      rcases this with hq | hq | hq | hq
      · exact absurd (Int32.toInt_inj.mp (by rw [hq]; rfl)) h6
      · exact absurd (Int32.toInt_inj.mp (by rw [hq]; rfl)) h7
      · exact absurd (Int32.toInt_inj.mp (by rw [hq]; rfl)) h8
      · exact absurd (Int32.toInt_inj.mp (by rw [hq]; rfl)) h9
theorem sw_look_74 {x : Int32} (h2 : ¬ x = 2) (h3 : ¬ x = 3) (h8 : ¬ x = 8) : Op.lookupswitch.offset (#[(2, 35), (3, 42), (8, 54)] : Array (Int × Int)).toList 74 x.toInt = 74 := (lv_osw (a := 2) h2 (by decide)).trans ((lv_osw (a := 3) h3 (by decide)).trans ((lv_osw (a := 8) h8 (by decide)).trans (rfl)))
theorem sw_look_101 {x : Int32} (h0 : ¬ x = 0) (h1 : ¬ x = 1) (h9 : ¬ x = 9) : Op.lookupswitch.offset (#[(0, 35), (1, 57), (9, 79)] : Array (Int × Int)).toList 101 x.toInt = 101 := (lv_osw (a := 0) h0 (by decide)).trans ((lv_osw (a := 1) h1 (by decide)).trans ((lv_osw (a := 9) h9 (by decide)).trans (rfl)))
section Rows2
variable {G : Gl} {p : Program} {l : Launch} {e : Env} {R : Room} {fr lo cells slots : Nat} {Q : State → Prop} {s : State} {m : MethodId} {args : Array Value} {below : List Frame} {meth : Method} {c : Code} {nL : Nat} {rv : Option Value} {μf μ : Mu} {pc : Nat} {lv : List (Nat × Value)} {rest : List Value} {cc : ByteArray} {own : String} {ret : Option FieldType}
theorem x_letM {β : Type} {r : β} {f : Mu → β} {st : List Value} (hF : lt μ f = r) (kk : ∀ z : Mu, f z = r → XX G p l e R s m args below meth c nL cells slots Q z pc lv st) : XX G p l e R s m args below meth c nL cells slots Q μ pc lv st := kk μ hF
theorem x_letI {β : Type} {r : β} {v : Int32} {f : Int32 → β} (hF : lt v f = r) (kk : ∀ z : Int32, f z = r → XX G p l e R s m args below meth c nL cells slots Q μ pc lv (.int z :: rest)) : XX G p l e R s m args below meth c nL cells slots Q μ pc lv (.int v :: rest) := kk v hF
theorem x_cVi (C : Cx G p s m args meth c cc nL own ret) {y : MethodName} {bytes : ByteArray} {maxL : Nat} {rt : Option FieldType} {fr1 lo1 : Nat} {r1 : Int32} {μ1 : Mu} {As st : List Value} {k ci idx n : Nat} {L : List (Option Nat)} {q : vw_C} (hM : Mth G l y bytes maxL rt fr1 lo1 (.ref (G.ad k) :: As) (some (.int r1)) μ1 μ) (hw : CwV own idx y bytes maxL rt n) (hsh : sh k = .inr (ci, L)) (hq : vwCl[ci]? = some q) (hqy : q.1 = y.cls) (hR : fr1 + 1 ≤ fr ∧ 8 + (maxL + 11) + lo1 ≤ lo) (hn : As.length = n) (hst : st = As.reverse ++ .ref (G.ad k) :: rest) (hro : (rest.map fun v => v.category).sum ≤ 8) (hd : decode cc pc = .ok (.invokevirtual idx, 3)) (kk : X G p l e fr lo s m args below meth c nL rv μf μ1 (pc + 3) lv (.int r1 :: rest)) : X G p l e fr lo s m args below meth c nL rv μf μ pc lv st := x_callV C hM hw hsh hq hqy ⟨Nat.le_refl _, Nat.le_refl _⟩ hR hn hst hro hd kk
theorem x_cSi (C : Cx G p s m args meth c cc nL own ret) {y : MethodName} {bytes : ByteArray} {maxL : Nat} {rt : Option FieldType} {fr1 lo1 : Nat} {r1 : Int32} {μ1 : Mu} {As st : List Value} {idx n : Nat} (hM : Mth G l y bytes maxL rt fr1 lo1 As (some (.int r1)) μ1 μ) (hw : CwS own idx y bytes maxL rt n) (hR : fr1 + 1 ≤ fr ∧ 8 + (maxL + 11) + lo1 ≤ lo) (hn : As.length = n) (hst : st = As.reverse ++ rest) (hro : (rest.map fun v => v.category).sum ≤ 8) (hd : decode cc pc = .ok (.invokestatic idx, 3)) (kk : X G p l e fr lo s m args below meth c nL rv μf μ1 (pc + 3) lv (.int r1 :: rest)) : X G p l e fr lo s m args below meth c nL rv μf μ pc lv st := x_callS C hM hw ⟨Nat.le_refl _, Nat.le_refl _⟩ hR hn hst hro hd kk
theorem x_cVv (C : Cx G p s m args meth c cc nL own ret) {y : MethodName} {bytes : ByteArray} {maxL : Nat} {rt : Option FieldType} {fr1 lo1 : Nat} {μ1 : Mu} {As st : List Value} {k ci idx n : Nat} {L : List (Option Nat)} {q : vw_C} (hM : Mth G l y bytes maxL rt fr1 lo1 (.ref (G.ad k) :: As) none μ1 μ) (hw : CwV own idx y bytes maxL rt n) (hsh : sh k = .inr (ci, L)) (hq : vwCl[ci]? = some q) (hqy : q.1 = y.cls) (hR : fr1 + 1 ≤ fr ∧ 8 + (maxL + 11) + lo1 ≤ lo) (hn : As.length = n) (hst : st = As.reverse ++ .ref (G.ad k) :: rest) (hro : (rest.map fun v => v.category).sum ≤ 8) (hd : decode cc pc = .ok (.invokevirtual idx, 3)) (kk : X G p l e fr lo s m args below meth c nL rv μf μ1 (pc + 3) lv rest) : X G p l e fr lo s m args below meth c nL rv μf μ pc lv st := x_callV C hM hw hsh hq hqy ⟨Nat.le_refl _, Nat.le_refl _⟩ hR hn hst hro hd kk
theorem x_cSv (C : Cx G p s m args meth c cc nL own ret) {y : MethodName} {bytes : ByteArray} {maxL : Nat} {rt : Option FieldType} {fr1 lo1 : Nat} {μ1 : Mu} {As st : List Value} {idx n : Nat} (hM : Mth G l y bytes maxL rt fr1 lo1 As none μ1 μ) (hw : CwS own idx y bytes maxL rt n) (hR : fr1 + 1 ≤ fr ∧ 8 + (maxL + 11) + lo1 ≤ lo) (hn : As.length = n) (hst : st = As.reverse ++ rest) (hro : (rest.map fun v => v.category).sum ≤ 8) (hd : decode cc pc = .ok (.invokestatic idx, 3)) (kk : X G p l e fr lo s m args below meth c nL rv μf μ1 (pc + 3) lv rest) : X G p l e fr lo s m args below meth c nL rv μf μ pc lv st := x_callS C hM hw ⟨Nat.le_refl _, Nat.le_refl _⟩ hR hn hst hro hd kk
theorem x_cVr (C : Cx G p s m args meth c cc nL own ret) {y : MethodName} {bytes : ByteArray} {maxL : Nat} {rt : Option FieldType} {fr1 lo1 : Nat} {r1 : Nat} {μ1 : Mu} {As st : List Value} {k ci idx n : Nat} {L : List (Option Nat)} {q : vw_C} (hM : Mth G l y bytes maxL rt fr1 lo1 (.ref (G.ad k) :: As) (some (.ref r1)) μ1 μ) (hw : CwV own idx y bytes maxL rt n) (hsh : sh k = .inr (ci, L)) (hq : vwCl[ci]? = some q) (hqy : q.1 = y.cls) (hR : fr1 + 1 ≤ fr ∧ 8 + (maxL + 11) + lo1 ≤ lo) (hn : As.length = n) (hst : st = As.reverse ++ .ref (G.ad k) :: rest) (hro : (rest.map fun v => v.category).sum ≤ 8) (hd : decode cc pc = .ok (.invokevirtual idx, 3)) (kk : X G p l e fr lo s m args below meth c nL rv μf μ1 (pc + 3) lv (.ref r1 :: rest)) : X G p l e fr lo s m args below meth c nL rv μf μ pc lv st := x_callV C hM hw hsh hq hqy ⟨Nat.le_refl _, Nat.le_refl _⟩ hR hn hst hro hd kk
theorem x_cSr (C : Cx G p s m args meth c cc nL own ret) {y : MethodName} {bytes : ByteArray} {maxL : Nat} {rt : Option FieldType} {fr1 lo1 : Nat} {r1 : Nat} {μ1 : Mu} {As st : List Value} {idx n : Nat} (hM : Mth G l y bytes maxL rt fr1 lo1 As (some (.ref r1)) μ1 μ) (hw : CwS own idx y bytes maxL rt n) (hR : fr1 + 1 ≤ fr ∧ 8 + (maxL + 11) + lo1 ≤ lo) (hn : As.length = n) (hst : st = As.reverse ++ rest) (hro : (rest.map fun v => v.category).sum ≤ 8) (hd : decode cc pc = .ok (.invokestatic idx, 3)) (kk : X G p l e fr lo s m args below meth c nL rv μf μ1 (pc + 3) lv (.ref r1 :: rest)) : X G p l e fr lo s m args below meth c nL rv μf μ pc lv st := x_callS C hM hw ⟨Nat.le_refl _, Nat.le_refl _⟩ hR hn hst hro hd kk
theorem x_cNi (C : Cx G p s m args meth c cc nL own ret) {y : MethodName} {bytes : ByteArray} {maxL : Nat} {rt : Option FieldType} {fr1 lo1 : Nat} {r1 : Int32} {μ1 : Mu} {As st : List Value} {idx n : Nat} (hM : Mth G l y bytes maxL rt fr1 lo1 As (some (.int r1)) μ1 μ) (hw : CwN own idx y bytes maxL rt n) (hR : fr1 + 1 ≤ fr ∧ 8 + (maxL + 11) + lo1 ≤ lo) (hn : As.length = n) (hst : st = As.reverse ++ rest) (hro : (rest.map fun v => v.category).sum ≤ 8) (hd : decode cc pc = .ok (.invokestatic idx, 3)) (kk : X G p l e fr lo s m args below meth c nL rv μf μ1 (pc + 3) lv (.int r1 :: rest)) : X G p l e fr lo s m args below meth c nL rv μf μ pc lv st := by
  intro H locs ls hP hS hl
  have ok : ∀ w ∈ tg, w.before args s = true := C.2.2.2.2.1
  have hcode : Cond.code y bytes maxL rt ∈ tg := hw.1 _ (by simp)
  have hnest : va_Nw (.methodLinkNest own idx y "CitedWorks") s := by rw [hw.2.2]; exact C.2.2.2.2.2.2.2.1.2.2.2.2.2.2.2.1
  exact x_run (a := As.toArray) hS hl (va_runSN (As := As) (Ts := tg) (n := n) (bytes := bytes) (maxL := maxL) (ret := rt) ⟨C.1, C.2.1, C.2.2.1, C.2.2.2.1, ok⟩ hM ⟨va_cnB n ok (tg_callee hcode) rfl rfl rfl hnest (ok _ (hw.1 _ (by simp))) hw.2.1 hR, ok _ (hw.1 _ (by simp)), trivial⟩ ⟨blind_of, fun U hU hW => ⟨rfl, kn_at C hS hU hW, by rw [hU]; exact hP⟩⟩ rfl hn hl.1 hst (lv_room hro) hd ⟨Nat.le_refl _, Nat.le_refl _⟩) kk
theorem x_copy (C : Cx G p s m args meth c cc nL own ret) {k0 k1 n0 n1 idx : Nat} {sp dp n : Int32} (hw : CwA own idx) (h0 : sh k0 = .inl (0, n0)) (h1 : sh k1 = .inl (0, n1)) (hc : cpk sp dp n n0 n1 = true) (hR : 1 ≤ R.frames ∧ (rest.map fun v => v.category).sum + 18 ≤ R.locals) (hd : decode cc pc = .ok (.invokestatic idx, 3)) (kk : XX G p l e R s m args below meth c nL cells slots Q (u1 μ k1 (va_cpy (μ k0) (μ k1) (ix sp) (ix dp) (ix n))) (pc + 3) lv rest) : XX G p l e R s m args below meth c nL cells slots Q μ pc lv (.int n :: .int dp :: .ref (G.ad k1) :: .int sp :: .ref (G.ad k0) :: rest) := by
  intro H locs ls hP hS hl
  have ok : ∀ w ∈ tg, w.before args s = true := C.2.2.2.2.1
  obtain ⟨a1, a2, a3, a4, a5⟩ := cpk_ok hc
  exact va_copyi (ty := .int) C.1 C.2.1 (C.2.2.1.trans hl.1.symm) C.2.2.2.1 (ok _ (hw _ (by simp))) (ok _ (hw _ (by simp))) (ok _ (hw _ (by simp))) (ok _ (hw _ (by simp))) C.2.2.2.2.2.2.2.1.1 hP (wsOf_D C.2.2.2.2.2.2.2.2 μ) hS k0 k1 0 0 (wsI h0) (wsI h1) rfl rfl rfl a1 a2 a3 a4 a5 (fun _ _ => rfl) hR.1 (show _ + 18 ≤ _ from hR.2) hd (fun H1 locs1 hP1 _ hS1 => kk H1 locs1 ls (pic_set h1 (by decide) (by rw [h1]; rfl) hP1) hS1 hl)
theorem x_min (C : Cx G p s m args meth c cc nL own ret) {idx : Nat} {x y : Int32} (hw : CwM own idx) (hR : 1 ≤ fr ∧ (rest.map fun v => v.category).sum + 13 ≤ lo) (hd : decode cc pc = .ok (.invokestatic idx, 3)) (kk : X G p l e fr lo s m args below meth c nL rv μf μ (pc + 3) lv (.int (if y < x then y else x) :: rest)) : X G p l e fr lo s m args below meth c nL rv μf μ pc lv (.int y :: .int x :: rest) := by
  intro H locs ls hP hS hl
  have ok : ∀ w ∈ tg, w.before args s = true := C.2.2.2.2.1
  exact va_mmin C.1 C.2.1 (C.2.2.1.trans hl.1.symm) C.2.2.2.1 (ok _ (hw _ (by simp))) (ok _ (hw _ (by simp))) (ok _ (hw _ (by simp))) (ok _ (hw _ (by simp))) hR.1 hR.2 (Nat.zero_le _) (Nat.zero_le _) hd (kk H locs ls hP hS hl)
theorem x_ldcS (C : Cx G p s m args meth c cc nL "CitedWorks$Reader" ret) {j : Nat} (hj : j < 20) (hd : decode cc pc = .ok (.ldc (sIdx.getD j 0), 2)) (kk : XX G p l e R s m args below meth c nL cells slots Q μ (pc + 2) lv (.ref (G.aK j) :: rest)) : XX G p l e R s m args below meth c nL cells slots Q μ pc lv rest := fun H locs ls hP hS hl =>
  va_ldcS C.1 C.2.1 C.2.2.2.1 (C.2.2.2.2.2.2.2.1.2.2.2.2.2.2.1 j hj) hd (kk H locs ls hP hS hl)
end Rows2
