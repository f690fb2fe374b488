theorem ow_code_s {x : MethodName} {bytes : ByteArray} {maxL : Nat} {ret : Option FieldType} (h : (Jvm.Cond.code x bytes maxL ret).before start1.args0 start1.about = true) :
    (Jvm.Cond.code x bytes maxL ret).before start1.args0 ow_s = true := ow_code (k := ow_k) (H := ow_h) h
theorem ow_words : ∀ c ∈ (Jvm.Cond.code x code maxLocals ret :: tables_1), c.before start1.args0 ow_s = true := by
  intro c hc
  have h0 := start1.words c hc
  cases hq : su_isCode c with
  | true =>
    cases c with
    | code a b d g => exact ow_code_s h0
    | _ => exact absurd hq (by simp [su_isCode])
  | false =>
    have hm : c ∈ tables_1 := by
      rcases List.mem_cons.mp hc with h | h
      · rw [h] at hq
        exact absurd hq (by simp [su_isCode])
      · exact h
    have h1 : ow_ok c = true := List.all_eq_true.mp ow_w c hm
    simpa [ow_ok, hq] using h1
set_option maxRecDepth 16384 in
theorem ow_refuted : ¬ Claimed_1_1 := by
  intro h
  obtain ⟨hL, hW, hA, _, hC, hK, _⟩ := start1.atStart
  have hAp : (headSpec (Jvm.Cond.code x code maxLocals ret :: tables_1) room_1).applies x start1.e0.platform ow_s = true :=
    (Spec.applies_iff rfl).mpr ⟨rfl, rfl, rfl, by decide +kernel, by decide +kernel, by decide +kernel,
      launch0.hasRoom_least _ room_1 (by decide +kernel) (by decide +kernel) (by decide +kernel) (by decide +kernel) (by decide +kernel) (by decide +kernel), atoms_intro ow_words⟩
  obtain ⟨n, o, _, _, he, _⟩ := h launch0 rfl hL hW start1.p0 start1.e0 hA hC hK ow_s ⟨0, 0⟩ start1.args0 Lib.HandBits.below0 rfl (by decide +kernel) (by decide +kernel) hAp
    ⟨trivial, (show rest_1_c.before start1.args0 ow_s = true by decide +kernel), (show (Jvm.Cond.and given_1 narrow_1).before start1.args0 ow_s = true by decide +kernel)⟩
  exact ow_go_stays rfl 400 ow_s ow_goes n o he
theorem ow_no_vc : ¬ (Claimed_1_1 ∧ Claimed_1_2) := fun h => ow_refuted h.1
