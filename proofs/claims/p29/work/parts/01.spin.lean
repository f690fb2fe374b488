def ow_up (s : State) : Bool := match s.frames with
  | .java _ :: _ => true
  | .invoking _ _ :: _ => true
  | _ => false
def ow_spins (tb : Tables) (e : Env) (s : State) : Bool := match s.frames with
  | .java f :: _ => (overridden tb e s f).isNone && (match (s.code? f.method).map fun c => decode c.code f.pc with
    | some (.ok (.goto off, 3)) => decide (off = 0)
    | _ => false)
  | _ => false
def ow_go (tb : Tables) (e : Env) : Nat → State → Bool
  | 0, _ => false
  | n + 1, s => ow_spins tb e s || (ow_up s && ow_go tb e n (stepThread tb e s).1)
theorem ow_up_not {s : State} (h : ow_up s = true) (o : Outcome) : ¬ Ended s Lib.HandBits.below0 o := by
  intro he
  cases o with
  | threw a =>
    have he' : s.frames = .throwing a :: Lib.HandBits.below0 := he
    rw [ow_up, he'] at h
    exact absurd h (by simp)
  | returned v =>
    have he' : s.frames = [.native { ({ method := ⟨0, 0⟩, args := #[] } : NFrame) with awaiting := false, answer := some (.returned v) }] := he
    rw [ow_up, he'] at h
    exact absurd h (by simp)
theorem ow_spins_is {tb : Tables} {e : Env} {s : State} (h : ow_spins tb e s = true) : ∃ (f : JFrame) (rest : List Frame), s.frames = .java f :: rest ∧ overridden tb e s f = none ∧
    (s.code? f.method).map (fun c => decode c.code f.pc) = some (.ok (.goto 0, 3)) := by
  unfold ow_spins at h
  split at h
  · rename_i f rest hf
    rw [Bool.and_eq_true] at h
    obtain ⟨h1, h2⟩ := h
    split at h2
    · rename_i off hd
      have h3 : off = 0 := by simpa using h2
      subst h3
      exact ⟨f, rest, hf, by simpa using h1, hd⟩
    · exact absurd h2 (by simp)
  · exact absurd h (by simp)
theorem ow_spins_of {tb : Tables} {e : Env} {s : State} {f : JFrame} {rest : List Frame} (hf : s.frames = .java f :: rest) (ho : overridden tb e s f = none)
    (hc : (s.code? f.method).map (fun c => decode c.code f.pc) = some (.ok (.goto 0, 3))) : ow_spins tb e s = true := by
  unfold ow_spins
  rw [hf]
  simp [ho, hc]
theorem ow_frames_top {s : State} {f : JFrame} {rest : List Frame} (hf : s.frames = .java f :: rest) (g : JFrame → JFrame) (hg : g f = f) : s.modifyTopJava g = s := by
  have ht : (s.modifyTopJava g).threads = s.threads := by
    unfold State.modifyTopJava
    apply Array.ext
    · simp
    · intro i h1 h2
      rw [Array.getElem_modify]
      split
      · rename_i hi
        have hq : s.threads[s.cur]? = some s.threads[i] := by
          subst hi
          simp
        have hr : s.threads[i].frames = .java f :: rest := by
          have := hf
          rw [State.frames, hq] at this
          exact this
        generalize s.threads[i] = t at hr
        cases t
        simp only at hr
        subst hr
        simp [hg]
      · rfl
  have he : s.modifyTopJava g = { s with threads := (s.modifyTopJava g).threads } := rfl
  rw [he, ht]
theorem ow_spin_step {tb : Tables} {e : Env} (hx : tb.exec = Jvm.exec) {s : State} (h : ow_spins tb e s = true) : (stepThread tb e s).1 = s := by
  obtain ⟨f, rest, hf, ho, hc⟩ := ow_spins_is h
  have hr : (Jvm.exec (.goto 0)).run e s = .ctl (.branch 0) s [.mark "op.goto"] := rfl
  have ht : s.topJava? = some f := by rw [State.topJava?, hf]
  unfold stepThread
  rw [hf]
  simp only [ho, hc, hx, hr, afterInstr, ht]
  have hn : ¬ ((f.pc : Int) + 0 < 0) := by omega
  rw [if_neg hn]
  exact ow_frames_top hf _ (by cases f; simp)
theorem ow_spins_stays {tb : Tables} {e : Env} (hx : tb.exec = Jvm.exec) {s : State} (h : ow_spins tb e s = true) : ∀ n : Nat, stepsAlone tb e n s = s
  | 0 => rfl
  | n + 1 => by
    rw [stepsAlone]
    split
    · rw [ow_spin_step hx h]
      exact ow_spins_stays hx h n
    · rfl
theorem ow_go_stays {tb : Tables} {e : Env} (hx : tb.exec = Jvm.exec) : ∀ (k : Nat) (s : State), ow_go tb e k s = true → ∀ (n : Nat) (o : Outcome), ¬ Ended (stepsAlone tb e n s) Lib.HandBits.below0 o
  | 0, s, h, n, o => by simp [ow_go] at h
  | k + 1, s, h, n, o => by
    have h0 : ow_spins tb e s = true ∨ (ow_up s = true ∧ ow_go tb e k (stepThread tb e s).1 = true) := by simpa [ow_go] using h
    rcases h0 with h1 | h1
    · rw [ow_spins_stays hx h1 n]
      obtain ⟨f, rest, hf, _, _⟩ := ow_spins_is h1
      exact ow_up_not (by rw [ow_up, hf]) o
    · cases n with
      | zero => exact ow_up_not h1.1 o
      | succ n =>
        rw [stepsAlone]
        split
        · exact ow_go_stays hx k _ h1.2 n o
        · exact ow_up_not h1.1 o
