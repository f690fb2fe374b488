def ow_put (k : Class) (H : Heap) (s : State) : State := { s with vm := { s.vm with classes := s.vm.classes.push k }, heap := H }
theorem ow_find {k : Class} {H : Heap} {s : State} {nm : String} {c : ClassId} (h : s.vm.findClass nm = some c) : (ow_put k H s).vm.findClass nm = some c ∧ c < s.vm.classes.size := by
  unfold Vm.findClass at h
  constructor
  · show Vm.findClass { s.vm with classes := s.vm.classes.push k } nm = some c
    unfold Vm.findClass
    show (s.vm.classes.push k).findIdx? _ = some c
    rw [Array.findIdx?_push, h]
    rfl
  · exact (Array.findIdx?_eq_some_iff_getElem.mp h).1
theorem ow_named {k : Class} {H : Heap} {s : State} {x : MethodName} {m : MethodId} (h : s.methodNamed? x = some m) :
    (ow_put k H s).methodNamed? x = some m ∧ (ow_put k H s).vm.method? m = s.vm.method? m := by
  cases hc : s.vm.findClass x.cls with
  | none =>
    rw [State.methodNamed?, hc] at h
    exact absurd h (by simp)
  | some c =>
    obtain ⟨h1, h2⟩ := ow_find (k := k) (H := H) hc
    have h3 : (ow_put k H s).vm.classes[c]? = s.vm.classes[c]? := by
      show (s.vm.classes.push k)[c]? = s.vm.classes[c]?
      exact Array.getElem?_push_lt h2 |>.trans (by simp [h2])
    have h4 : m.cls = c := by
      rw [State.methodNamed?, hc] at h
      cases hk : s.vm.classes[c]? with
      | none => simp [hk] at h
      | some q =>
        cases hi : q.findMethod x.name x.desc with
        | none => simp [hk, hi] at h
        | some i =>
          simp [hk, hi] at h
          rw [← h]
    constructor
    · rw [State.methodNamed?, h1]
      rw [State.methodNamed?, hc] at h
      simp only [Option.bind_eq_bind, Option.bind_some] at h ⊢
      rw [h3]
      exact h
    · unfold Vm.method?
      rw [h4, h3]
theorem ow_code {k : Class} {H : Heap} {s : State} {a : Array Value} {x : MethodName} {bytes : ByteArray} {maxL : Nat} {ret : Option FieldType}
    (h : (Jvm.Cond.code x bytes maxL ret).before a s = true) : (Jvm.Cond.code x bytes maxL ret).before a (ow_put k H s) = true := by
  simp only [Cond.before, Cond.holds, Cond.value] at h ⊢
  cases hn : s.methodNamed? x with
  | none => simp [hn] at h
  | some m =>
    obtain ⟨h1, h2⟩ := ow_named (k := k) (H := H) hn
    rw [h1]
    rw [hn] at h
    simp only [Option.bind_some, h2] at h ⊢
    exact h
theorem ow_join {α : Type} (p : α → Bool) (n : Nat) (l : List α) (h1 : (l.take n).all p = true) (h2 : (l.drop n).all p = true) : l.all p = true := by
  have h : (l.take n ++ l.drop n).all p = true := by rw [List.all_append, h1, h2]; rfl
  rwa [List.take_append_drop] at h
