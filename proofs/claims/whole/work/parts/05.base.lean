/-! THE WORLD. A state of the system is a function Mu: key of a cell, place in it, number. Refs and lengths never change once both objects are made: they are the shape 'sh'. -/
abbrev Mu : Type := Nat → Nat → Int32
abbrev ix (i : Int32) : Nat := i.toNatClampNeg
def inb (i : Int32) (n : Nat) : Bool := decide (0 ≤ i) && decide (ix i < n)
def isb (x : Int32) : Bool := x == 0 || x == 1
def u1 (μ : Mu) (k : Nat) (f : Nat → Int32) : Mu := fun a => if a = k then f else μ a
def u2 (μ : Mu) (k i : Nat) (x : Int32) : Mu := u1 μ k (upd (μ k) i x)
theorem u1_self (μ : Mu) (k : Nat) (f : Nat → Int32) : u1 μ k f k = f := by simp [u1]
theorem u1_ne (μ : Mu) {k a : Nat} (f : Nat → Int32) (h : a ≠ k) : u1 μ k f a = μ a := by simp [u1, h]
theorem inb_in {i : Int32} {n : Nat} (h : inb i n = true) : vp_in i n := by
  simp only [inb, Bool.and_eq_true, decide_eq_true_eq] at h
  intro hc
  rcases hc with hc | hc
  · exact absurd hc (Int32.not_lt.mpr h.1)
  · have := h.2
    simp only [ix] at this
    omega
theorem isb_cases {x : Int32} (h : isb x = true) : x = 0 ∨ x = 1 := by
  simpa [isb] using h
theorem isb_nar {x : Int32} (h : isb x = true) : narrow .boolean (.int x) = .int x := by
  rcases isb_cases h with rfl | rfl <;> rfl
theorem isb_fits {x : Int32} (h : isb x = true) : fits .boolean (.int x) = true := by
  rcases isb_cases h with rfl | rfl <;> rfl
theorem isb_vp {x : Int32} (h : isb x = true) : vp_nar .boolean x = x := by
  rcases isb_cases h with rfl | rfl <;> rfl
/-- (class of the array: 0 int, 1 boolean, 2 Draft; its length), or (class of the object, its fields: none a number, some k a ref to the cell k) -/
abbrev Sh : Type := (Nat × Nat) ⊕ (Nat × List (Option Nat))
def LX0 : List (Option Nat) := [some 11, some 12, none]
def LX2 : List (Option Nat) := [some 76, some 77, none, some 78, none]
def LX3 : List (Option Nat) := [some 72, none, none, none, some 73, some 74, none]
def LX4 : List (Option Nat) := [some 2, some 3, some 4, some 5, some 6, some 7, some 8, some 9, none]
def LX5 : List (Option Nat) := [some 80, none, none, some 81]
def LX7 : List (Option Nat) := [some 1, some 10, some 13, some 18, some 31, some 36, some 49, some 50, some 71, some 75, some 79, none, none]
def LX1 (d : Nat) : List (Option Nat) := [some (d + 1), some (d + 2), some (d + 3), some (d + 4), none]
def LX6 (d : Nat) : List (Option Nat) := [some 1, some 10, some d, some (d + 6), some (d + 7), some (d + 8), some (d + 9), some (d + 10), some (d + 11), some (d + 12), some (d + 13), some (d + 14), some (d + 15), some (d + 16), some (d + 17), none, none]
def draftS (d : Nat) : List Sh := [.inr (1, LX1 d), .inl (0, 205), .inl (0, 41), .inl (0, 24), .inl (0, 10)]
def viewS (d : Nat) : List Sh := [.inr (6, LX6 d), .inl (0, 24), .inl (0, 24), .inl (0, 100), .inl (0, 100), .inl (0, 100), .inl (0, 100), .inl (0, 24), .inl (0, 24), .inl (0, 24), .inl (1, 24), .inl (1, 24), .inl (0, 24)]
def LX8 : List (Option Nat) := [none, some 83, some 84, some 85, some 86, some 87, some 88, some 89, some 90, some 91, some 92, some 93, some 94, some 95, some 96, none, none, some 97, some 98, some 99, some 100, none, some 101, some 102, some 103, none, some 104, some 105, some 106, some 107, some 108, some 109, some 110, some 111, none, some 112, none, none, none, none, none, none, some 113, some 114, none, some 115, some 116]
def modelS : List Sh := [.inr (8, LX8), .inl (0, 24), .inl (0, 96), .inl (0, 96), .inl (0, 96), .inl (0, 24), .inl (0, 24), .inl (0, 24), .inl (0, 24), .inl (0, 120), .inl (0, 5), .inl (0, 200), .inl (0, 1000), .inl (0, 50), .inl (1, 5), .inl (0, 100), .inl (0, 100), .inl (0, 100), .inl (0, 100), .inl (0, 100), .inl (0, 24), .inl (0, 24), .inl (0, 24), .inl (0, 24), .inl (1, 24), .inl (0, 24), .inl (1, 24), .inl (0, 5), .inl (0, 5), .inl (0, 5), .inl (0, 200), .inl (0, 10), .inl (0, 100), .inl (0, 5), .inl (0, 10)]
def shL : List Sh := [.inr (7, LX7)] ++ ([.inr (4, LX4), .inl (0, 24), .inl (0, 24), .inl (0, 24), .inl (0, 24), .inl (0, 24), .inl (0, 96), .inl (0, 96), .inl (0, 96)] ++ ([.inr (0, LX0), .inl (0, 100), .inl (0, 100)] ++ (draftS 13 ++ (viewS 13 ++ (draftS 31 ++ (viewS 31 ++ ([.inl (2, 4), .inl (1, 4)] ++ (draftS 51 ++ (draftS 56 ++ (draftS 61 ++ (draftS 66 ++ ([.inr (3, LX3), .inl (0, 10), .inl (0, 200), .inl (1, 10)] ++ ([.inr (2, LX2), .inl (0, 5), .inl (0, 5), .inl (0, 5)] ++ ([.inr (5, LX5), .inl (0, 10), .inl (0, 10)] ++ modelS))))))))))))))
def NK : Nat := 117
def sh (k : Nat) : Sh := shL.getD k (.inl (9, 0))
theorem shL_len : shL.length = NK := by decide +kernel
/-- what a launch has laid where: classes and slots; the classes of int[], boolean[], Draft[]; the addresses of the keys; FIRST_STYLE, POWERS; the String constants and their bytes -/
abbrev Gl : Type := va_G × (ClassId × ClassId × ClassId) × (Nat → Nat) × (Nat × Nat) × (Nat → Nat) × (Nat → Nat)
abbrev Gl.ad (G : Gl) : Nat → Nat := G.2.2.1
abbrev Gl.cI (G : Gl) : ClassId := G.2.1.1
abbrev Gl.cZ (G : Gl) : ClassId := G.2.1.2.1
abbrev Gl.cQ (G : Gl) : ClassId := G.2.1.2.2
abbrev Gl.tS (G : Gl) : Nat := G.2.2.2.1.1
abbrev Gl.tP (G : Gl) : Nat := G.2.2.2.1.2
abbrev Gl.aK (G : Gl) : Nat → Nat := G.2.2.2.2.1
abbrev Gl.aV (G : Gl) : Nat → Nat := G.2.2.2.2.2
def flds (ad : Nat → Nat) (g : Nat → Int32) : Nat → List (Option Nat) → List Value
  | _, [] => []
  | j, none :: r => .int (g j) :: flds ad g (j + 1) r
  | j, some q :: r => .ref (ad q) :: flds ad g (j + 1) r
def cellOf (G : Gl) (g : Nat → Int32) : Sh → va_E
  | .inl (0, n) => .inl (G.cI, n, .inl g)
  | .inl (1, n) => .inl (G.cZ, n, .inl g)
  | .inl (_, n) => .inl (G.cQ, n, .inr (.inr (.inr (.inr (fun j => some (G.ad (51 + 5 * j)))))))
  | .inr (ci, fs) => .inr (ci, flds G.ad g 0 fs)
def wsOf (G : Gl) (μ : Mu) : va_W := (List.range NK).map (fun k => (G.ad k, cellOf G (μ k) (sh k)))
def Pic (G : Gl) (μ : Mu) (H : Heap) : Prop := va_P G.1 vwCl (wsOf G μ) H
def AG (G : Gl) : Nat → Prop := fun q => ∃ k, k < NK ∧ q = G.ad k
def Ap (G : Gl) : Prop := ∀ i j, i < NK → j < NK → G.ad i = G.ad j → i = j
theorem sh_lt {k : Nat} (h : sh k ≠ .inl (9, 0)) : k < NK := by
  rcases Nat.lt_or_ge k NK with h1 | h1
  · exact h1
  · exact absurd (by unfold sh; rw [List.getD_eq_getElem?_getD, List.getElem?_eq_none (by rw [shL_len]; exact h1)]; rfl) h
theorem sh_ltA {k t n : Nat} (h : sh k = .inl (t, n)) (ht : t ≠ 9) : k < NK := sh_lt (by rw [h]; intro e; cases e; exact ht rfl)
theorem sh_ltO {k ci : Nat} {L : List (Option Nat)} (h : sh k = .inr (ci, L)) : k < NK := sh_lt (by rw [h]; intro e; cases e)
theorem wsOf_at (G : Gl) (μ : Mu) {k : Nat} (h : k < NK) : (wsOf G μ)[k]? = some (G.ad k, cellOf G (μ k) (sh k)) := by
  unfold wsOf
  rw [List.getElem?_map, List.getElem?_range h]
  rfl
theorem wsOf_len (G : Gl) (μ : Mu) : (wsOf G μ).length = NK := by simp [wsOf]
theorem wsOf_set (G : Gl) (μ : Mu) {k : Nat} (h : k < NK) (f : Nat → Int32) : (wsOf G μ).set k (G.ad k, cellOf G f (sh k)) = wsOf G (u1 μ k f) := by
  apply List.ext_getElem?
  intro j
  rcases Nat.lt_or_ge j NK with hj | hj
  · rw [wsOf_at G _ hj, List.getElem?_set]
    by_cases e : k = j
    · subst e
      rw [if_pos rfl, if_pos (by rw [wsOf_len]; exact h), u1_self]
    · rw [if_neg e, wsOf_at G _ hj, u1_ne _ _ (fun q => e q.symm)]
  · rw [List.getElem?_eq_none (by rw [List.length_set, wsOf_len]; exact hj), List.getElem?_eq_none (by rw [wsOf_len]; exact hj)]
theorem wsOf_D {G : Gl} (hA : Ap G) (μ : Mu) : va_D (AG G) (wsOf G μ) := by
  refine ⟨fun i j p q hi hj e => ?_, fun k q hk => ?_⟩
  · have h1 : i < NK := by rw [← wsOf_len G μ]; exact (List.getElem?_eq_some_iff.mp hi).1
    have h2 : j < NK := by rw [← wsOf_len G μ]; exact (List.getElem?_eq_some_iff.mp hj).1
    rw [wsOf_at G μ h1] at hi
    rw [wsOf_at G μ h2] at hj
    cases hi
    cases hj
    exact hA i j h1 h2 e
  · have h1 : k < NK := by rw [← wsOf_len G μ]; exact (List.getElem?_eq_some_iff.mp hk).1
    rw [wsOf_at G μ h1] at hk
    cases hk
    exact ⟨k, h1, rfl⟩
theorem flds_len (ad : Nat → Nat) (g : Nat → Int32) : ∀ (L : List (Option Nat)) (a : Nat), (flds ad g a L).length = L.length := by
  intro L
  induction L with
  | nil => intro a; rfl
  | cons x r ih => intro a; cases x <;> simp [flds, ih]
theorem flds_int (ad : Nat → Nat) (g : Nat → Int32) : ∀ (L : List (Option Nat)) (a j : Nat), L[j]? = some none → (flds ad g a L)[j]? = some (.int (g (a + j))) := by
  intro L
  induction L with
  | nil => intro a j h; simp at h
  | cons x r ih =>
    intro a j h
    cases j with
    | zero => simp at h; subst h; rfl
    | succ j =>
      have h1 : r[j]? = some none := by simpa using h
      have := ih (a + 1) j h1
      rw [show a + 1 + j = a + (j + 1) by omega] at this
      cases x <;> simpa [flds] using this
theorem flds_ref (ad : Nat → Nat) (g : Nat → Int32) : ∀ (L : List (Option Nat)) (a j q : Nat), L[j]? = some (some q) → (flds ad g a L)[j]? = some (.ref (ad q)) := by
  intro L
  induction L with
  | nil => intro a j q h; simp at h
  | cons x r ih =>
    intro a j q h
    cases j with
    | zero => simp at h; subst h; rfl
    | succ j =>
      have h1 : r[j]? = some (some q) := by simpa using h
      have := ih (a + 1) j q h1
      cases x <;> simpa [flds] using this
theorem flds_same (ad : Nat → Nat) {g g' : Nat → Int32} : ∀ (L : List (Option Nat)) (a : Nat), (∀ j, a ≤ j → g j = g' j) → flds ad g a L = flds ad g' a L := by
  intro L
  induction L with
  | nil => intro a h; rfl
  | cons x r ih =>
    intro a h
    have := ih (a + 1) (fun j hj => h j (by omega))
    cases x <;> simp [flds, this, h a (Nat.le_refl a)]
theorem flds_set (ad : Nat → Nat) (v : Int32) : ∀ (L : List (Option Nat)) (g : Nat → Int32) (a j : Nat), L[j]? = some none → (flds ad g a L).set j (.int v) = flds ad (upd g (a + j) v) a L := by
  intro L
  induction L with
  | nil => intro g a j h; simp at h
  | cons x r ih =>
    intro g a j h
    cases j with
    | zero =>
      simp at h
      subst h
      simp only [flds, List.set_cons_zero]
      congr 1
      · simp [upd]
      · refine flds_same ad r (a + 1) (fun j hj => ?_)
        simp only [upd]
        rw [if_neg (by omega)]
    | succ j =>
      have h1 : r[j]? = some none := by simpa using h
      have := ih g (a + 1) j h1
      rw [show a + 1 + j = a + (j + 1) by omega] at this
      cases x with
      | none =>
        simp only [flds, List.set_cons_succ, this]
        congr 2
        simp only [upd]
        rw [if_neg (by omega)]
      | some q => simp only [flds, List.set_cons_succ, this]
/-! the words -/
def tg : List Cond := lw_tbl.filter goodWord
theorem tgl (ws : List Cond) (ps : List Nat) (h : ws = ps.filterMap (fun i => tables_1[i]?)) (hg : ws.all goodWord = true) : ∀ w ∈ ws, w ∈ tg := by
  intro w hw
  have h1 := List.all_eq_true.mp hg w hw
  rw [h] at hw
  obtain ⟨i, -, hi⟩ := List.mem_filterMap.mp hw
  exact List.mem_filter.mpr ⟨List.mem_append_right _ (List.mem_of_getElem? hi), h1⟩
theorem tgp (w : Cond) (i : Nat) (h : (k2_sels lw_privs)[i]? = some w) (hg : goodWord w = true) : w ∈ tg := List.mem_filter.mpr ⟨List.mem_append_left _ (List.mem_of_getElem? h), hg⟩
theorem tg_good {w : Cond} (h : w ∈ tg) : (w.onTables && w.keeps) = true ∨ ∃ ty, w = .arrayClass ty := good_of_word (List.mem_filter.mp h).2
/-- what is known of the launch at every call: classes, statics, String constants -/
def fstyle (j : Nat) : Int32 := ([0, 0, 3, 1, 1, 0, 0, 1, 0, 0] : List Int32).getD j 0
def powers (j : Nat) : Int32 := ([1, 10, 100, 1000, 10000] : List Int32).getD j 0
def sIdx : List Nat := [105, 107, 109, 111, 113, 115, 117, 119, 121, 123, 125, 127, 129, 131, 133, 135, 137, 139, 141, 143]
def sTxt : List String := ["form", "order", "names", "show", "again", "more", "initials", "letters", "run", "pages", "note", "name", "number", "cited", "year", "full", "short", "", "no", "yes"]
def sByt : List (List Int32) := [[102, 111, 114, 109], [111, 114, 100, 101, 114], [110, 97, 109, 101, 115], [115, 104, 111, 119], [97, 103, 97, 105, 110], [109, 111, 114, 101], [105, 110, 105, 116, 105, 97, 108, 115], [108, 101, 116, 116, 101, 114, 115], [114, 117, 110], [112, 97, 103, 101, 115], [110, 111, 116, 101], [110, 97, 109, 101], [110, 117, 109, 98, 101, 114], [99, 105, 116, 101, 100], [121, 101, 97, 114], [102, 117, 108, 108], [115, 104, 111, 114, 116], [], [110, 111], [121, 101, 115]]
def sLen : List Nat := [4, 5, 5, 4, 5, 4, 8, 7, 3, 5, 4, 4, 6, 5, 4, 4, 5, 0, 2, 3]
def tysG (G : Gl) : List (ClassId × FieldType) := [(G.cI, .int), (G.cZ, .boolean), (G.cQ, .object "CitedWorks$Draft")]
def nestM : Cond := .methodLinkNest "CitedWorks$Reader" 90 yX7_within "CitedWorks"
def nestF : Cond := .fieldLinkNest "CitedWorks$Reader" 29 "CitedWorks" "FIRST_STYLE" "[I" "CitedWorks"
def Kn (G : Gl) (U : State) (H : Heap) : Prop :=
  va_K G.1 vwCl (tysG G) U ∧ (va_Z "CitedWorks" "FIRST_STYLE" "[I" (.ref G.tS) (AG G) U H ∧ va_T .int G.tS 10 (fun j => .int (fstyle j)) (AG G) U H) ∧ (va_Z "CitedWorks" "POWERS" "[I" (.ref G.tP) (AG G) U H ∧ va_T .int G.tP 5 (fun j => .int (powers j)) (AG G) U H) ∧ va_Z "java/lang/String" "COMPACT_STRINGS" "Z" (.int 1) (AG G) U H ∧ va_Zq "jdk/internal/util/Preconditions" "SIOOBE_FORMATTER" "Ljava/util/function/BiFunction;" (AG G) U H ∧ vk_S 20 sLen sByt G.aK G.aV (AG G) U H ∧ (∀ j, j < 20 → vk_R "CitedWorks$Reader" (sIdx.getD j 0) (sTxt.getD j "") (G.aK j) U) ∧ va_Nw nestM U ∧ va_Nw nestF U
theorem Kn.warm {G : Gl} {s U : State} {H : Heap} (hW : s.WarmedH U.vm) (h : Kn G s H) : Kn G U H := by
  obtain ⟨h1, ⟨h2, h3⟩, ⟨h4, h5⟩, h6, h7, h8, h9, h10, h11⟩ := h
  exact ⟨va_K.moved hW.alike h1, ⟨va_Z.moved hW.alike h2, va_T.moved hW.alike h3⟩, ⟨va_Z.moved hW.alike h4, va_T.moved hW.alike h5⟩, va_Z.moved hW.alike h6, va_Zq.moved hW.alike h7, vk_S.moved hW.alike h8, fun j hj => (h9 j hj).warm hW, va_Nw.warmM hW h10, va_Nw.warmF hW h11⟩
theorem Kn.same {G : Gl} {s U : State} {H : Heap} (hv : U.vm = s.vm) (h : Kn G s H) : Kn G U H := by
  have hW : s.vm.Alike U.vm := by rw [hv]; exact Vm.Alike.refl _
  obtain ⟨h1, ⟨h2, h3⟩, ⟨h4, h5⟩, h6, h7, h8, h9, h10, h11⟩ := h
  exact ⟨va_K.moved hW h1, ⟨va_Z.moved hW h2, va_T.moved hW h3⟩, ⟨va_Z.moved hW h4, va_T.moved hW h5⟩, va_Z.moved hW h6, va_Zq.moved hW h7, vk_S.moved hW h8, fun j hj => (h9 j hj).same hv, va_Nw.same rfl hv.symm h10, va_Nw.same rfl hv.symm h11⟩
theorem Kn.kept {G : Gl} {U : State} {H H1 : Heap} (h : Kn G U H) (hq : ∀ a : Nat, a < H.size → ¬ AG G a → H1[a]? = H[a]?) : Kn G U H1 := by
  obtain ⟨h1, ⟨h2, h3⟩, ⟨h4, h5⟩, h6, h7, h8, h9, h10, h11⟩ := h
  exact ⟨h1, ⟨h2.kept hq, h3.kept hq⟩, ⟨h4.kept hq, h5.kept hq⟩, h6.kept hq, h7.kept hq, h8.kept hq, h9, h10, h11⟩
def rmk (fr lo : Nat) : Room := { frames := fr, cells := 0, slots := 0, locals := lo }
def Pst (G : Gl) (rv : Option Value) (μf : Mu) : Array Value → State → Outcome → State → Prop := fun _ st oc t => oc = .returned rv ∧ Pic G μf t.heap ∧ va_F (AG G) st t
/-- a method's contract: with these args in the state μ it answers rv and leaves μf -/
def Mth (G : Gl) (l : Launch) (y : MethodName) (bytes : ByteArray) (maxL : Nat) (ret : Option FieldType) (fr lo : Nat) (avs : List Value) (rv : Option Value) (μf μ : Mu) : Prop :=
  Met l y (.code y bytes maxL ret :: tg) (rmk fr lo) (va_Pc avs (fun U => Kn G U U.heap ∧ Pic G μ U.heap)) (Pst G rv μf) 0 0 (AG G)
/-- what holds all through a method's body -/
def Cx (G : Gl) (p : Program) (s : State) (m : MethodId) (args : Array Value) (meth : Method) (c : Code) (cc : ByteArray) (nL : Nat) (own : String) (ret : Option FieldType) : Prop :=
  p.tables.exec = Jvm.exec ∧ c.code = cc ∧ c.maxLocals = nL ∧ s.vm.findClass own = some m.cls ∧ (∀ w ∈ tg, w.before args s = true) ∧ meth.sig.returnType = ret ∧ meth.locks = false ∧ Kn G s s.heap ∧ Ap G
/-- from here (pc, locals lv, stack st, state μ) the machine comes to Q -/
def XX (G : Gl) (p : Program) (l : Launch) (e : Env) (R : Room) (s : State) (m : MethodId) (args : Array Value) (below : List Frame) (meth : Method) (c : Code) (nL : Nat) (cells slots : Nat) (Q : State → Prop) (μ : Mu) (pc : Nat) (lv : List (Nat × Value)) (st : List Value) : Prop :=
  ∀ (H : Heap) (locs : List Loc) (ls : Array Slot), Pic G μ H → va_S (AG G) s.heap H locs → lv_has ls nL lv → W p l e R s m args below meth c H locs cells slots Q (F0 m pc ls st)
/-- the same in a method's body: it ends with rv and μf -/
abbrev X (G : Gl) (p : Program) (l : Launch) (e : Env) (fr lo : Nat) (s : State) (m : MethodId) (args : Array Value) (below : List Frame) (meth : Method) (c : Code) (nL : Nat) (rv : Option Value) (μf μ : Mu) (pc : Nat) (lv : List (Nat × Value)) (st : List Value) : Prop :=
  XX G p l e (rmk fr lo) s m args below meth c nL 0 0 (MQ below (Pst G rv μf) args s 0 0 (AG G)) μ pc lv st
theorem Mth.of {G : Gl} {l : Launch} {y : MethodName} {bytes : ByteArray} {maxL : Nat} {ret : Option FieldType} {fr lo : Nat} {avs : List Value} {rv : Option Value} {μf μ : Mu} {lv : List (Nat × Value)} (hA : Ap G) (hy : plainName y.cls = true) (hlv : lv_args 0 avs = lv) (hlen : (lg_sl avs).length ≤ maxL)
    (body : ∀ (p : Program) (e : Env) (s : State) (m : MethodId) (args : Array Value) (below : List Frame) (meth : Method) (c : Code), Cx G p s m args meth c bytes maxL y.cls ret → X G p l e fr lo s m args below meth c maxL rv μf μ 0 lv []) : Mth G l y bytes maxL ret fr lo avs rv μf μ := by
  refine Met.ofW (cc := bytes) (maxL := maxL) (ret := ret) hy rfl ?_
  intro p e s m args below meth c s₁ B hml hv
  obtain ⟨rfl, hK, hP⟩ := hv
  have hts := atoms_spec (ws := .code y bytes maxL ret :: tg) B.pre
  have hown : s.vm.findClass y.cls = some m.cls := findClass_of_methodNamed B.named
  have hl := lv_entry avs (n := maxL) hlen
  rw [lg_entry_eq]
  rw [hlv] at hl
  exact body p e s m _ below meth c ⟨B.exec, B.bytes, hml, hown, fun w hw => hts w (List.mem_cons_of_mem _ hw), B.returns, B.notSynchronized, hK, hA⟩ s.heap [] _ hP va_S.rf hl
/-- a class among vwCl: its field words are there, types and names as they are -/
def FC (ci : Nat) (Cn : String) (T : u_T) (N : Nat) (ty : Nat → FieldType) : Prop := vwCl[ci]? = some (Cn, T, N) ∧ (∀ w ∈ u_ws Cn T N, w ∈ tg) ∧ (∀ k, k < N → parseFieldDescriptor (T k).2.2.1 = some (ty k)) ∧ (∀ a, a < N → ∀ b, b < N → a ≠ b → (T a).2.1 ≠ (T b).2.1)
/-- the words of a call -/
def CwV (own : String) (idx : Nat) (y : MethodName) (bytes : ByteArray) (maxL : Nat) (rt : Option FieldType) (n : Nat) : Prop := (∀ w ∈ ([.methodLink own idx y, .instanceMethod y, .initialized y.cls, .code y bytes maxL rt] : List Cond), w ∈ tg) ∧ Cond.selects y.cls y y ∈ tg ∧ (y.cls ≠ "java/lang/invoke/MethodHandle" ∧ y.cls ≠ "java/lang/invoke/VarHandle" ∧ (parseMethodDescriptor y.desc).map (fun d => d.parameters.length) = some n)
def CwS (own : String) (idx : Nat) (y : MethodName) (bytes : ByteArray) (maxL : Nat) (rt : Option FieldType) (n : Nat) : Prop := (∀ w ∈ ([.methodLink own idx y, .static y, .initialized y.cls, .code y bytes maxL rt] : List Cond), w ∈ tg) ∧ (y.cls ≠ "java/lang/invoke/MethodHandle" ∧ y.cls ≠ "java/lang/invoke/VarHandle" ∧ (parseMethodDescriptor y.desc).map (fun d => d.parameters.length) = some n)
