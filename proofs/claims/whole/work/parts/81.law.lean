/-! THE CLAIM OUT OF ONE WALK OF THE LAW'S BODY. Your part is whole_start (and what it stands on); all else here is the same for every law, but numbers. -/
def R_law : String := "CitedWorksLaw"
def lw_P (b : Addr) (xs : List Int32) (args : Array Value) (s : State) : Prop := args = #[.ref b] ∧ s.IntsAt b xs ∧ xs.length ≤ 3072 ∧ (Jvm.Cond.and given_1 narrow_1).before args s = true
def lw_Q (_ : Array Value) (s : State) (o : Outcome) (t : State) : Prop := o = .returned (some (.int 1)) ∧ Framed s o t [] 600000 7302250
def lw_Z (below : List Frame) (a : Array Value) (s : State) : State → Prop := fun t => ∃ o, t.status = .running ∧ Ended t below o ∧ lw_Q a s o t
/-- the law's own end, with 1 on the stack, nothing written that was there before, its room as the claim has it -/
theorem lw_ret {p : Program} {l : Launch} {e : Env} {s : State} {m : MethodId} {below : List Frame} {meth : Method} {c : Code} {b : Nat} (hx : p.tables.exec = Jvm.exec) (hb : c.code = code) (hr : meth.sig.returnType = ret) (hlocks : meth.locks = false) {pc : Nat} {H : Heap} {ls : Array Slot} (hdg : decode code pc = .ok (.ireturn, 1)) : W p l e room_1 s m #[Value.ref b] below meth c H [] 600000 7302250 (lw_Z below #[Value.ref b] s) (F0 m pc ls [.int 1]) := by
  intro T hT X
  obtain ⟨fs, hret, hrun, hended, hW, hframe⟩ := X.leave (v := some (.int 1)) (hlocks := hlocks) (fun h => by rw [hr] at h; cases h)
  have hmeth' : T.vm.method? m = some meth := X.method'
  refine ⟨T.setFrames fs, ?_, .returned (some (.int 1)), hrun, hended, rfl, ⟨_, rfl⟩, hW, hframe⟩
  jvm_step X.here [X.here.top, hx, hb, hdg, hmeth', hr, ret, narrow_b1]
  (try refine ⟨rfl, ?_⟩); (try refine ⟨rfl, ?_⟩)
  first | (intro acts; rw [hret _ acts rfl rfl rfl]) | rw [hret _ _ rfl rfl rfl]
  exact Steps.refl _
/-- what holds at the law's entry: the machine, the code, the tables' words (any of lw_tbl by 'hts w (by decide +kernel)'), the script of L ints xs at the cell b, what the Statement gives of the start (any of its parts by flat_of_before) -/
def lw_At (p : Program) (s : State) (m : MethodId) (meth : Method) (c : Code) (b L : Nat) (xs : Nat → Int32) : Prop :=
  p.tables.exec = Jvm.exec ∧ c.code = code ∧ meth.sig.returnType = ret ∧ c.maxLocals = 4 ∧ s.vm.findClass R_law = some m.cls ∧ (∀ w ∈ lw_tbl, w.before #[Value.ref b] s = true) ∧ va_X b L xs s s.heap ∧ b < s.heap.size ∧ meth.locks = false ∧ (Jvm.Cond.and given_1 narrow_1).before #[Value.ref b] s = true

/-- the script stands at b, ahead of all that is made here -/
def LX (b L : Nat) (xs : Nat → Int32) (G : Gl) (s : State) : Prop := va_X b L xs s s.heap ∧ b < s.heap.size ∧ ∀ q, AG G q → s.heap.size ≤ q
section RowsL
variable {G : Gl} {p : Program} {l : Launch} {e : Env} {R : Room} {cells slots : Nat} {Q : State → Prop} {s : State} {m : MethodId} {args : Array Value} {below : List Frame} {meth : Method} {c : Code} {nL : Nat} {μ : Mu} {pc : Nat} {lv : List (Nat × Value)} {rest : List Value} {cc : ByteArray} {own : String} {rt0 : Option FieldType} {b L : Nat} {xs : Nat → Int32}
theorem LX.out (h : LX b L xs G s) : ¬ AG G b := fun q => absurd (h.2.2 b q) (Nat.not_le.mpr h.2.1)
theorem x_scr (C : Cx G p s m args meth c cc nL own rt0) (hX : LX b L xs G s) {i : Int32} (hi : inb i L = true) (hd : decode cc pc = .ok (.iaload, 1)) (kk : XX G p l e R s m args below meth c nL cells slots Q μ (pc + 1) lv (.int (xs (ix i)) :: rest)) : XX G p l e R s m args below meth c nL cells slots Q μ pc lv (.int i :: .ref b :: rest) := fun H locs ls hP hS hl => va_sld C.1 C.2.1 hX.1 hX.2.1 hX.out hS (inb_in hi) hd (kk H locs ls hP hS hl)
theorem x_scl (C : Cx G p s m args meth c cc nL own rt0) (hX : LX b L xs G s) (hd : decode cc pc = .ok (.arraylength, 1)) (kk : XX G p l e R s m args below meth c nL cells slots Q μ (pc + 1) lv (.int (Int32.ofNat L) :: rest)) : XX G p l e R s m args below meth c nL cells slots Q μ pc lv (.ref b :: rest) := fun H locs ls hP hS hl => va_slen C.1 C.2.1 hX.1 hX.2.1 hX.out hS hd (kk H locs ls hP hS hl)
theorem x_lret {v : Int32} (C : Cx G p s m #[Value.ref b] meth c cL_law nL own ret) (hX : LX b L xs G s) (hd : decode cL_law pc = .ok (.ireturn, 1)) (hv : v = 1) : XX G p l e room_1 s m #[Value.ref b] below meth c nL 600000 7302250 (lw_Z below #[Value.ref b] s) μ pc lv [.int v] := by
  subst hv
  intro H locs ls hP hS hl
  exact va_forget (fun q hq => hX.2.2 _ (hS.2.2 q hq)) (lw_ret C.1 C.2.1 C.2.2.2.2.2.1 C.2.2.2.2.2.2.1 hd)
theorem x_cLi (C : Cx G p s m args meth c cc nL own rt0) {y : MethodName} {bytes : ByteArray} {maxL : Nat} {rt : Option FieldType} {fr1 lo1 : Nat} {r1 : Int32} {μ1 : Mu} {As st : List Value} {k ci idx n : Nat} {L : List (Option Nat)} {q : vw_C} (hM : Mth G l y bytes maxL rt fr1 lo1 (.ref (G.ad k) :: As) (some (.int r1)) μ1 μ) (hw : CwV own idx y bytes maxL rt n) (hsh : sh k = .inr (ci, L)) (hq : vwCl[ci]? = some q) (hqy : q.1 = y.cls) (hR : fr1 + 1 ≤ room_1.frames ∧ 8 + (maxL + 11) + lo1 ≤ room_1.locals) (hn : As.length = n) (hst : st = As.reverse ++ .ref (G.ad k) :: rest) (hro : (rest.map fun v => v.category).sum ≤ 8) (hd : decode cc pc = .ok (.invokevirtual idx, 3)) (kk : XX G p l e room_1 s m args below meth c nL 600000 7302250 Q μ1 (pc + 3) lv (.int r1 :: rest)) : XX G p l e room_1 s m args below meth c nL 600000 7302250 Q μ pc lv st := x_callV C hM hw hsh hq hqy ⟨Nat.le_refl _, Nat.le_refl _⟩ hR hn hst hro hd kk
end RowsL
def f_law_b1044 (k18 : Int32 → Mu → Option (Int32 × Mu)) (xs : Nat → Int32) (L : Nat) (x3 : Int32) (μ : Mu) : Option (Int32 × Mu) := k18 (x3 + 6) μ
def f_law_b896 (k18 : Int32 → Mu → Option (Int32 × Mu)) (xs : Nat → Int32) (L : Nat) (x3 : Int32) (μ : Mu) : Option (Int32 × Mu) := if inb (x3 + 1) L = true then ((f_X7_keep (xs (ix (x3 + 1))) μ).bind (fun q2 => (f_X8_keep (xs (ix (x3 + 1))) q2.2).bind (fun q3 => if q2.1 = q3.1 then (f_law_b1044 k18 xs L x3 q3.2) else (some (0, q3.2))))) else none
def f_law_b652 (k18 : Int32 → Mu → Option (Int32 × Mu)) (xs : Nat → Int32) (L : Nat) (x3 : Int32) (μ : Mu) : Option (Int32 × Mu) := if inb (x3 + 1) L = true then (if inb (x3 + 2) L = true then ((f_X7_told (xs (ix (x3 + 1))) (xs (ix (x3 + 2))) μ).bind (fun q3 => (f_X8_told (xs (ix (x3 + 1))) (xs (ix (x3 + 2))) q3.2).bind (fun q4 => if q3.1 = q4.1 then (f_law_b1044 k18 xs L x3 q4.2) else (some (0, q4.2))))) else none) else none
def f_law_b784 (k18 : Int32 → Mu → Option (Int32 × Mu)) (xs : Nat → Int32) (L : Nat) (x3 : Int32) (μ : Mu) : Option (Int32 × Mu) := if inb (x3 + 1) L = true then (if inb (x3 + 2) L = true then (if inb (x3 + 3) L = true then ((f_X7_feed (xs (ix (x3 + 1))) ((((xs (ix (x3 + 2)) : Int32).toInt64) <<< ((32 : Int32).toInt64 &&& 63)) ||| (((xs (ix (x3 + 3)) : Int32).toInt64) &&& 4294967295)) μ).bind (fun q4 => (f_X8_feed (xs (ix (x3 + 1))) ((((xs (ix (x3 + 2)) : Int32).toInt64) <<< ((32 : Int32).toInt64 &&& 63)) ||| (((xs (ix (x3 + 3)) : Int32).toInt64) &&& 4294967295)) q4.2).bind (fun q5 => if q4.1 = q5.1 then (f_law_b1044 k18 xs L x3 q5.2) else (some (0, q5.2))))) else none) else none) else none
def f_law_b530 (k18 : Int32 → Mu → Option (Int32 × Mu)) (xs : Nat → Int32) (L : Nat) (x3 : Int32) (μ : Mu) : Option (Int32 × Mu) := if inb (x3 + 1) L = true then ((f_X7_cut (xs (ix (x3 + 1))) μ).bind (fun q2 => (f_X8_cut (xs (ix (x3 + 1))) q2.2).bind (fun q3 => if q2.1 = q3.1 then (f_law_b1044 k18 xs L x3 q3.2) else (some (0, q3.2))))) else none
def f_law_b276 (k18 : Int32 → Mu → Option (Int32 × Mu)) (xs : Nat → Int32) (L : Nat) (x3 : Int32) (μ : Mu) : Option (Int32 × Mu) := if inb (x3 + 1) L = true then (if inb (x3 + 2) L = true then (if inb (x3 + 3) L = true then ((f_X7_pages (xs (ix (x3 + 1))) (xs (ix (x3 + 2))) (xs (ix (x3 + 3))) μ).bind (fun q4 => (f_X8_pages (xs (ix (x3 + 1))) (xs (ix (x3 + 2))) (xs (ix (x3 + 3))) q4.2).bind (fun q5 => if q4.1 = q5.1 then (f_law_b1044 k18 xs L x3 q5.2) else (some (0, q5.2))))) else none) else none) else none
def f_law_b919 (k18 : Int32 → Mu → Option (Int32 × Mu)) (xs : Nat → Int32) (L : Nat) (x3 : Int32) (μ : Mu) : Option (Int32 × Mu) := if inb (x3 + 1) L = true then ((f_X7_back (xs (ix (x3 + 1))) μ).bind (fun q2 => (f_X8_back (xs (ix (x3 + 1))) q2.2).bind (fun q3 => if q2.1 = q3.1 then (f_law_b1044 k18 xs L x3 q3.2) else (some (0, q3.2))))) else none
def f_law_b408 (k18 : Int32 → Mu → Option (Int32 × Mu)) (xs : Nat → Int32) (L : Nat) (x3 : Int32) (μ : Mu) : Option (Int32 × Mu) := if inb (x3 + 1) L = true then (if inb (x3 + 2) L = true then (if inb (x3 + 3) L = true then ((f_X7_name (xs (ix (x3 + 1))) (xs (ix (x3 + 2))) (xs (ix (x3 + 3))) μ).bind (fun q4 => (f_X8_name_ (xs (ix (x3 + 1))) (xs (ix (x3 + 2))) (xs (ix (x3 + 3))) μ).bind (fun q5 => if q4 = q5 then (f_law_b1044 k18 xs L x3 μ) else (some (0, μ))))) else none) else none) else none
def f_law_b160 (k18 : Int32 → Mu → Option (Int32 × Mu)) (xs : Nat → Int32) (L : Nat) (x3 : Int32) (μ : Mu) : Option (Int32 × Mu) := if inb (x3 + 1) L = true then (if inb (x3 + 2) L = true then (if inb (x3 + 3) L = true then (if inb (x3 + 4) L = true then (if inb (x3 + 5) L = true then ((f_X7_work (xs (ix (x3 + 1))) (xs (ix (x3 + 2))) (xs (ix (x3 + 3))) (xs (ix (x3 + 4))) (xs (ix (x3 + 5))) μ).bind (fun q6 => (f_X8_work (xs (ix (x3 + 1))) (xs (ix (x3 + 2))) (xs (ix (x3 + 3))) (xs (ix (x3 + 4))) (xs (ix (x3 + 5))) q6.2).bind (fun q7 => if q6.1 = q7.1 then (f_law_b1044 k18 xs L x3 q7.2) else (some (0, q7.2))))) else none) else none) else none) else none) else none
def f_law_b553 (k18 : Int32 → Mu → Option (Int32 × Mu)) (xs : Nat → Int32) (L : Nat) (x3 : Int32) (μ : Mu) : Option (Int32 × Mu) := if inb (x3 + 1) L = true then (if inb (x3 + 2) L = true then ((f_X7_move (xs (ix (x3 + 1))) (xs (ix (x3 + 2))) μ).bind (fun q3 => (f_X8_move (xs (ix (x3 + 1))) (xs (ix (x3 + 2))) q3.2).bind (fun q4 => if q3.1 = q4.1 then (f_law_b1044 k18 xs L x3 q4.2) else (some (0, q4.2))))) else none) else none
def f_law_b685 (k18 : Int32 → Mu → Option (Int32 × Mu)) (xs : Nat → Int32) (L : Nat) (x3 : Int32) (μ : Mu) : Option (Int32 × Mu) := if inb (x3 + 1) L = true then (if inb (x3 + 2) L = true then ((f_X7_at (xs (ix (x3 + 1))) (xs (ix (x3 + 2))) μ).bind (fun q3 => (f_X8_at (xs (ix (x3 + 1))) (xs (ix (x3 + 2))) μ).bind (fun q4 => if q3 = q4.1 then (f_law_b1044 k18 xs L x3 q4.2) else (some (0, q4.2))))) else none) else none
def f_law_b942 (k18 : Int32 → Mu → Option (Int32 × Mu)) (xs : Nat → Int32) (L : Nat) (x3 : Int32) (μ : Mu) : Option (Int32 × Mu) := if inb (x3 + 1) L = true then (if inb (x3 + 2) L = true then ((f_X7_beside (xs (ix (x3 + 1))) (xs (ix (x3 + 2))) μ).bind (fun q3 => (f_X8_beside (xs (ix (x3 + 1))) (xs (ix (x3 + 2))) q3.2).bind (fun q4 => if q3.1 = q4.1 then (f_law_b1044 k18 xs L x3 q4.2) else (some (0, q4.2))))) else none) else none
def f_law_b319 (k18 : Int32 → Mu → Option (Int32 × Mu)) (xs : Nat → Int32) (L : Nat) (x3 : Int32) (μ : Mu) : Option (Int32 × Mu) := if inb (x3 + 1) L = true then (if inb (x3 + 2) L = true then ((f_X7_join (xs (ix (x3 + 1))) (xs (ix (x3 + 2))) μ).bind (fun q3 => (f_X8_join (xs (ix (x3 + 1))) (xs (ix (x3 + 2))) q3.2).bind (fun q4 => if q3.1 = q4.1 then (f_law_b1044 k18 xs L x3 q4.2) else (some (0, q4.2))))) else none) else none
def f_law_b451 (k18 : Int32 → Mu → Option (Int32 × Mu)) (xs : Nat → Int32) (L : Nat) (x3 : Int32) (μ : Mu) : Option (Int32 × Mu) := if inb (x3 + 1) L = true then (if inb (x3 + 2) L = true then ((f_X7_page (xs (ix (x3 + 1))) (xs (ix (x3 + 2))) μ).bind (fun q3 => (f_X8_page (xs (ix (x3 + 1))) (xs (ix (x3 + 2))) μ).bind (fun q4 => if q3 = q4 then (f_law_b1044 k18 xs L x3 μ) else (some (0, μ))))) else none) else none
def f_law_b586 (k18 : Int32 → Mu → Option (Int32 × Mu)) (xs : Nat → Int32) (L : Nat) (x3 : Int32) (μ : Mu) : Option (Int32 × Mu) := if inb (x3 + 1) L = true then (if inb (x3 + 2) L = true then (if inb (x3 + 3) L = true then ((f_X7_call (xs (ix (x3 + 1))) (xs (ix (x3 + 2))) (xs (ix (x3 + 3))) μ).bind (fun q4 => (f_X8_call (xs (ix (x3 + 1))) (xs (ix (x3 + 2))) (xs (ix (x3 + 3))) q4.2).bind (fun q5 => if q4.1 = q5.1 then (f_law_b1044 k18 xs L x3 q5.2) else (some (0, q5.2))))) else none) else none) else none
def f_law_b718 (k18 : Int32 → Mu → Option (Int32 × Mu)) (xs : Nat → Int32) (L : Nat) (x3 : Int32) (μ : Mu) : Option (Int32 × Mu) := if inb (x3 + 1) L = true then (if inb (x3 + 2) L = true then (if inb (x3 + 3) L = true then ((f_X7_piece (xs (ix (x3 + 1))) (xs (ix (x3 + 2))) (xs (ix (x3 + 3))) μ).bind (fun q4 => (f_X8_piece (xs (ix (x3 + 1))) (xs (ix (x3 + 2))) (xs (ix (x3 + 3))) q4.2).bind (fun q5 => if q4.1 = q5.1 then (f_law_b1044 k18 xs L x3 q5.2) else (some (0, q5.2))))) else none) else none) else none
def f_law_b975 (k18 : Int32 → Mu → Option (Int32 × Mu)) (xs : Nat → Int32) (L : Nat) (x3 : Int32) (μ : Mu) : Option (Int32 × Mu) := if inb (x3 + 1) L = true then (if inb (x3 + 2) L = true then ((f_X7_together (xs (ix (x3 + 1))) (xs (ix (x3 + 2))) μ).bind (fun q3 => (f_X8_together (xs (ix (x3 + 1))) (xs (ix (x3 + 2))) q3.2).bind (fun q4 => if q3.1 = q4.1 then (f_law_b1044 k18 xs L x3 q4.2) else (some (0, q4.2))))) else none) else none
def f_law_b847 (k18 : Int32 → Mu → Option (Int32 × Mu)) (xs : Nat → Int32) (L : Nat) (x3 : Int32) (μ : Mu) : Option (Int32 × Mu) := (f_X7_read μ).bind (fun q1 => (f_X8_read q1.2).bind (fun q2 => if q1.1 = q2.1 then (f_law_b1044 k18 xs L x3 q2.2) else (some (0, q2.2))))
def f_law_b860 (k18 : Int32 → Mu → Option (Int32 × Mu)) (xs : Nat → Int32) (L : Nat) (x3 : Int32) (μ : Mu) : Option (Int32 × Mu) := if (f_X7_fault μ) = (f_X8_fault μ) then (f_law_b1044 k18 xs L x3 μ) else (some (0, μ))
def f_law_b223 (k18 : Int32 → Mu → Option (Int32 × Mu)) (xs : Nat → Int32) (L : Nat) (x3 : Int32) (μ : Mu) : Option (Int32 × Mu) := if inb (x3 + 1) L = true then (if inb (x3 + 2) L = true then (if inb (x3 + 3) L = true then (if inb (x3 + 4) L = true then ((f_X7_author (xs (ix (x3 + 1))) (xs (ix (x3 + 2))) (xs (ix (x3 + 3))) (xs (ix (x3 + 4))) μ).bind (fun q5 => (f_X8_author (xs (ix (x3 + 1))) (xs (ix (x3 + 2))) (xs (ix (x3 + 3))) (xs (ix (x3 + 4))) q5.2).bind (fun q6 => if q5.1 = q6.1 then (f_law_b1044 k18 xs L x3 q6.2) else (some (0, q6.2))))) else none) else none) else none) else none
def f_law_b352 (k18 : Int32 → Mu → Option (Int32 × Mu)) (xs : Nat → Int32) (L : Nat) (x3 : Int32) (μ : Mu) : Option (Int32 × Mu) := if inb (x3 + 1) L = true then ((f_X7_part (xs (ix (x3 + 1))) μ).bind (fun q2 => (f_X8_part (xs (ix (x3 + 1))) q2.2).bind (fun q3 => if q2.1 = q3.1 then (f_law_b1044 k18 xs L x3 q3.2) else (some (0, q3.2))))) else none
def f_law_b484 (k18 : Int32 → Mu → Option (Int32 × Mu)) (xs : Nat → Int32) (L : Nat) (x3 : Int32) (μ : Mu) : Option (Int32 × Mu) := if inb (x3 + 1) L = true then ((f_X7_list (xs (ix (x3 + 1))) μ).bind (fun q2 => (f_X8_list (xs (ix (x3 + 1))) q2.2).bind (fun q3 => if q2.1 = q3.1 then (f_law_b1044 k18 xs L x3 q3.2) else (some (0, q3.2))))) else none
def f_law_b873 (k18 : Int32 → Mu → Option (Int32 × Mu)) (xs : Nat → Int32) (L : Nat) (x3 : Int32) (μ : Mu) : Option (Int32 × Mu) := if inb (x3 + 1) L = true then ((f_X7_style (xs (ix (x3 + 1))) μ).bind (fun q2 => (f_X8_style (xs (ix (x3 + 1))) μ).bind (fun q3 => if q2 = q3 then (f_law_b1044 k18 xs L x3 μ) else (some (0, μ))))) else none
def f_law_b1008 (k18 : Int32 → Mu → Option (Int32 × Mu)) (xs : Nat → Int32) (L : Nat) (x3 : Int32) (μ : Mu) : Option (Int32 × Mu) := (f_X7_rank μ).bind (fun q1 => (f_X8_rank q1.2).bind (fun q2 => if q1.1 = q2.1 then (f_law_b1044 k18 xs L x3 q2.2) else (some (0, q2.2))))
def f_law_b629 (k18 : Int32 → Mu → Option (Int32 × Mu)) (xs : Nat → Int32) (L : Nat) (x3 : Int32) (μ : Mu) : Option (Int32 × Mu) := if inb (x3 + 1) L = true then ((f_X7_drop (xs (ix (x3 + 1))) μ).bind (fun q2 => (f_X8_drop (xs (ix (x3 + 1))) q2.2).bind (fun q3 => if q2.1 = q3.1 then (f_law_b1044 k18 xs L x3 q3.2) else (some (0, q3.2))))) else none
def f_law_b375 (k18 : Int32 → Mu → Option (Int32 × Mu)) (xs : Nat → Int32) (L : Nat) (x3 : Int32) (μ : Mu) : Option (Int32 × Mu) := if inb (x3 + 1) L = true then (if inb (x3 + 2) L = true then ((f_X7_about (xs (ix (x3 + 1))) (xs (ix (x3 + 2))) μ).bind (fun q3 => (f_X8_about (xs (ix (x3 + 1))) (xs (ix (x3 + 2))) q3.2).bind (fun q4 => if q3.1 = q4.1 then (f_law_b1044 k18 xs L x3 q4.2) else (some (0, q4.2))))) else none) else none
def f_law_b761 (k18 : Int32 → Mu → Option (Int32 × Mu)) (xs : Nat → Int32) (L : Nat) (x3 : Int32) (μ : Mu) : Option (Int32 × Mu) := if inb (x3 + 1) L = true then ((f_X7_count (xs (ix (x3 + 1))) μ).bind (fun q2 => (f_X8_count (xs (ix (x3 + 1))) q2.2).bind (fun q3 => if q2.1 = q3.1 then (f_law_b1044 k18 xs L x3 q3.2) else (some (0, q3.2))))) else none
def f_law_b507 (k18 : Int32 → Mu → Option (Int32 × Mu)) (xs : Nat → Int32) (L : Nat) (x3 : Int32) (μ : Mu) : Option (Int32 × Mu) := if inb (x3 + 1) L = true then ((f_X7_note (xs (ix (x3 + 1))) μ).bind (fun q2 => (f_X8_note (xs (ix (x3 + 1))) q2.2).bind (fun q3 => if q2.1 = q3.1 then (f_law_b1044 k18 xs L x3 q3.2) else (some (0, q3.2))))) else none
def f_law_b1021 (k18 : Int32 → Mu → Option (Int32 × Mu)) (xs : Nat → Int32) (L : Nat) (x3 : Int32) (μ : Mu) : Option (Int32 × Mu) := if inb (x3 + 1) L = true then ((f_X7_least (xs (ix (x3 + 1))) μ).bind (fun q2 => (f_X8_least (xs (ix (x3 + 1))) q2.2).bind (fun q3 => if q2.1 = q3.1 then (f_law_b1044 k18 xs L x3 q3.2) else (some (0, q3.2))))) else none
def f_law_L18 (xs : Nat → Int32) (L : Nat) : Nat → Int32 → Mu → Option (Int32 × Mu)
  | 0, _, _ => none
  | n + 1, x3, μ => if ((Int32.ofNat L) - 6) < x3 then (some (1, μ)) else (if inb x3 L = true then (if ((xs (ix x3)) &&& 31) = 0 then (f_law_b160 (f_law_L18 xs L n) xs L x3 μ) else if ((xs (ix x3)) &&& 31) = 1 then (f_law_b223 (f_law_L18 xs L n) xs L x3 μ) else if ((xs (ix x3)) &&& 31) = 2 then (f_law_b276 (f_law_L18 xs L n) xs L x3 μ) else if ((xs (ix x3)) &&& 31) = 3 then (f_law_b319 (f_law_L18 xs L n) xs L x3 μ) else if ((xs (ix x3)) &&& 31) = 4 then (f_law_b352 (f_law_L18 xs L n) xs L x3 μ) else if ((xs (ix x3)) &&& 31) = 5 then (f_law_b375 (f_law_L18 xs L n) xs L x3 μ) else if ((xs (ix x3)) &&& 31) = 6 then (f_law_b408 (f_law_L18 xs L n) xs L x3 μ) else if ((xs (ix x3)) &&& 31) = 7 then (f_law_b451 (f_law_L18 xs L n) xs L x3 μ) else if ((xs (ix x3)) &&& 31) = 8 then (f_law_b484 (f_law_L18 xs L n) xs L x3 μ) else if ((xs (ix x3)) &&& 31) = 9 then (f_law_b507 (f_law_L18 xs L n) xs L x3 μ) else if ((xs (ix x3)) &&& 31) = 10 then (f_law_b530 (f_law_L18 xs L n) xs L x3 μ) else if ((xs (ix x3)) &&& 31) = 11 then (f_law_b553 (f_law_L18 xs L n) xs L x3 μ) else if ((xs (ix x3)) &&& 31) = 12 then (f_law_b586 (f_law_L18 xs L n) xs L x3 μ) else if ((xs (ix x3)) &&& 31) = 13 then (f_law_b629 (f_law_L18 xs L n) xs L x3 μ) else if ((xs (ix x3)) &&& 31) = 14 then (f_law_b652 (f_law_L18 xs L n) xs L x3 μ) else if ((xs (ix x3)) &&& 31) = 15 then (f_law_b685 (f_law_L18 xs L n) xs L x3 μ) else if ((xs (ix x3)) &&& 31) = 16 then (f_law_b718 (f_law_L18 xs L n) xs L x3 μ) else if ((xs (ix x3)) &&& 31) = 17 then (f_law_b761 (f_law_L18 xs L n) xs L x3 μ) else if ((xs (ix x3)) &&& 31) = 18 then (f_law_b784 (f_law_L18 xs L n) xs L x3 μ) else if ((xs (ix x3)) &&& 31) = 19 then (f_law_b847 (f_law_L18 xs L n) xs L x3 μ) else if ((xs (ix x3)) &&& 31) = 20 then (f_law_b860 (f_law_L18 xs L n) xs L x3 μ) else if ((xs (ix x3)) &&& 31) = 21 then (f_law_b873 (f_law_L18 xs L n) xs L x3 μ) else if ((xs (ix x3)) &&& 31) = 22 then (f_law_b896 (f_law_L18 xs L n) xs L x3 μ) else if ((xs (ix x3)) &&& 31) = 23 then (f_law_b919 (f_law_L18 xs L n) xs L x3 μ) else if ((xs (ix x3)) &&& 31) = 24 then (f_law_b942 (f_law_L18 xs L n) xs L x3 μ) else if ((xs (ix x3)) &&& 31) = 25 then (f_law_b975 (f_law_L18 xs L n) xs L x3 μ) else if ((xs (ix x3)) &&& 31) = 26 then (f_law_b1008 (f_law_L18 xs L n) xs L x3 μ) else if ((xs (ix x3)) &&& 31) = 27 then (f_law_b1021 (f_law_L18 xs L n) xs L x3 μ) else (f_law_b1044 (f_law_L18 xs L n) xs L x3 μ)) else none)
set_option maxHeartbeats 4000000 in
theorem w_law_b1044 {G : Gl} {p : Program} {l : Launch} {e : Env} {s0 : State} {m : MethodId} {b : Nat} {below : List Frame} {meth : Method} {c : Code} {L : Nat} {xs : Nat → Int32} (C : Cx G p s0 m #[Value.ref b] meth c cL_law 4 RL ret) (hX : LX b L xs G s0) {μf : Mu}  {k18 : Int32 → Mu → Option (Int32 × Mu)} (hk18 : ∀ (x3 : Int32) (μ : Mu), k18 x3 μ = some (1, μf) → XX G p l e room_1 s0 m #[Value.ref b] below meth c 4 600000 7302250 (lw_Z below #[Value.ref b] s0) μ 18 [(0, .ref b), (1, .ref (G.ad 0)), (2, .ref (G.ad 82)), (3, .int x3)] []) (x3 : Int32) (μ : Mu) (hF : f_law_b1044 k18 xs L x3 μ = some (1, μf)) : XX G p l e room_1 s0 m #[Value.ref b] below meth c 4 600000 7302250 (lw_Z below #[Value.ref b] s0) μ 1044 [(0, .ref b), (1, .ref (G.ad 0)), (2, .ref (G.ad 82)), (3, .int x3)] [] := by
  unfold f_law_b1044 at hF
  refine x_iinc C [(3, .int (x3 + 6)), (0, .ref b), (1, .ref (G.ad 0)), (2, .ref (G.ad 82))] 3 dL_law_1044 rfl rfl (by decide) rfl ?_
  refine x_goto (tgt := 18) C dL_law_1047 (by decide) ?_
  exact x_pick [(0, .ref b), (1, .ref (G.ad 0)), (2, .ref (G.ad 82)), (3, .int (x3 + 6))] [1, 2, 3, 0] rfl (hk18 (x3 + 6) μ hF)
set_option maxHeartbeats 4000000 in
theorem w_law_b896 {G : Gl} {p : Program} {l : Launch} {e : Env} {s0 : State} {m : MethodId} {b : Nat} {below : List Frame} {meth : Method} {c : Code} {L : Nat} {xs : Nat → Int32} (C : Cx G p s0 m #[Value.ref b] meth c cL_law 4 RL ret) (hX : LX b L xs G s0) {μf : Mu}  {k18 : Int32 → Mu → Option (Int32 × Mu)} (hk18 : ∀ (x3 : Int32) (μ : Mu), k18 x3 μ = some (1, μf) → XX G p l e room_1 s0 m #[Value.ref b] below meth c 4 600000 7302250 (lw_Z below #[Value.ref b] s0) μ 18 [(0, .ref b), (1, .ref (G.ad 0)), (2, .ref (G.ad 82)), (3, .int x3)] []) (x3 : Int32) (μ : Mu) (hF : f_law_b896 k18 xs L x3 μ = some (1, μf)) : XX G p l e room_1 s0 m #[Value.ref b] below meth c 4 600000 7302250 (lw_Z below #[Value.ref b] s0) μ 896 [(0, .ref b), (1, .ref (G.ad 0)), (2, .ref (G.ad 82)), (3, .int x3)] [] := by
  unfold f_law_b896 at hF
  refine x_aload_n C 1 dL_law_896 rfl rfl ?_
  refine x_aload_n C 0 dL_law_897 rfl rfl ?_
  refine x_iload_n C 3 dL_law_898 rfl rfl ?_
  refine x_iconst (v := 1) C dL_law_899 (by decide) ?_
  refine x_iadd C dL_law_900 ?_
  obtain ⟨hi1, hF⟩ := f_chk hF
  refine x_scr C hX hi1 dL_law_901 ?_
  obtain ⟨q2, hq2, hF⟩ := f_bind hF
  refine x_cLi (rest := []) C (c_X7_keep l C.2.2.2.2.2.2.2.2 (xs (ix (x3 + 1))) μ hq2) cw_L_110 sh_0 rfl rfl ⟨by decide, by decide⟩ rfl rfl (Nat.le_of_ble_eq_true rfl) dL_law_902 ?_
  refine x_aload_n C 2 dL_law_905 rfl rfl ?_
  refine x_aload_n C 0 dL_law_906 rfl rfl ?_
  refine x_iload_n C 3 dL_law_907 rfl rfl ?_
  refine x_iconst (v := 1) C dL_law_908 (by decide) ?_
  refine x_iadd C dL_law_909 ?_
  refine x_scr C hX hi1 dL_law_910 ?_
  obtain ⟨q3, hq3, hF⟩ := f_bind hF
  refine x_cLi (rest := [.int q2.1]) C (c_X8_keep l C.2.2.2.2.2.2.2.2 (xs (ix (x3 + 1))) q2.2 hq3) cw_L_113 sh_82 rfl rfl ⟨by decide, by decide⟩ rfl rfl (Nat.le_of_ble_eq_true rfl) dL_law_911 ?_
  refine x_icmp_eq (tgt := 1044) C dL_law_914 (by decide) (fun hc => ?_) (fun hc => ?_)
  · replace hF := f_t hc hF
    exact x_pick [(0, .ref b), (1, .ref (G.ad 0)), (2, .ref (G.ad 82)), (3, .int x3)] [0, 1, 2, 3] rfl (w_law_b1044 C hX hk18 x3 q3.2 hF)
  · replace hF := f_f hc hF
    refine x_iconst (v := 0) C dL_law_917 (by decide) ?_
    exact x_lret C hX dL_law_918 (Prod.mk.inj (Option.some.inj hF)).1
set_option maxHeartbeats 4000000 in
theorem w_law_b652 {G : Gl} {p : Program} {l : Launch} {e : Env} {s0 : State} {m : MethodId} {b : Nat} {below : List Frame} {meth : Method} {c : Code} {L : Nat} {xs : Nat → Int32} (C : Cx G p s0 m #[Value.ref b] meth c cL_law 4 RL ret) (hX : LX b L xs G s0) {μf : Mu}  {k18 : Int32 → Mu → Option (Int32 × Mu)} (hk18 : ∀ (x3 : Int32) (μ : Mu), k18 x3 μ = some (1, μf) → XX G p l e room_1 s0 m #[Value.ref b] below meth c 4 600000 7302250 (lw_Z below #[Value.ref b] s0) μ 18 [(0, .ref b), (1, .ref (G.ad 0)), (2, .ref (G.ad 82)), (3, .int x3)] []) (x3 : Int32) (μ : Mu) (hF : f_law_b652 k18 xs L x3 μ = some (1, μf)) : XX G p l e room_1 s0 m #[Value.ref b] below meth c 4 600000 7302250 (lw_Z below #[Value.ref b] s0) μ 652 [(0, .ref b), (1, .ref (G.ad 0)), (2, .ref (G.ad 82)), (3, .int x3)] [] := by
  unfold f_law_b652 at hF
  refine x_aload_n C 1 dL_law_652 rfl rfl ?_
  refine x_aload_n C 0 dL_law_653 rfl rfl ?_
  refine x_iload_n C 3 dL_law_654 rfl rfl ?_
  refine x_iconst (v := 1) C dL_law_655 (by decide) ?_
  refine x_iadd C dL_law_656 ?_
  obtain ⟨hi1, hF⟩ := f_chk hF
  refine x_scr C hX hi1 dL_law_657 ?_
  refine x_aload_n C 0 dL_law_658 rfl rfl ?_
  refine x_iload_n C 3 dL_law_659 rfl rfl ?_
  refine x_iconst (v := 2) C dL_law_660 (by decide) ?_
  refine x_iadd C dL_law_661 ?_
  obtain ⟨hi2, hF⟩ := f_chk hF
  refine x_scr C hX hi2 dL_law_662 ?_
  obtain ⟨q3, hq3, hF⟩ := f_bind hF
  refine x_cLi (rest := []) C (c_X7_told l C.2.2.2.2.2.2.2.2 (xs (ix (x3 + 1))) (xs (ix (x3 + 2))) μ hq3) cw_L_74 sh_0 rfl rfl ⟨by decide, by decide⟩ rfl rfl (Nat.le_of_ble_eq_true rfl) dL_law_663 ?_
  refine x_aload_n C 2 dL_law_666 rfl rfl ?_
  refine x_aload_n C 0 dL_law_667 rfl rfl ?_
  refine x_iload_n C 3 dL_law_668 rfl rfl ?_
  refine x_iconst (v := 1) C dL_law_669 (by decide) ?_
  refine x_iadd C dL_law_670 ?_
  refine x_scr C hX hi1 dL_law_671 ?_
  refine x_aload_n C 0 dL_law_672 rfl rfl ?_
  refine x_iload_n C 3 dL_law_673 rfl rfl ?_
  refine x_iconst (v := 2) C dL_law_674 (by decide) ?_
  refine x_iadd C dL_law_675 ?_
  refine x_scr C hX hi2 dL_law_676 ?_
  obtain ⟨q4, hq4, hF⟩ := f_bind hF
  refine x_cLi (rest := [.int q3.1]) C (c_X8_told l C.2.2.2.2.2.2.2.2 (xs (ix (x3 + 1))) (xs (ix (x3 + 2))) q3.2 hq4) cw_L_77 sh_82 rfl rfl ⟨by decide, by decide⟩ rfl rfl (Nat.le_of_ble_eq_true rfl) dL_law_677 ?_
  refine x_icmp_eq (tgt := 1044) C dL_law_680 (by decide) (fun hc => ?_) (fun hc => ?_)
  · replace hF := f_t hc hF
    exact x_pick [(0, .ref b), (1, .ref (G.ad 0)), (2, .ref (G.ad 82)), (3, .int x3)] [0, 1, 2, 3] rfl (w_law_b1044 C hX hk18 x3 q4.2 hF)
  · replace hF := f_f hc hF
    refine x_iconst (v := 0) C dL_law_683 (by decide) ?_
    exact x_lret C hX dL_law_684 (Prod.mk.inj (Option.some.inj hF)).1
set_option maxHeartbeats 4000000 in
theorem w_law_b784 {G : Gl} {p : Program} {l : Launch} {e : Env} {s0 : State} {m : MethodId} {b : Nat} {below : List Frame} {meth : Method} {c : Code} {L : Nat} {xs : Nat → Int32} (C : Cx G p s0 m #[Value.ref b] meth c cL_law 4 RL ret) (hX : LX b L xs G s0) {μf : Mu}  {k18 : Int32 → Mu → Option (Int32 × Mu)} (hk18 : ∀ (x3 : Int32) (μ : Mu), k18 x3 μ = some (1, μf) → XX G p l e room_1 s0 m #[Value.ref b] below meth c 4 600000 7302250 (lw_Z below #[Value.ref b] s0) μ 18 [(0, .ref b), (1, .ref (G.ad 0)), (2, .ref (G.ad 82)), (3, .int x3)] []) (x3 : Int32) (μ : Mu) (hF : f_law_b784 k18 xs L x3 μ = some (1, μf)) : XX G p l e room_1 s0 m #[Value.ref b] below meth c 4 600000 7302250 (lw_Z below #[Value.ref b] s0) μ 784 [(0, .ref b), (1, .ref (G.ad 0)), (2, .ref (G.ad 82)), (3, .int x3)] [] := by
  unfold f_law_b784 at hF
  refine x_aload_n C 1 dL_law_784 rfl rfl ?_
  refine x_aload_n C 0 dL_law_785 rfl rfl ?_
  refine x_iload_n C 3 dL_law_786 rfl rfl ?_
  refine x_iconst (v := 1) C dL_law_787 (by decide) ?_
  refine x_iadd C dL_law_788 ?_
  obtain ⟨hi1, hF⟩ := f_chk hF
  refine x_scr C hX hi1 dL_law_789 ?_
  refine x_aload_n C 0 dL_law_790 rfl rfl ?_
  refine x_iload_n C 3 dL_law_791 rfl rfl ?_
  refine x_iconst (v := 2) C dL_law_792 (by decide) ?_
  refine x_iadd C dL_law_793 ?_
  obtain ⟨hi2, hF⟩ := f_chk hF
  refine x_scr C hX hi2 dL_law_794 ?_
  refine x_i2l C dL_law_795 ?_
  refine x_bipush (v := 32) C dL_law_796 (by decide) ?_
  refine x_lshl C dL_law_798 ?_
  refine x_aload_n C 0 dL_law_799 rfl rfl ?_
  refine x_iload_n C 3 dL_law_800 rfl rfl ?_
  refine x_iconst (v := 3) C dL_law_801 (by decide) ?_
  refine x_iadd C dL_law_802 ?_
  obtain ⟨hi3, hF⟩ := f_chk hF
  refine x_scr C hX hi3 dL_law_803 ?_
  refine x_i2l C dL_law_804 ?_
  refine x_ldc2 C cl_L_90 dL_law_805 ?_
  refine x_land C dL_law_808 ?_
  refine x_lor C dL_law_809 ?_
  obtain ⟨q4, hq4, hF⟩ := f_bind hF
  refine x_cLi (rest := []) C (c_X7_feed l C.2.2.2.2.2.2.2.2 (xs (ix (x3 + 1))) ((((xs (ix (x3 + 2)) : Int32).toInt64) <<< ((32 : Int32).toInt64 &&& 63)) ||| (((xs (ix (x3 + 3)) : Int32).toInt64) &&& 4294967295)) μ hq4) cw_L_92 sh_0 rfl rfl ⟨by decide, by decide⟩ rfl rfl (Nat.le_of_ble_eq_true rfl) dL_law_810 ?_
  refine x_aload_n C 2 dL_law_813 rfl rfl ?_
  refine x_aload_n C 0 dL_law_814 rfl rfl ?_
  refine x_iload_n C 3 dL_law_815 rfl rfl ?_
  refine x_iconst (v := 1) C dL_law_816 (by decide) ?_
  refine x_iadd C dL_law_817 ?_
  refine x_scr C hX hi1 dL_law_818 ?_
  refine x_aload_n C 0 dL_law_819 rfl rfl ?_
  refine x_iload_n C 3 dL_law_820 rfl rfl ?_
  refine x_iconst (v := 2) C dL_law_821 (by decide) ?_
  refine x_iadd C dL_law_822 ?_
  refine x_scr C hX hi2 dL_law_823 ?_
  refine x_i2l C dL_law_824 ?_
  refine x_bipush (v := 32) C dL_law_825 (by decide) ?_
  refine x_lshl C dL_law_827 ?_
  refine x_aload_n C 0 dL_law_828 rfl rfl ?_
  refine x_iload_n C 3 dL_law_829 rfl rfl ?_
  refine x_iconst (v := 3) C dL_law_830 (by decide) ?_
  refine x_iadd C dL_law_831 ?_
  refine x_scr C hX hi3 dL_law_832 ?_
  refine x_i2l C dL_law_833 ?_
  refine x_ldc2 C cl_L_90 dL_law_834 ?_
  refine x_land C dL_law_837 ?_
  refine x_lor C dL_law_838 ?_
  obtain ⟨q5, hq5, hF⟩ := f_bind hF
  refine x_cLi (rest := [.int q4.1]) C (c_X8_feed l C.2.2.2.2.2.2.2.2 (xs (ix (x3 + 1))) ((((xs (ix (x3 + 2)) : Int32).toInt64) <<< ((32 : Int32).toInt64 &&& 63)) ||| (((xs (ix (x3 + 3)) : Int32).toInt64) &&& 4294967295)) q4.2 hq5) cw_L_96 sh_82 rfl rfl ⟨by decide, by decide⟩ rfl rfl (Nat.le_of_ble_eq_true rfl) dL_law_839 ?_
  refine x_icmp_eq (tgt := 1044) C dL_law_842 (by decide) (fun hc => ?_) (fun hc => ?_)
  · replace hF := f_t hc hF
    exact x_pick [(0, .ref b), (1, .ref (G.ad 0)), (2, .ref (G.ad 82)), (3, .int x3)] [0, 1, 2, 3] rfl (w_law_b1044 C hX hk18 x3 q5.2 hF)
  · replace hF := f_f hc hF
    refine x_iconst (v := 0) C dL_law_845 (by decide) ?_
    exact x_lret C hX dL_law_846 (Prod.mk.inj (Option.some.inj hF)).1
set_option maxHeartbeats 4000000 in
theorem w_law_b530 {G : Gl} {p : Program} {l : Launch} {e : Env} {s0 : State} {m : MethodId} {b : Nat} {below : List Frame} {meth : Method} {c : Code} {L : Nat} {xs : Nat → Int32} (C : Cx G p s0 m #[Value.ref b] meth c cL_law 4 RL ret) (hX : LX b L xs G s0) {μf : Mu}  {k18 : Int32 → Mu → Option (Int32 × Mu)} (hk18 : ∀ (x3 : Int32) (μ : Mu), k18 x3 μ = some (1, μf) → XX G p l e room_1 s0 m #[Value.ref b] below meth c 4 600000 7302250 (lw_Z below #[Value.ref b] s0) μ 18 [(0, .ref b), (1, .ref (G.ad 0)), (2, .ref (G.ad 82)), (3, .int x3)] []) (x3 : Int32) (μ : Mu) (hF : f_law_b530 k18 xs L x3 μ = some (1, μf)) : XX G p l e room_1 s0 m #[Value.ref b] below meth c 4 600000 7302250 (lw_Z below #[Value.ref b] s0) μ 530 [(0, .ref b), (1, .ref (G.ad 0)), (2, .ref (G.ad 82)), (3, .int x3)] [] := by
  unfold f_law_b530 at hF
  refine x_aload_n C 1 dL_law_530 rfl rfl ?_
  refine x_aload_n C 0 dL_law_531 rfl rfl ?_
  refine x_iload_n C 3 dL_law_532 rfl rfl ?_
  refine x_iconst (v := 1) C dL_law_533 (by decide) ?_
  refine x_iadd C dL_law_534 ?_
  obtain ⟨hi1, hF⟩ := f_chk hF
  refine x_scr C hX hi1 dL_law_535 ?_
  obtain ⟨q2, hq2, hF⟩ := f_bind hF
  refine x_cLi (rest := []) C (c_X7_cut l C.2.2.2.2.2.2.2.2 (xs (ix (x3 + 1))) μ hq2) cw_L_58 sh_0 rfl rfl ⟨by decide, by decide⟩ rfl rfl (Nat.le_of_ble_eq_true rfl) dL_law_536 ?_
  refine x_aload_n C 2 dL_law_539 rfl rfl ?_
  refine x_aload_n C 0 dL_law_540 rfl rfl ?_
  refine x_iload_n C 3 dL_law_541 rfl rfl ?_
  refine x_iconst (v := 1) C dL_law_542 (by decide) ?_
  refine x_iadd C dL_law_543 ?_
  refine x_scr C hX hi1 dL_law_544 ?_
  obtain ⟨q3, hq3, hF⟩ := f_bind hF
  refine x_cLi (rest := [.int q2.1]) C (c_X8_cut l C.2.2.2.2.2.2.2.2 (xs (ix (x3 + 1))) q2.2 hq3) cw_L_61 sh_82 rfl rfl ⟨by decide, by decide⟩ rfl rfl (Nat.le_of_ble_eq_true rfl) dL_law_545 ?_
  refine x_icmp_eq (tgt := 1044) C dL_law_548 (by decide) (fun hc => ?_) (fun hc => ?_)
  · replace hF := f_t hc hF
    exact x_pick [(0, .ref b), (1, .ref (G.ad 0)), (2, .ref (G.ad 82)), (3, .int x3)] [0, 1, 2, 3] rfl (w_law_b1044 C hX hk18 x3 q3.2 hF)
  · replace hF := f_f hc hF
    refine x_iconst (v := 0) C dL_law_551 (by decide) ?_
    exact x_lret C hX dL_law_552 (Prod.mk.inj (Option.some.inj hF)).1
set_option maxHeartbeats 4000000 in
theorem w_law_b276 {G : Gl} {p : Program} {l : Launch} {e : Env} {s0 : State} {m : MethodId} {b : Nat} {below : List Frame} {meth : Method} {c : Code} {L : Nat} {xs : Nat → Int32} (C : Cx G p s0 m #[Value.ref b] meth c cL_law 4 RL ret) (hX : LX b L xs G s0) {μf : Mu}  {k18 : Int32 → Mu → Option (Int32 × Mu)} (hk18 : ∀ (x3 : Int32) (μ : Mu), k18 x3 μ = some (1, μf) → XX G p l e room_1 s0 m #[Value.ref b] below meth c 4 600000 7302250 (lw_Z below #[Value.ref b] s0) μ 18 [(0, .ref b), (1, .ref (G.ad 0)), (2, .ref (G.ad 82)), (3, .int x3)] []) (x3 : Int32) (μ : Mu) (hF : f_law_b276 k18 xs L x3 μ = some (1, μf)) : XX G p l e room_1 s0 m #[Value.ref b] below meth c 4 600000 7302250 (lw_Z below #[Value.ref b] s0) μ 276 [(0, .ref b), (1, .ref (G.ad 0)), (2, .ref (G.ad 82)), (3, .int x3)] [] := by
  unfold f_law_b276 at hF
  refine x_aload_n C 1 dL_law_276 rfl rfl ?_
  refine x_aload_n C 0 dL_law_277 rfl rfl ?_
  refine x_iload_n C 3 dL_law_278 rfl rfl ?_
  refine x_iconst (v := 1) C dL_law_279 (by decide) ?_
  refine x_iadd C dL_law_280 ?_
  obtain ⟨hi1, hF⟩ := f_chk hF
  refine x_scr C hX hi1 dL_law_281 ?_
  refine x_aload_n C 0 dL_law_282 rfl rfl ?_
  refine x_iload_n C 3 dL_law_283 rfl rfl ?_
  refine x_iconst (v := 2) C dL_law_284 (by decide) ?_
  refine x_iadd C dL_law_285 ?_
  obtain ⟨hi2, hF⟩ := f_chk hF
  refine x_scr C hX hi2 dL_law_286 ?_
  refine x_aload_n C 0 dL_law_287 rfl rfl ?_
  refine x_iload_n C 3 dL_law_288 rfl rfl ?_
  refine x_iconst (v := 3) C dL_law_289 (by decide) ?_
  refine x_iadd C dL_law_290 ?_
  obtain ⟨hi3, hF⟩ := f_chk hF
  refine x_scr C hX hi3 dL_law_291 ?_
  obtain ⟨q4, hq4, hF⟩ := f_bind hF
  refine x_cLi (rest := []) C (c_X7_pages l C.2.2.2.2.2.2.2.2 (xs (ix (x3 + 1))) (xs (ix (x3 + 2))) (xs (ix (x3 + 3))) μ hq4) cw_L_23 sh_0 rfl rfl ⟨by decide, by decide⟩ rfl rfl (Nat.le_of_ble_eq_true rfl) dL_law_292 ?_
  refine x_aload_n C 2 dL_law_295 rfl rfl ?_
  refine x_aload_n C 0 dL_law_296 rfl rfl ?_
  refine x_iload_n C 3 dL_law_297 rfl rfl ?_
  refine x_iconst (v := 1) C dL_law_298 (by decide) ?_
  refine x_iadd C dL_law_299 ?_
  refine x_scr C hX hi1 dL_law_300 ?_
  refine x_aload_n C 0 dL_law_301 rfl rfl ?_
  refine x_iload_n C 3 dL_law_302 rfl rfl ?_
  refine x_iconst (v := 2) C dL_law_303 (by decide) ?_
  refine x_iadd C dL_law_304 ?_
  refine x_scr C hX hi2 dL_law_305 ?_
  refine x_aload_n C 0 dL_law_306 rfl rfl ?_
  refine x_iload_n C 3 dL_law_307 rfl rfl ?_
  refine x_iconst (v := 3) C dL_law_308 (by decide) ?_
  refine x_iadd C dL_law_309 ?_
  refine x_scr C hX hi3 dL_law_310 ?_
  obtain ⟨q5, hq5, hF⟩ := f_bind hF
  refine x_cLi (rest := [.int q4.1]) C (c_X8_pages l C.2.2.2.2.2.2.2.2 (xs (ix (x3 + 1))) (xs (ix (x3 + 2))) (xs (ix (x3 + 3))) q4.2 hq5) cw_L_27 sh_82 rfl rfl ⟨by decide, by decide⟩ rfl rfl (Nat.le_of_ble_eq_true rfl) dL_law_311 ?_
  refine x_icmp_eq (tgt := 1044) C dL_law_314 (by decide) (fun hc => ?_) (fun hc => ?_)
  · replace hF := f_t hc hF
    exact x_pick [(0, .ref b), (1, .ref (G.ad 0)), (2, .ref (G.ad 82)), (3, .int x3)] [0, 1, 2, 3] rfl (w_law_b1044 C hX hk18 x3 q5.2 hF)
  · replace hF := f_f hc hF
    refine x_iconst (v := 0) C dL_law_317 (by decide) ?_
    exact x_lret C hX dL_law_318 (Prod.mk.inj (Option.some.inj hF)).1
set_option maxHeartbeats 4000000 in
theorem w_law_b919 {G : Gl} {p : Program} {l : Launch} {e : Env} {s0 : State} {m : MethodId} {b : Nat} {below : List Frame} {meth : Method} {c : Code} {L : Nat} {xs : Nat → Int32} (C : Cx G p s0 m #[Value.ref b] meth c cL_law 4 RL ret) (hX : LX b L xs G s0) {μf : Mu}  {k18 : Int32 → Mu → Option (Int32 × Mu)} (hk18 : ∀ (x3 : Int32) (μ : Mu), k18 x3 μ = some (1, μf) → XX G p l e room_1 s0 m #[Value.ref b] below meth c 4 600000 7302250 (lw_Z below #[Value.ref b] s0) μ 18 [(0, .ref b), (1, .ref (G.ad 0)), (2, .ref (G.ad 82)), (3, .int x3)] []) (x3 : Int32) (μ : Mu) (hF : f_law_b919 k18 xs L x3 μ = some (1, μf)) : XX G p l e room_1 s0 m #[Value.ref b] below meth c 4 600000 7302250 (lw_Z below #[Value.ref b] s0) μ 919 [(0, .ref b), (1, .ref (G.ad 0)), (2, .ref (G.ad 82)), (3, .int x3)] [] := by
  unfold f_law_b919 at hF
  refine x_aload_n C 1 dL_law_919 rfl rfl ?_
  refine x_aload_n C 0 dL_law_920 rfl rfl ?_
  refine x_iload_n C 3 dL_law_921 rfl rfl ?_
  refine x_iconst (v := 1) C dL_law_922 (by decide) ?_
  refine x_iadd C dL_law_923 ?_
  obtain ⟨hi1, hF⟩ := f_chk hF
  refine x_scr C hX hi1 dL_law_924 ?_
  obtain ⟨q2, hq2, hF⟩ := f_bind hF
  refine x_cLi (rest := []) C (c_X7_back l C.2.2.2.2.2.2.2.2 (xs (ix (x3 + 1))) μ hq2) cw_L_114 sh_0 rfl rfl ⟨by decide, by decide⟩ rfl rfl (Nat.le_of_ble_eq_true rfl) dL_law_925 ?_
  refine x_aload_n C 2 dL_law_928 rfl rfl ?_
  refine x_aload_n C 0 dL_law_929 rfl rfl ?_
  refine x_iload_n C 3 dL_law_930 rfl rfl ?_
  refine x_iconst (v := 1) C dL_law_931 (by decide) ?_
  refine x_iadd C dL_law_932 ?_
  refine x_scr C hX hi1 dL_law_933 ?_
  obtain ⟨q3, hq3, hF⟩ := f_bind hF
  refine x_cLi (rest := [.int q2.1]) C (c_X8_back l C.2.2.2.2.2.2.2.2 (xs (ix (x3 + 1))) q2.2 hq3) cw_L_117 sh_82 rfl rfl ⟨by decide, by decide⟩ rfl rfl (Nat.le_of_ble_eq_true rfl) dL_law_934 ?_
  refine x_icmp_eq (tgt := 1044) C dL_law_937 (by decide) (fun hc => ?_) (fun hc => ?_)
  · replace hF := f_t hc hF
    exact x_pick [(0, .ref b), (1, .ref (G.ad 0)), (2, .ref (G.ad 82)), (3, .int x3)] [0, 1, 2, 3] rfl (w_law_b1044 C hX hk18 x3 q3.2 hF)
  · replace hF := f_f hc hF
    refine x_iconst (v := 0) C dL_law_940 (by decide) ?_
    exact x_lret C hX dL_law_941 (Prod.mk.inj (Option.some.inj hF)).1
set_option maxHeartbeats 4000000 in
theorem w_law_b408 {G : Gl} {p : Program} {l : Launch} {e : Env} {s0 : State} {m : MethodId} {b : Nat} {below : List Frame} {meth : Method} {c : Code} {L : Nat} {xs : Nat → Int32} (C : Cx G p s0 m #[Value.ref b] meth c cL_law 4 RL ret) (hX : LX b L xs G s0) {μf : Mu}  {k18 : Int32 → Mu → Option (Int32 × Mu)} (hk18 : ∀ (x3 : Int32) (μ : Mu), k18 x3 μ = some (1, μf) → XX G p l e room_1 s0 m #[Value.ref b] below meth c 4 600000 7302250 (lw_Z below #[Value.ref b] s0) μ 18 [(0, .ref b), (1, .ref (G.ad 0)), (2, .ref (G.ad 82)), (3, .int x3)] []) (x3 : Int32) (μ : Mu) (hF : f_law_b408 k18 xs L x3 μ = some (1, μf)) : XX G p l e room_1 s0 m #[Value.ref b] below meth c 4 600000 7302250 (lw_Z below #[Value.ref b] s0) μ 408 [(0, .ref b), (1, .ref (G.ad 0)), (2, .ref (G.ad 82)), (3, .int x3)] [] := by
  unfold f_law_b408 at hF
  refine x_aload_n C 1 dL_law_408 rfl rfl ?_
  refine x_aload_n C 0 dL_law_409 rfl rfl ?_
  refine x_iload_n C 3 dL_law_410 rfl rfl ?_
  refine x_iconst (v := 1) C dL_law_411 (by decide) ?_
  refine x_iadd C dL_law_412 ?_
  obtain ⟨hi1, hF⟩ := f_chk hF
  refine x_scr C hX hi1 dL_law_413 ?_
  refine x_aload_n C 0 dL_law_414 rfl rfl ?_
  refine x_iload_n C 3 dL_law_415 rfl rfl ?_
  refine x_iconst (v := 2) C dL_law_416 (by decide) ?_
  refine x_iadd C dL_law_417 ?_
  obtain ⟨hi2, hF⟩ := f_chk hF
  refine x_scr C hX hi2 dL_law_418 ?_
  refine x_aload_n C 0 dL_law_419 rfl rfl ?_
  refine x_iload_n C 3 dL_law_420 rfl rfl ?_
  refine x_iconst (v := 3) C dL_law_421 (by decide) ?_
  refine x_iadd C dL_law_422 ?_
  obtain ⟨hi3, hF⟩ := f_chk hF
  refine x_scr C hX hi3 dL_law_423 ?_
  obtain ⟨q4, hq4, hF⟩ := f_bind hF
  refine x_cLi (rest := []) C (c_X7_name l C.2.2.2.2.2.2.2.2 (xs (ix (x3 + 1))) (xs (ix (x3 + 2))) (xs (ix (x3 + 3))) μ hq4) cw_L_42 sh_0 rfl rfl ⟨by decide, by decide⟩ rfl rfl (Nat.le_of_ble_eq_true rfl) dL_law_424 ?_
  refine x_aload_n C 2 dL_law_427 rfl rfl ?_
  refine x_aload_n C 0 dL_law_428 rfl rfl ?_
  refine x_iload_n C 3 dL_law_429 rfl rfl ?_
  refine x_iconst (v := 1) C dL_law_430 (by decide) ?_
  refine x_iadd C dL_law_431 ?_
  refine x_scr C hX hi1 dL_law_432 ?_
  refine x_aload_n C 0 dL_law_433 rfl rfl ?_
  refine x_iload_n C 3 dL_law_434 rfl rfl ?_
  refine x_iconst (v := 2) C dL_law_435 (by decide) ?_
  refine x_iadd C dL_law_436 ?_
  refine x_scr C hX hi2 dL_law_437 ?_
  refine x_aload_n C 0 dL_law_438 rfl rfl ?_
  refine x_iload_n C 3 dL_law_439 rfl rfl ?_
  refine x_iconst (v := 3) C dL_law_440 (by decide) ?_
  refine x_iadd C dL_law_441 ?_
  refine x_scr C hX hi3 dL_law_442 ?_
  obtain ⟨q5, hq5, hF⟩ := f_bind hF
  refine x_cLi (rest := [.int q4]) C (c_X8_name_ l C.2.2.2.2.2.2.2.2 (xs (ix (x3 + 1))) (xs (ix (x3 + 2))) (xs (ix (x3 + 3))) μ hq5) cw_L_45 sh_82 rfl rfl ⟨by decide, by decide⟩ rfl rfl (Nat.le_of_ble_eq_true rfl) dL_law_443 ?_
  refine x_icmp_eq (tgt := 1044) C dL_law_446 (by decide) (fun hc => ?_) (fun hc => ?_)
  · replace hF := f_t hc hF
    exact x_pick [(0, .ref b), (1, .ref (G.ad 0)), (2, .ref (G.ad 82)), (3, .int x3)] [0, 1, 2, 3] rfl (w_law_b1044 C hX hk18 x3 μ hF)
  · replace hF := f_f hc hF
    refine x_iconst (v := 0) C dL_law_449 (by decide) ?_
    exact x_lret C hX dL_law_450 (Prod.mk.inj (Option.some.inj hF)).1
set_option maxHeartbeats 4000000 in
theorem w_law_b160 {G : Gl} {p : Program} {l : Launch} {e : Env} {s0 : State} {m : MethodId} {b : Nat} {below : List Frame} {meth : Method} {c : Code} {L : Nat} {xs : Nat → Int32} (C : Cx G p s0 m #[Value.ref b] meth c cL_law 4 RL ret) (hX : LX b L xs G s0) {μf : Mu}  {k18 : Int32 → Mu → Option (Int32 × Mu)} (hk18 : ∀ (x3 : Int32) (μ : Mu), k18 x3 μ = some (1, μf) → XX G p l e room_1 s0 m #[Value.ref b] below meth c 4 600000 7302250 (lw_Z below #[Value.ref b] s0) μ 18 [(0, .ref b), (1, .ref (G.ad 0)), (2, .ref (G.ad 82)), (3, .int x3)] []) (x3 : Int32) (μ : Mu) (hF : f_law_b160 k18 xs L x3 μ = some (1, μf)) : XX G p l e room_1 s0 m #[Value.ref b] below meth c 4 600000 7302250 (lw_Z below #[Value.ref b] s0) μ 160 [(0, .ref b), (1, .ref (G.ad 0)), (2, .ref (G.ad 82)), (3, .int x3)] [] := by
  unfold f_law_b160 at hF
  refine x_aload_n C 1 dL_law_160 rfl rfl ?_
  refine x_aload_n C 0 dL_law_161 rfl rfl ?_
  refine x_iload_n C 3 dL_law_162 rfl rfl ?_
  refine x_iconst (v := 1) C dL_law_163 (by decide) ?_
  refine x_iadd C dL_law_164 ?_
  obtain ⟨hi1, hF⟩ := f_chk hF
  refine x_scr C hX hi1 dL_law_165 ?_
  refine x_aload_n C 0 dL_law_166 rfl rfl ?_
  refine x_iload_n C 3 dL_law_167 rfl rfl ?_
  refine x_iconst (v := 2) C dL_law_168 (by decide) ?_
  refine x_iadd C dL_law_169 ?_
  obtain ⟨hi2, hF⟩ := f_chk hF
  refine x_scr C hX hi2 dL_law_170 ?_
  refine x_aload_n C 0 dL_law_171 rfl rfl ?_
  refine x_iload_n C 3 dL_law_172 rfl rfl ?_
  refine x_iconst (v := 3) C dL_law_173 (by decide) ?_
  refine x_iadd C dL_law_174 ?_
  obtain ⟨hi3, hF⟩ := f_chk hF
  refine x_scr C hX hi3 dL_law_175 ?_
  refine x_aload_n C 0 dL_law_176 rfl rfl ?_
  refine x_iload_n C 3 dL_law_177 rfl rfl ?_
  refine x_iconst (v := 4) C dL_law_178 (by decide) ?_
  refine x_iadd C dL_law_179 ?_
  obtain ⟨hi4, hF⟩ := f_chk hF
  refine x_scr C hX hi4 dL_law_180 ?_
  refine x_aload_n C 0 dL_law_181 rfl rfl ?_
  refine x_iload_n C 3 dL_law_182 rfl rfl ?_
  refine x_iconst (v := 5) C dL_law_183 (by decide) ?_
  refine x_iadd C dL_law_184 ?_
  obtain ⟨hi5, hF⟩ := f_chk hF
  refine x_scr C hX hi5 dL_law_185 ?_
  obtain ⟨q6, hq6, hF⟩ := f_bind hF
  refine x_cLi (rest := []) C (c_X7_work l C.2.2.2.2.2.2.2.2 (xs (ix (x3 + 1))) (xs (ix (x3 + 2))) (xs (ix (x3 + 3))) (xs (ix (x3 + 4))) (xs (ix (x3 + 5))) μ hq6) cw_L_13 sh_0 rfl rfl ⟨by decide, by decide⟩ rfl rfl (Nat.le_of_ble_eq_true rfl) dL_law_186 ?_
  refine x_aload_n C 2 dL_law_189 rfl rfl ?_
  refine x_aload_n C 0 dL_law_190 rfl rfl ?_
  refine x_iload_n C 3 dL_law_191 rfl rfl ?_
  refine x_iconst (v := 1) C dL_law_192 (by decide) ?_
  refine x_iadd C dL_law_193 ?_
  refine x_scr C hX hi1 dL_law_194 ?_
  refine x_aload_n C 0 dL_law_195 rfl rfl ?_
  refine x_iload_n C 3 dL_law_196 rfl rfl ?_
  refine x_iconst (v := 2) C dL_law_197 (by decide) ?_
  refine x_iadd C dL_law_198 ?_
  refine x_scr C hX hi2 dL_law_199 ?_
  refine x_aload_n C 0 dL_law_200 rfl rfl ?_
  refine x_iload_n C 3 dL_law_201 rfl rfl ?_
  refine x_iconst (v := 3) C dL_law_202 (by decide) ?_
  refine x_iadd C dL_law_203 ?_
  refine x_scr C hX hi3 dL_law_204 ?_
  refine x_aload_n C 0 dL_law_205 rfl rfl ?_
  refine x_iload_n C 3 dL_law_206 rfl rfl ?_
  refine x_iconst (v := 4) C dL_law_207 (by decide) ?_
  refine x_iadd C dL_law_208 ?_
  refine x_scr C hX hi4 dL_law_209 ?_
  refine x_aload_n C 0 dL_law_210 rfl rfl ?_
  refine x_iload_n C 3 dL_law_211 rfl rfl ?_
  refine x_iconst (v := 5) C dL_law_212 (by decide) ?_
  refine x_iadd C dL_law_213 ?_
  refine x_scr C hX hi5 dL_law_214 ?_
  obtain ⟨q7, hq7, hF⟩ := f_bind hF
  refine x_cLi (rest := [.int q6.1]) C (c_X8_work l C.2.2.2.2.2.2.2.2 (xs (ix (x3 + 1))) (xs (ix (x3 + 2))) (xs (ix (x3 + 3))) (xs (ix (x3 + 4))) (xs (ix (x3 + 5))) q6.2 hq7) cw_L_17 sh_82 rfl rfl ⟨by decide, by decide⟩ rfl rfl (Nat.le_of_ble_eq_true rfl) dL_law_215 ?_
  refine x_icmp_eq (tgt := 1044) C dL_law_218 (by decide) (fun hc => ?_) (fun hc => ?_)
  · replace hF := f_t hc hF
    exact x_pick [(0, .ref b), (1, .ref (G.ad 0)), (2, .ref (G.ad 82)), (3, .int x3)] [0, 1, 2, 3] rfl (w_law_b1044 C hX hk18 x3 q7.2 hF)
  · replace hF := f_f hc hF
    refine x_iconst (v := 0) C dL_law_221 (by decide) ?_
    exact x_lret C hX dL_law_222 (Prod.mk.inj (Option.some.inj hF)).1
set_option maxHeartbeats 4000000 in
theorem w_law_b553 {G : Gl} {p : Program} {l : Launch} {e : Env} {s0 : State} {m : MethodId} {b : Nat} {below : List Frame} {meth : Method} {c : Code} {L : Nat} {xs : Nat → Int32} (C : Cx G p s0 m #[Value.ref b] meth c cL_law 4 RL ret) (hX : LX b L xs G s0) {μf : Mu}  {k18 : Int32 → Mu → Option (Int32 × Mu)} (hk18 : ∀ (x3 : Int32) (μ : Mu), k18 x3 μ = some (1, μf) → XX G p l e room_1 s0 m #[Value.ref b] below meth c 4 600000 7302250 (lw_Z below #[Value.ref b] s0) μ 18 [(0, .ref b), (1, .ref (G.ad 0)), (2, .ref (G.ad 82)), (3, .int x3)] []) (x3 : Int32) (μ : Mu) (hF : f_law_b553 k18 xs L x3 μ = some (1, μf)) : XX G p l e room_1 s0 m #[Value.ref b] below meth c 4 600000 7302250 (lw_Z below #[Value.ref b] s0) μ 553 [(0, .ref b), (1, .ref (G.ad 0)), (2, .ref (G.ad 82)), (3, .int x3)] [] := by
  unfold f_law_b553 at hF
  refine x_aload_n C 1 dL_law_553 rfl rfl ?_
  refine x_aload_n C 0 dL_law_554 rfl rfl ?_
  refine x_iload_n C 3 dL_law_555 rfl rfl ?_
  refine x_iconst (v := 1) C dL_law_556 (by decide) ?_
  refine x_iadd C dL_law_557 ?_
  obtain ⟨hi1, hF⟩ := f_chk hF
  refine x_scr C hX hi1 dL_law_558 ?_
  refine x_aload_n C 0 dL_law_559 rfl rfl ?_
  refine x_iload_n C 3 dL_law_560 rfl rfl ?_
  refine x_iconst (v := 2) C dL_law_561 (by decide) ?_
  refine x_iadd C dL_law_562 ?_
  obtain ⟨hi2, hF⟩ := f_chk hF
  refine x_scr C hX hi2 dL_law_563 ?_
  obtain ⟨q3, hq3, hF⟩ := f_bind hF
  refine x_cLi (rest := []) C (c_X7_move l C.2.2.2.2.2.2.2.2 (xs (ix (x3 + 1))) (xs (ix (x3 + 2))) μ hq3) cw_L_62 sh_0 rfl rfl ⟨by decide, by decide⟩ rfl rfl (Nat.le_of_ble_eq_true rfl) dL_law_564 ?_
  refine x_aload_n C 2 dL_law_567 rfl rfl ?_
  refine x_aload_n C 0 dL_law_568 rfl rfl ?_
  refine x_iload_n C 3 dL_law_569 rfl rfl ?_
  refine x_iconst (v := 1) C dL_law_570 (by decide) ?_
  refine x_iadd C dL_law_571 ?_
  refine x_scr C hX hi1 dL_law_572 ?_
  refine x_aload_n C 0 dL_law_573 rfl rfl ?_
  refine x_iload_n C 3 dL_law_574 rfl rfl ?_
  refine x_iconst (v := 2) C dL_law_575 (by decide) ?_
  refine x_iadd C dL_law_576 ?_
  refine x_scr C hX hi2 dL_law_577 ?_
  obtain ⟨q4, hq4, hF⟩ := f_bind hF
  refine x_cLi (rest := [.int q3.1]) C (c_X8_move l C.2.2.2.2.2.2.2.2 (xs (ix (x3 + 1))) (xs (ix (x3 + 2))) q3.2 hq4) cw_L_65 sh_82 rfl rfl ⟨by decide, by decide⟩ rfl rfl (Nat.le_of_ble_eq_true rfl) dL_law_578 ?_
  refine x_icmp_eq (tgt := 1044) C dL_law_581 (by decide) (fun hc => ?_) (fun hc => ?_)
  · replace hF := f_t hc hF
    exact x_pick [(0, .ref b), (1, .ref (G.ad 0)), (2, .ref (G.ad 82)), (3, .int x3)] [0, 1, 2, 3] rfl (w_law_b1044 C hX hk18 x3 q4.2 hF)
  · replace hF := f_f hc hF
    refine x_iconst (v := 0) C dL_law_584 (by decide) ?_
    exact x_lret C hX dL_law_585 (Prod.mk.inj (Option.some.inj hF)).1
set_option maxHeartbeats 4000000 in
theorem w_law_b685 {G : Gl} {p : Program} {l : Launch} {e : Env} {s0 : State} {m : MethodId} {b : Nat} {below : List Frame} {meth : Method} {c : Code} {L : Nat} {xs : Nat → Int32} (C : Cx G p s0 m #[Value.ref b] meth c cL_law 4 RL ret) (hX : LX b L xs G s0) {μf : Mu}  {k18 : Int32 → Mu → Option (Int32 × Mu)} (hk18 : ∀ (x3 : Int32) (μ : Mu), k18 x3 μ = some (1, μf) → XX G p l e room_1 s0 m #[Value.ref b] below meth c 4 600000 7302250 (lw_Z below #[Value.ref b] s0) μ 18 [(0, .ref b), (1, .ref (G.ad 0)), (2, .ref (G.ad 82)), (3, .int x3)] []) (x3 : Int32) (μ : Mu) (hF : f_law_b685 k18 xs L x3 μ = some (1, μf)) : XX G p l e room_1 s0 m #[Value.ref b] below meth c 4 600000 7302250 (lw_Z below #[Value.ref b] s0) μ 685 [(0, .ref b), (1, .ref (G.ad 0)), (2, .ref (G.ad 82)), (3, .int x3)] [] := by
  unfold f_law_b685 at hF
  refine x_aload_n C 1 dL_law_685 rfl rfl ?_
  refine x_aload_n C 0 dL_law_686 rfl rfl ?_
  refine x_iload_n C 3 dL_law_687 rfl rfl ?_
  refine x_iconst (v := 1) C dL_law_688 (by decide) ?_
  refine x_iadd C dL_law_689 ?_
  obtain ⟨hi1, hF⟩ := f_chk hF
  refine x_scr C hX hi1 dL_law_690 ?_
  refine x_aload_n C 0 dL_law_691 rfl rfl ?_
  refine x_iload_n C 3 dL_law_692 rfl rfl ?_
  refine x_iconst (v := 2) C dL_law_693 (by decide) ?_
  refine x_iadd C dL_law_694 ?_
  obtain ⟨hi2, hF⟩ := f_chk hF
  refine x_scr C hX hi2 dL_law_695 ?_
  obtain ⟨q3, hq3, hF⟩ := f_bind hF
  refine x_cLi (rest := []) C (c_X7_at l C.2.2.2.2.2.2.2.2 (xs (ix (x3 + 1))) (xs (ix (x3 + 2))) μ hq3) cw_L_78 sh_0 rfl rfl ⟨by decide, by decide⟩ rfl rfl (Nat.le_of_ble_eq_true rfl) dL_law_696 ?_
  refine x_aload_n C 2 dL_law_699 rfl rfl ?_
  refine x_aload_n C 0 dL_law_700 rfl rfl ?_
  refine x_iload_n C 3 dL_law_701 rfl rfl ?_
  refine x_iconst (v := 1) C dL_law_702 (by decide) ?_
  refine x_iadd C dL_law_703 ?_
  refine x_scr C hX hi1 dL_law_704 ?_
  refine x_aload_n C 0 dL_law_705 rfl rfl ?_
  refine x_iload_n C 3 dL_law_706 rfl rfl ?_
  refine x_iconst (v := 2) C dL_law_707 (by decide) ?_
  refine x_iadd C dL_law_708 ?_
  refine x_scr C hX hi2 dL_law_709 ?_
  obtain ⟨q4, hq4, hF⟩ := f_bind hF
  refine x_cLi (rest := [.int q3]) C (c_X8_at l C.2.2.2.2.2.2.2.2 (xs (ix (x3 + 1))) (xs (ix (x3 + 2))) μ hq4) cw_L_81 sh_82 rfl rfl ⟨by decide, by decide⟩ rfl rfl (Nat.le_of_ble_eq_true rfl) dL_law_710 ?_
  refine x_icmp_eq (tgt := 1044) C dL_law_713 (by decide) (fun hc => ?_) (fun hc => ?_)
  · replace hF := f_t hc hF
    exact x_pick [(0, .ref b), (1, .ref (G.ad 0)), (2, .ref (G.ad 82)), (3, .int x3)] [0, 1, 2, 3] rfl (w_law_b1044 C hX hk18 x3 q4.2 hF)
  · replace hF := f_f hc hF
    refine x_iconst (v := 0) C dL_law_716 (by decide) ?_
    exact x_lret C hX dL_law_717 (Prod.mk.inj (Option.some.inj hF)).1
set_option maxHeartbeats 4000000 in
theorem w_law_b942 {G : Gl} {p : Program} {l : Launch} {e : Env} {s0 : State} {m : MethodId} {b : Nat} {below : List Frame} {meth : Method} {c : Code} {L : Nat} {xs : Nat → Int32} (C : Cx G p s0 m #[Value.ref b] meth c cL_law 4 RL ret) (hX : LX b L xs G s0) {μf : Mu}  {k18 : Int32 → Mu → Option (Int32 × Mu)} (hk18 : ∀ (x3 : Int32) (μ : Mu), k18 x3 μ = some (1, μf) → XX G p l e room_1 s0 m #[Value.ref b] below meth c 4 600000 7302250 (lw_Z below #[Value.ref b] s0) μ 18 [(0, .ref b), (1, .ref (G.ad 0)), (2, .ref (G.ad 82)), (3, .int x3)] []) (x3 : Int32) (μ : Mu) (hF : f_law_b942 k18 xs L x3 μ = some (1, μf)) : XX G p l e room_1 s0 m #[Value.ref b] below meth c 4 600000 7302250 (lw_Z below #[Value.ref b] s0) μ 942 [(0, .ref b), (1, .ref (G.ad 0)), (2, .ref (G.ad 82)), (3, .int x3)] [] := by
  unfold f_law_b942 at hF
  refine x_aload_n C 1 dL_law_942 rfl rfl ?_
  refine x_aload_n C 0 dL_law_943 rfl rfl ?_
  refine x_iload_n C 3 dL_law_944 rfl rfl ?_
  refine x_iconst (v := 1) C dL_law_945 (by decide) ?_
  refine x_iadd C dL_law_946 ?_
  obtain ⟨hi1, hF⟩ := f_chk hF
  refine x_scr C hX hi1 dL_law_947 ?_
  refine x_aload_n C 0 dL_law_948 rfl rfl ?_
  refine x_iload_n C 3 dL_law_949 rfl rfl ?_
  refine x_iconst (v := 2) C dL_law_950 (by decide) ?_
  refine x_iadd C dL_law_951 ?_
  obtain ⟨hi2, hF⟩ := f_chk hF
  refine x_scr C hX hi2 dL_law_952 ?_
  obtain ⟨q3, hq3, hF⟩ := f_bind hF
  refine x_cLi (rest := []) C (c_X7_beside l C.2.2.2.2.2.2.2.2 (xs (ix (x3 + 1))) (xs (ix (x3 + 2))) μ hq3) cw_L_118 sh_0 rfl rfl ⟨by decide, by decide⟩ rfl rfl (Nat.le_of_ble_eq_true rfl) dL_law_953 ?_
  refine x_aload_n C 2 dL_law_956 rfl rfl ?_
  refine x_aload_n C 0 dL_law_957 rfl rfl ?_
  refine x_iload_n C 3 dL_law_958 rfl rfl ?_
  refine x_iconst (v := 1) C dL_law_959 (by decide) ?_
  refine x_iadd C dL_law_960 ?_
  refine x_scr C hX hi1 dL_law_961 ?_
  refine x_aload_n C 0 dL_law_962 rfl rfl ?_
  refine x_iload_n C 3 dL_law_963 rfl rfl ?_
  refine x_iconst (v := 2) C dL_law_964 (by decide) ?_
  refine x_iadd C dL_law_965 ?_
  refine x_scr C hX hi2 dL_law_966 ?_
  obtain ⟨q4, hq4, hF⟩ := f_bind hF
  refine x_cLi (rest := [.int q3.1]) C (c_X8_beside l C.2.2.2.2.2.2.2.2 (xs (ix (x3 + 1))) (xs (ix (x3 + 2))) q3.2 hq4) cw_L_121 sh_82 rfl rfl ⟨by decide, by decide⟩ rfl rfl (Nat.le_of_ble_eq_true rfl) dL_law_967 ?_
  refine x_icmp_eq (tgt := 1044) C dL_law_970 (by decide) (fun hc => ?_) (fun hc => ?_)
  · replace hF := f_t hc hF
    exact x_pick [(0, .ref b), (1, .ref (G.ad 0)), (2, .ref (G.ad 82)), (3, .int x3)] [0, 1, 2, 3] rfl (w_law_b1044 C hX hk18 x3 q4.2 hF)
  · replace hF := f_f hc hF
    refine x_iconst (v := 0) C dL_law_973 (by decide) ?_
    exact x_lret C hX dL_law_974 (Prod.mk.inj (Option.some.inj hF)).1
set_option maxHeartbeats 4000000 in
theorem w_law_b319 {G : Gl} {p : Program} {l : Launch} {e : Env} {s0 : State} {m : MethodId} {b : Nat} {below : List Frame} {meth : Method} {c : Code} {L : Nat} {xs : Nat → Int32} (C : Cx G p s0 m #[Value.ref b] meth c cL_law 4 RL ret) (hX : LX b L xs G s0) {μf : Mu}  {k18 : Int32 → Mu → Option (Int32 × Mu)} (hk18 : ∀ (x3 : Int32) (μ : Mu), k18 x3 μ = some (1, μf) → XX G p l e room_1 s0 m #[Value.ref b] below meth c 4 600000 7302250 (lw_Z below #[Value.ref b] s0) μ 18 [(0, .ref b), (1, .ref (G.ad 0)), (2, .ref (G.ad 82)), (3, .int x3)] []) (x3 : Int32) (μ : Mu) (hF : f_law_b319 k18 xs L x3 μ = some (1, μf)) : XX G p l e room_1 s0 m #[Value.ref b] below meth c 4 600000 7302250 (lw_Z below #[Value.ref b] s0) μ 319 [(0, .ref b), (1, .ref (G.ad 0)), (2, .ref (G.ad 82)), (3, .int x3)] [] := by
  unfold f_law_b319 at hF
  refine x_aload_n C 1 dL_law_319 rfl rfl ?_
  refine x_aload_n C 0 dL_law_320 rfl rfl ?_
  refine x_iload_n C 3 dL_law_321 rfl rfl ?_
  refine x_iconst (v := 1) C dL_law_322 (by decide) ?_
  refine x_iadd C dL_law_323 ?_
  obtain ⟨hi1, hF⟩ := f_chk hF
  refine x_scr C hX hi1 dL_law_324 ?_
  refine x_aload_n C 0 dL_law_325 rfl rfl ?_
  refine x_iload_n C 3 dL_law_326 rfl rfl ?_
  refine x_iconst (v := 2) C dL_law_327 (by decide) ?_
  refine x_iadd C dL_law_328 ?_
  obtain ⟨hi2, hF⟩ := f_chk hF
  refine x_scr C hX hi2 dL_law_329 ?_
  obtain ⟨q3, hq3, hF⟩ := f_bind hF
  refine x_cLi (rest := []) C (c_X7_join l C.2.2.2.2.2.2.2.2 (xs (ix (x3 + 1))) (xs (ix (x3 + 2))) μ hq3) cw_L_28 sh_0 rfl rfl ⟨by decide, by decide⟩ rfl rfl (Nat.le_of_ble_eq_true rfl) dL_law_330 ?_
  refine x_aload_n C 2 dL_law_333 rfl rfl ?_
  refine x_aload_n C 0 dL_law_334 rfl rfl ?_
  refine x_iload_n C 3 dL_law_335 rfl rfl ?_
  refine x_iconst (v := 1) C dL_law_336 (by decide) ?_
  refine x_iadd C dL_law_337 ?_
  refine x_scr C hX hi1 dL_law_338 ?_
  refine x_aload_n C 0 dL_law_339 rfl rfl ?_
  refine x_iload_n C 3 dL_law_340 rfl rfl ?_
  refine x_iconst (v := 2) C dL_law_341 (by decide) ?_
  refine x_iadd C dL_law_342 ?_
  refine x_scr C hX hi2 dL_law_343 ?_
  obtain ⟨q4, hq4, hF⟩ := f_bind hF
  refine x_cLi (rest := [.int q3.1]) C (c_X8_join l C.2.2.2.2.2.2.2.2 (xs (ix (x3 + 1))) (xs (ix (x3 + 2))) q3.2 hq4) cw_L_32 sh_82 rfl rfl ⟨by decide, by decide⟩ rfl rfl (Nat.le_of_ble_eq_true rfl) dL_law_344 ?_
  refine x_icmp_eq (tgt := 1044) C dL_law_347 (by decide) (fun hc => ?_) (fun hc => ?_)
  · replace hF := f_t hc hF
    exact x_pick [(0, .ref b), (1, .ref (G.ad 0)), (2, .ref (G.ad 82)), (3, .int x3)] [0, 1, 2, 3] rfl (w_law_b1044 C hX hk18 x3 q4.2 hF)
  · replace hF := f_f hc hF
    refine x_iconst (v := 0) C dL_law_350 (by decide) ?_
    exact x_lret C hX dL_law_351 (Prod.mk.inj (Option.some.inj hF)).1
set_option maxHeartbeats 4000000 in
theorem w_law_b451 {G : Gl} {p : Program} {l : Launch} {e : Env} {s0 : State} {m : MethodId} {b : Nat} {below : List Frame} {meth : Method} {c : Code} {L : Nat} {xs : Nat → Int32} (C : Cx G p s0 m #[Value.ref b] meth c cL_law 4 RL ret) (hX : LX b L xs G s0) {μf : Mu}  {k18 : Int32 → Mu → Option (Int32 × Mu)} (hk18 : ∀ (x3 : Int32) (μ : Mu), k18 x3 μ = some (1, μf) → XX G p l e room_1 s0 m #[Value.ref b] below meth c 4 600000 7302250 (lw_Z below #[Value.ref b] s0) μ 18 [(0, .ref b), (1, .ref (G.ad 0)), (2, .ref (G.ad 82)), (3, .int x3)] []) (x3 : Int32) (μ : Mu) (hF : f_law_b451 k18 xs L x3 μ = some (1, μf)) : XX G p l e room_1 s0 m #[Value.ref b] below meth c 4 600000 7302250 (lw_Z below #[Value.ref b] s0) μ 451 [(0, .ref b), (1, .ref (G.ad 0)), (2, .ref (G.ad 82)), (3, .int x3)] [] := by
  unfold f_law_b451 at hF
  refine x_aload_n C 1 dL_law_451 rfl rfl ?_
  refine x_aload_n C 0 dL_law_452 rfl rfl ?_
  refine x_iload_n C 3 dL_law_453 rfl rfl ?_
  refine x_iconst (v := 1) C dL_law_454 (by decide) ?_
  refine x_iadd C dL_law_455 ?_
  obtain ⟨hi1, hF⟩ := f_chk hF
  refine x_scr C hX hi1 dL_law_456 ?_
  refine x_aload_n C 0 dL_law_457 rfl rfl ?_
  refine x_iload_n C 3 dL_law_458 rfl rfl ?_
  refine x_iconst (v := 2) C dL_law_459 (by decide) ?_
  refine x_iadd C dL_law_460 ?_
  obtain ⟨hi2, hF⟩ := f_chk hF
  refine x_scr C hX hi2 dL_law_461 ?_
  obtain ⟨q3, hq3, hF⟩ := f_bind hF
  refine x_cLi (rest := []) C (c_X7_page l C.2.2.2.2.2.2.2.2 (xs (ix (x3 + 1))) (xs (ix (x3 + 2))) μ hq3) cw_L_46 sh_0 rfl rfl ⟨by decide, by decide⟩ rfl rfl (Nat.le_of_ble_eq_true rfl) dL_law_462 ?_
  refine x_aload_n C 2 dL_law_465 rfl rfl ?_
  refine x_aload_n C 0 dL_law_466 rfl rfl ?_
  refine x_iload_n C 3 dL_law_467 rfl rfl ?_
  refine x_iconst (v := 1) C dL_law_468 (by decide) ?_
  refine x_iadd C dL_law_469 ?_
  refine x_scr C hX hi1 dL_law_470 ?_
  refine x_aload_n C 0 dL_law_471 rfl rfl ?_
  refine x_iload_n C 3 dL_law_472 rfl rfl ?_
  refine x_iconst (v := 2) C dL_law_473 (by decide) ?_
  refine x_iadd C dL_law_474 ?_
  refine x_scr C hX hi2 dL_law_475 ?_
  obtain ⟨q4, hq4, hF⟩ := f_bind hF
  refine x_cLi (rest := [.int q3]) C (c_X8_page l C.2.2.2.2.2.2.2.2 (xs (ix (x3 + 1))) (xs (ix (x3 + 2))) μ hq4) cw_L_49 sh_82 rfl rfl ⟨by decide, by decide⟩ rfl rfl (Nat.le_of_ble_eq_true rfl) dL_law_476 ?_
  refine x_icmp_eq (tgt := 1044) C dL_law_479 (by decide) (fun hc => ?_) (fun hc => ?_)
  · replace hF := f_t hc hF
    exact x_pick [(0, .ref b), (1, .ref (G.ad 0)), (2, .ref (G.ad 82)), (3, .int x3)] [0, 1, 2, 3] rfl (w_law_b1044 C hX hk18 x3 μ hF)
  · replace hF := f_f hc hF
    refine x_iconst (v := 0) C dL_law_482 (by decide) ?_
    exact x_lret C hX dL_law_483 (Prod.mk.inj (Option.some.inj hF)).1
set_option maxHeartbeats 4000000 in
theorem w_law_b586 {G : Gl} {p : Program} {l : Launch} {e : Env} {s0 : State} {m : MethodId} {b : Nat} {below : List Frame} {meth : Method} {c : Code} {L : Nat} {xs : Nat → Int32} (C : Cx G p s0 m #[Value.ref b] meth c cL_law 4 RL ret) (hX : LX b L xs G s0) {μf : Mu}  {k18 : Int32 → Mu → Option (Int32 × Mu)} (hk18 : ∀ (x3 : Int32) (μ : Mu), k18 x3 μ = some (1, μf) → XX G p l e room_1 s0 m #[Value.ref b] below meth c 4 600000 7302250 (lw_Z below #[Value.ref b] s0) μ 18 [(0, .ref b), (1, .ref (G.ad 0)), (2, .ref (G.ad 82)), (3, .int x3)] []) (x3 : Int32) (μ : Mu) (hF : f_law_b586 k18 xs L x3 μ = some (1, μf)) : XX G p l e room_1 s0 m #[Value.ref b] below meth c 4 600000 7302250 (lw_Z below #[Value.ref b] s0) μ 586 [(0, .ref b), (1, .ref (G.ad 0)), (2, .ref (G.ad 82)), (3, .int x3)] [] := by
  unfold f_law_b586 at hF
  refine x_aload_n C 1 dL_law_586 rfl rfl ?_
  refine x_aload_n C 0 dL_law_587 rfl rfl ?_
  refine x_iload_n C 3 dL_law_588 rfl rfl ?_
  refine x_iconst (v := 1) C dL_law_589 (by decide) ?_
  refine x_iadd C dL_law_590 ?_
  obtain ⟨hi1, hF⟩ := f_chk hF
  refine x_scr C hX hi1 dL_law_591 ?_
  refine x_aload_n C 0 dL_law_592 rfl rfl ?_
  refine x_iload_n C 3 dL_law_593 rfl rfl ?_
  refine x_iconst (v := 2) C dL_law_594 (by decide) ?_
  refine x_iadd C dL_law_595 ?_
  obtain ⟨hi2, hF⟩ := f_chk hF
  refine x_scr C hX hi2 dL_law_596 ?_
  refine x_aload_n C 0 dL_law_597 rfl rfl ?_
  refine x_iload_n C 3 dL_law_598 rfl rfl ?_
  refine x_iconst (v := 3) C dL_law_599 (by decide) ?_
  refine x_iadd C dL_law_600 ?_
  obtain ⟨hi3, hF⟩ := f_chk hF
  refine x_scr C hX hi3 dL_law_601 ?_
  obtain ⟨q4, hq4, hF⟩ := f_bind hF
  refine x_cLi (rest := []) C (c_X7_call l C.2.2.2.2.2.2.2.2 (xs (ix (x3 + 1))) (xs (ix (x3 + 2))) (xs (ix (x3 + 3))) μ hq4) cw_L_66 sh_0 rfl rfl ⟨by decide, by decide⟩ rfl rfl (Nat.le_of_ble_eq_true rfl) dL_law_602 ?_
  refine x_aload_n C 2 dL_law_605 rfl rfl ?_
  refine x_aload_n C 0 dL_law_606 rfl rfl ?_
  refine x_iload_n C 3 dL_law_607 rfl rfl ?_
  refine x_iconst (v := 1) C dL_law_608 (by decide) ?_
  refine x_iadd C dL_law_609 ?_
  refine x_scr C hX hi1 dL_law_610 ?_
  refine x_aload_n C 0 dL_law_611 rfl rfl ?_
  refine x_iload_n C 3 dL_law_612 rfl rfl ?_
  refine x_iconst (v := 2) C dL_law_613 (by decide) ?_
  refine x_iadd C dL_law_614 ?_
  refine x_scr C hX hi2 dL_law_615 ?_
  refine x_aload_n C 0 dL_law_616 rfl rfl ?_
  refine x_iload_n C 3 dL_law_617 rfl rfl ?_
  refine x_iconst (v := 3) C dL_law_618 (by decide) ?_
  refine x_iadd C dL_law_619 ?_
  refine x_scr C hX hi3 dL_law_620 ?_
  obtain ⟨q5, hq5, hF⟩ := f_bind hF
  refine x_cLi (rest := [.int q4.1]) C (c_X8_call l C.2.2.2.2.2.2.2.2 (xs (ix (x3 + 1))) (xs (ix (x3 + 2))) (xs (ix (x3 + 3))) q4.2 hq5) cw_L_69 sh_82 rfl rfl ⟨by decide, by decide⟩ rfl rfl (Nat.le_of_ble_eq_true rfl) dL_law_621 ?_
  refine x_icmp_eq (tgt := 1044) C dL_law_624 (by decide) (fun hc => ?_) (fun hc => ?_)
  · replace hF := f_t hc hF
    exact x_pick [(0, .ref b), (1, .ref (G.ad 0)), (2, .ref (G.ad 82)), (3, .int x3)] [0, 1, 2, 3] rfl (w_law_b1044 C hX hk18 x3 q5.2 hF)
  · replace hF := f_f hc hF
    refine x_iconst (v := 0) C dL_law_627 (by decide) ?_
    exact x_lret C hX dL_law_628 (Prod.mk.inj (Option.some.inj hF)).1
set_option maxHeartbeats 4000000 in
theorem w_law_b718 {G : Gl} {p : Program} {l : Launch} {e : Env} {s0 : State} {m : MethodId} {b : Nat} {below : List Frame} {meth : Method} {c : Code} {L : Nat} {xs : Nat → Int32} (C : Cx G p s0 m #[Value.ref b] meth c cL_law 4 RL ret) (hX : LX b L xs G s0) {μf : Mu}  {k18 : Int32 → Mu → Option (Int32 × Mu)} (hk18 : ∀ (x3 : Int32) (μ : Mu), k18 x3 μ = some (1, μf) → XX G p l e room_1 s0 m #[Value.ref b] below meth c 4 600000 7302250 (lw_Z below #[Value.ref b] s0) μ 18 [(0, .ref b), (1, .ref (G.ad 0)), (2, .ref (G.ad 82)), (3, .int x3)] []) (x3 : Int32) (μ : Mu) (hF : f_law_b718 k18 xs L x3 μ = some (1, μf)) : XX G p l e room_1 s0 m #[Value.ref b] below meth c 4 600000 7302250 (lw_Z below #[Value.ref b] s0) μ 718 [(0, .ref b), (1, .ref (G.ad 0)), (2, .ref (G.ad 82)), (3, .int x3)] [] := by
  unfold f_law_b718 at hF
  refine x_aload_n C 1 dL_law_718 rfl rfl ?_
  refine x_aload_n C 0 dL_law_719 rfl rfl ?_
  refine x_iload_n C 3 dL_law_720 rfl rfl ?_
  refine x_iconst (v := 1) C dL_law_721 (by decide) ?_
  refine x_iadd C dL_law_722 ?_
  obtain ⟨hi1, hF⟩ := f_chk hF
  refine x_scr C hX hi1 dL_law_723 ?_
  refine x_aload_n C 0 dL_law_724 rfl rfl ?_
  refine x_iload_n C 3 dL_law_725 rfl rfl ?_
  refine x_iconst (v := 2) C dL_law_726 (by decide) ?_
  refine x_iadd C dL_law_727 ?_
  obtain ⟨hi2, hF⟩ := f_chk hF
  refine x_scr C hX hi2 dL_law_728 ?_
  refine x_aload_n C 0 dL_law_729 rfl rfl ?_
  refine x_iload_n C 3 dL_law_730 rfl rfl ?_
  refine x_iconst (v := 3) C dL_law_731 (by decide) ?_
  refine x_iadd C dL_law_732 ?_
  obtain ⟨hi3, hF⟩ := f_chk hF
  refine x_scr C hX hi3 dL_law_733 ?_
  obtain ⟨q4, hq4, hF⟩ := f_bind hF
  refine x_cLi (rest := []) C (c_X7_piece l C.2.2.2.2.2.2.2.2 (xs (ix (x3 + 1))) (xs (ix (x3 + 2))) (xs (ix (x3 + 3))) μ hq4) cw_L_82 sh_0 rfl rfl ⟨by decide, by decide⟩ rfl rfl (Nat.le_of_ble_eq_true rfl) dL_law_734 ?_
  refine x_aload_n C 2 dL_law_737 rfl rfl ?_
  refine x_aload_n C 0 dL_law_738 rfl rfl ?_
  refine x_iload_n C 3 dL_law_739 rfl rfl ?_
  refine x_iconst (v := 1) C dL_law_740 (by decide) ?_
  refine x_iadd C dL_law_741 ?_
  refine x_scr C hX hi1 dL_law_742 ?_
  refine x_aload_n C 0 dL_law_743 rfl rfl ?_
  refine x_iload_n C 3 dL_law_744 rfl rfl ?_
  refine x_iconst (v := 2) C dL_law_745 (by decide) ?_
  refine x_iadd C dL_law_746 ?_
  refine x_scr C hX hi2 dL_law_747 ?_
  refine x_aload_n C 0 dL_law_748 rfl rfl ?_
  refine x_iload_n C 3 dL_law_749 rfl rfl ?_
  refine x_iconst (v := 3) C dL_law_750 (by decide) ?_
  refine x_iadd C dL_law_751 ?_
  refine x_scr C hX hi3 dL_law_752 ?_
  obtain ⟨q5, hq5, hF⟩ := f_bind hF
  refine x_cLi (rest := [.int q4.1]) C (c_X8_piece l C.2.2.2.2.2.2.2.2 (xs (ix (x3 + 1))) (xs (ix (x3 + 2))) (xs (ix (x3 + 3))) q4.2 hq5) cw_L_85 sh_82 rfl rfl ⟨by decide, by decide⟩ rfl rfl (Nat.le_of_ble_eq_true rfl) dL_law_753 ?_
  refine x_icmp_eq (tgt := 1044) C dL_law_756 (by decide) (fun hc => ?_) (fun hc => ?_)
  · replace hF := f_t hc hF
    exact x_pick [(0, .ref b), (1, .ref (G.ad 0)), (2, .ref (G.ad 82)), (3, .int x3)] [0, 1, 2, 3] rfl (w_law_b1044 C hX hk18 x3 q5.2 hF)
  · replace hF := f_f hc hF
    refine x_iconst (v := 0) C dL_law_759 (by decide) ?_
    exact x_lret C hX dL_law_760 (Prod.mk.inj (Option.some.inj hF)).1
set_option maxHeartbeats 4000000 in
theorem w_law_b975 {G : Gl} {p : Program} {l : Launch} {e : Env} {s0 : State} {m : MethodId} {b : Nat} {below : List Frame} {meth : Method} {c : Code} {L : Nat} {xs : Nat → Int32} (C : Cx G p s0 m #[Value.ref b] meth c cL_law 4 RL ret) (hX : LX b L xs G s0) {μf : Mu}  {k18 : Int32 → Mu → Option (Int32 × Mu)} (hk18 : ∀ (x3 : Int32) (μ : Mu), k18 x3 μ = some (1, μf) → XX G p l e room_1 s0 m #[Value.ref b] below meth c 4 600000 7302250 (lw_Z below #[Value.ref b] s0) μ 18 [(0, .ref b), (1, .ref (G.ad 0)), (2, .ref (G.ad 82)), (3, .int x3)] []) (x3 : Int32) (μ : Mu) (hF : f_law_b975 k18 xs L x3 μ = some (1, μf)) : XX G p l e room_1 s0 m #[Value.ref b] below meth c 4 600000 7302250 (lw_Z below #[Value.ref b] s0) μ 975 [(0, .ref b), (1, .ref (G.ad 0)), (2, .ref (G.ad 82)), (3, .int x3)] [] := by
  unfold f_law_b975 at hF
  refine x_aload_n C 1 dL_law_975 rfl rfl ?_
  refine x_aload_n C 0 dL_law_976 rfl rfl ?_
  refine x_iload_n C 3 dL_law_977 rfl rfl ?_
  refine x_iconst (v := 1) C dL_law_978 (by decide) ?_
  refine x_iadd C dL_law_979 ?_
  obtain ⟨hi1, hF⟩ := f_chk hF
  refine x_scr C hX hi1 dL_law_980 ?_
  refine x_aload_n C 0 dL_law_981 rfl rfl ?_
  refine x_iload_n C 3 dL_law_982 rfl rfl ?_
  refine x_iconst (v := 2) C dL_law_983 (by decide) ?_
  refine x_iadd C dL_law_984 ?_
  obtain ⟨hi2, hF⟩ := f_chk hF
  refine x_scr C hX hi2 dL_law_985 ?_
  obtain ⟨q3, hq3, hF⟩ := f_bind hF
  refine x_cLi (rest := []) C (c_X7_together l C.2.2.2.2.2.2.2.2 (xs (ix (x3 + 1))) (xs (ix (x3 + 2))) μ hq3) cw_L_122 sh_0 rfl rfl ⟨by decide, by decide⟩ rfl rfl (Nat.le_of_ble_eq_true rfl) dL_law_986 ?_
  refine x_aload_n C 2 dL_law_989 rfl rfl ?_
  refine x_aload_n C 0 dL_law_990 rfl rfl ?_
  refine x_iload_n C 3 dL_law_991 rfl rfl ?_
  refine x_iconst (v := 1) C dL_law_992 (by decide) ?_
  refine x_iadd C dL_law_993 ?_
  refine x_scr C hX hi1 dL_law_994 ?_
  refine x_aload_n C 0 dL_law_995 rfl rfl ?_
  refine x_iload_n C 3 dL_law_996 rfl rfl ?_
  refine x_iconst (v := 2) C dL_law_997 (by decide) ?_
  refine x_iadd C dL_law_998 ?_
  refine x_scr C hX hi2 dL_law_999 ?_
  obtain ⟨q4, hq4, hF⟩ := f_bind hF
  refine x_cLi (rest := [.int q3.1]) C (c_X8_together l C.2.2.2.2.2.2.2.2 (xs (ix (x3 + 1))) (xs (ix (x3 + 2))) q3.2 hq4) cw_L_125 sh_82 rfl rfl ⟨by decide, by decide⟩ rfl rfl (Nat.le_of_ble_eq_true rfl) dL_law_1000 ?_
  refine x_icmp_eq (tgt := 1044) C dL_law_1003 (by decide) (fun hc => ?_) (fun hc => ?_)
  · replace hF := f_t hc hF
    exact x_pick [(0, .ref b), (1, .ref (G.ad 0)), (2, .ref (G.ad 82)), (3, .int x3)] [0, 1, 2, 3] rfl (w_law_b1044 C hX hk18 x3 q4.2 hF)
  · replace hF := f_f hc hF
    refine x_iconst (v := 0) C dL_law_1006 (by decide) ?_
    exact x_lret C hX dL_law_1007 (Prod.mk.inj (Option.some.inj hF)).1
set_option maxHeartbeats 4000000 in
theorem w_law_b847 {G : Gl} {p : Program} {l : Launch} {e : Env} {s0 : State} {m : MethodId} {b : Nat} {below : List Frame} {meth : Method} {c : Code} {L : Nat} {xs : Nat → Int32} (C : Cx G p s0 m #[Value.ref b] meth c cL_law 4 RL ret) (hX : LX b L xs G s0) {μf : Mu}  {k18 : Int32 → Mu → Option (Int32 × Mu)} (hk18 : ∀ (x3 : Int32) (μ : Mu), k18 x3 μ = some (1, μf) → XX G p l e room_1 s0 m #[Value.ref b] below meth c 4 600000 7302250 (lw_Z below #[Value.ref b] s0) μ 18 [(0, .ref b), (1, .ref (G.ad 0)), (2, .ref (G.ad 82)), (3, .int x3)] []) (x3 : Int32) (μ : Mu) (hF : f_law_b847 k18 xs L x3 μ = some (1, μf)) : XX G p l e room_1 s0 m #[Value.ref b] below meth c 4 600000 7302250 (lw_Z below #[Value.ref b] s0) μ 847 [(0, .ref b), (1, .ref (G.ad 0)), (2, .ref (G.ad 82)), (3, .int x3)] [] := by
  unfold f_law_b847 at hF
  refine x_aload_n C 1 dL_law_847 rfl rfl ?_
  obtain ⟨q1, hq1, hF⟩ := f_bind hF
  refine x_cLi (rest := []) C (c_X7_read l C.2.2.2.2.2.2.2.2 μ hq1) cw_L_97 sh_0 rfl rfl ⟨by decide, by decide⟩ rfl rfl (Nat.le_of_ble_eq_true rfl) dL_law_848 ?_
  refine x_aload_n C 2 dL_law_851 rfl rfl ?_
  obtain ⟨q2, hq2, hF⟩ := f_bind hF
  refine x_cLi (rest := [.int q1.1]) C (c_X8_read l C.2.2.2.2.2.2.2.2 q1.2 hq2) cw_L_101 sh_82 rfl rfl ⟨by decide, by decide⟩ rfl rfl (Nat.le_of_ble_eq_true rfl) dL_law_852 ?_
  refine x_icmp_eq (tgt := 1044) C dL_law_855 (by decide) (fun hc => ?_) (fun hc => ?_)
  · replace hF := f_t hc hF
    exact x_pick [(0, .ref b), (1, .ref (G.ad 0)), (2, .ref (G.ad 82)), (3, .int x3)] [0, 1, 2, 3] rfl (w_law_b1044 C hX hk18 x3 q2.2 hF)
  · replace hF := f_f hc hF
    refine x_iconst (v := 0) C dL_law_858 (by decide) ?_
    exact x_lret C hX dL_law_859 (Prod.mk.inj (Option.some.inj hF)).1
set_option maxHeartbeats 4000000 in
theorem w_law_b860 {G : Gl} {p : Program} {l : Launch} {e : Env} {s0 : State} {m : MethodId} {b : Nat} {below : List Frame} {meth : Method} {c : Code} {L : Nat} {xs : Nat → Int32} (C : Cx G p s0 m #[Value.ref b] meth c cL_law 4 RL ret) (hX : LX b L xs G s0) {μf : Mu}  {k18 : Int32 → Mu → Option (Int32 × Mu)} (hk18 : ∀ (x3 : Int32) (μ : Mu), k18 x3 μ = some (1, μf) → XX G p l e room_1 s0 m #[Value.ref b] below meth c 4 600000 7302250 (lw_Z below #[Value.ref b] s0) μ 18 [(0, .ref b), (1, .ref (G.ad 0)), (2, .ref (G.ad 82)), (3, .int x3)] []) (x3 : Int32) (μ : Mu) (hF : f_law_b860 k18 xs L x3 μ = some (1, μf)) : XX G p l e room_1 s0 m #[Value.ref b] below meth c 4 600000 7302250 (lw_Z below #[Value.ref b] s0) μ 860 [(0, .ref b), (1, .ref (G.ad 0)), (2, .ref (G.ad 82)), (3, .int x3)] [] := by
  unfold f_law_b860 at hF
  refine x_aload_n C 1 dL_law_860 rfl rfl ?_
  refine x_cLi (rest := []) C (c_X7_fault l C.2.2.2.2.2.2.2.2 μ) cw_L_102 sh_0 rfl rfl ⟨by decide, by decide⟩ rfl rfl (Nat.le_of_ble_eq_true rfl) dL_law_861 ?_
  refine x_aload_n C 2 dL_law_864 rfl rfl ?_
  refine x_cLi (rest := [.int (f_X7_fault μ)]) C (c_X8_fault l C.2.2.2.2.2.2.2.2 μ) cw_L_105 sh_82 rfl rfl ⟨by decide, by decide⟩ rfl rfl (Nat.le_of_ble_eq_true rfl) dL_law_865 ?_
  refine x_icmp_eq (tgt := 1044) C dL_law_868 (by decide) (fun hc => ?_) (fun hc => ?_)
  · replace hF := f_t hc hF
    exact x_pick [(0, .ref b), (1, .ref (G.ad 0)), (2, .ref (G.ad 82)), (3, .int x3)] [0, 1, 2, 3] rfl (w_law_b1044 C hX hk18 x3 μ hF)
  · replace hF := f_f hc hF
    refine x_iconst (v := 0) C dL_law_871 (by decide) ?_
    exact x_lret C hX dL_law_872 (Prod.mk.inj (Option.some.inj hF)).1
set_option maxHeartbeats 4000000 in
theorem w_law_b223 {G : Gl} {p : Program} {l : Launch} {e : Env} {s0 : State} {m : MethodId} {b : Nat} {below : List Frame} {meth : Method} {c : Code} {L : Nat} {xs : Nat → Int32} (C : Cx G p s0 m #[Value.ref b] meth c cL_law 4 RL ret) (hX : LX b L xs G s0) {μf : Mu}  {k18 : Int32 → Mu → Option (Int32 × Mu)} (hk18 : ∀ (x3 : Int32) (μ : Mu), k18 x3 μ = some (1, μf) → XX G p l e room_1 s0 m #[Value.ref b] below meth c 4 600000 7302250 (lw_Z below #[Value.ref b] s0) μ 18 [(0, .ref b), (1, .ref (G.ad 0)), (2, .ref (G.ad 82)), (3, .int x3)] []) (x3 : Int32) (μ : Mu) (hF : f_law_b223 k18 xs L x3 μ = some (1, μf)) : XX G p l e room_1 s0 m #[Value.ref b] below meth c 4 600000 7302250 (lw_Z below #[Value.ref b] s0) μ 223 [(0, .ref b), (1, .ref (G.ad 0)), (2, .ref (G.ad 82)), (3, .int x3)] [] := by
  unfold f_law_b223 at hF
  refine x_aload_n C 1 dL_law_223 rfl rfl ?_
  refine x_aload_n C 0 dL_law_224 rfl rfl ?_
  refine x_iload_n C 3 dL_law_225 rfl rfl ?_
  refine x_iconst (v := 1) C dL_law_226 (by decide) ?_
  refine x_iadd C dL_law_227 ?_
  obtain ⟨hi1, hF⟩ := f_chk hF
  refine x_scr C hX hi1 dL_law_228 ?_
  refine x_aload_n C 0 dL_law_229 rfl rfl ?_
  refine x_iload_n C 3 dL_law_230 rfl rfl ?_
  refine x_iconst (v := 2) C dL_law_231 (by decide) ?_
  refine x_iadd C dL_law_232 ?_
  obtain ⟨hi2, hF⟩ := f_chk hF
  refine x_scr C hX hi2 dL_law_233 ?_
  refine x_aload_n C 0 dL_law_234 rfl rfl ?_
  refine x_iload_n C 3 dL_law_235 rfl rfl ?_
  refine x_iconst (v := 3) C dL_law_236 (by decide) ?_
  refine x_iadd C dL_law_237 ?_
  obtain ⟨hi3, hF⟩ := f_chk hF
  refine x_scr C hX hi3 dL_law_238 ?_
  refine x_aload_n C 0 dL_law_239 rfl rfl ?_
  refine x_iload_n C 3 dL_law_240 rfl rfl ?_
  refine x_iconst (v := 4) C dL_law_241 (by decide) ?_
  refine x_iadd C dL_law_242 ?_
  obtain ⟨hi4, hF⟩ := f_chk hF
  refine x_scr C hX hi4 dL_law_243 ?_
  obtain ⟨q5, hq5, hF⟩ := f_bind hF
  refine x_cLi (rest := []) C (c_X7_author l C.2.2.2.2.2.2.2.2 (xs (ix (x3 + 1))) (xs (ix (x3 + 2))) (xs (ix (x3 + 3))) (xs (ix (x3 + 4))) μ hq5) cw_L_18 sh_0 rfl rfl ⟨by decide, by decide⟩ rfl rfl (Nat.le_of_ble_eq_true rfl) dL_law_244 ?_
  refine x_aload_n C 2 dL_law_247 rfl rfl ?_
  refine x_aload_n C 0 dL_law_248 rfl rfl ?_
  refine x_iload_n C 3 dL_law_249 rfl rfl ?_
  refine x_iconst (v := 1) C dL_law_250 (by decide) ?_
  refine x_iadd C dL_law_251 ?_
  refine x_scr C hX hi1 dL_law_252 ?_
  refine x_aload_n C 0 dL_law_253 rfl rfl ?_
  refine x_iload_n C 3 dL_law_254 rfl rfl ?_
  refine x_iconst (v := 2) C dL_law_255 (by decide) ?_
  refine x_iadd C dL_law_256 ?_
  refine x_scr C hX hi2 dL_law_257 ?_
  refine x_aload_n C 0 dL_law_258 rfl rfl ?_
  refine x_iload_n C 3 dL_law_259 rfl rfl ?_
  refine x_iconst (v := 3) C dL_law_260 (by decide) ?_
  refine x_iadd C dL_law_261 ?_
  refine x_scr C hX hi3 dL_law_262 ?_
  refine x_aload_n C 0 dL_law_263 rfl rfl ?_
  refine x_iload_n C 3 dL_law_264 rfl rfl ?_
  refine x_iconst (v := 4) C dL_law_265 (by decide) ?_
  refine x_iadd C dL_law_266 ?_
  refine x_scr C hX hi4 dL_law_267 ?_
  obtain ⟨q6, hq6, hF⟩ := f_bind hF
  refine x_cLi (rest := [.int q5.1]) C (c_X8_author l C.2.2.2.2.2.2.2.2 (xs (ix (x3 + 1))) (xs (ix (x3 + 2))) (xs (ix (x3 + 3))) (xs (ix (x3 + 4))) q5.2 hq6) cw_L_22 sh_82 rfl rfl ⟨by decide, by decide⟩ rfl rfl (Nat.le_of_ble_eq_true rfl) dL_law_268 ?_
  refine x_icmp_eq (tgt := 1044) C dL_law_271 (by decide) (fun hc => ?_) (fun hc => ?_)
  · replace hF := f_t hc hF
    exact x_pick [(0, .ref b), (1, .ref (G.ad 0)), (2, .ref (G.ad 82)), (3, .int x3)] [0, 1, 2, 3] rfl (w_law_b1044 C hX hk18 x3 q6.2 hF)
  · replace hF := f_f hc hF
    refine x_iconst (v := 0) C dL_law_274 (by decide) ?_
    exact x_lret C hX dL_law_275 (Prod.mk.inj (Option.some.inj hF)).1
set_option maxHeartbeats 4000000 in
theorem w_law_b352 {G : Gl} {p : Program} {l : Launch} {e : Env} {s0 : State} {m : MethodId} {b : Nat} {below : List Frame} {meth : Method} {c : Code} {L : Nat} {xs : Nat → Int32} (C : Cx G p s0 m #[Value.ref b] meth c cL_law 4 RL ret) (hX : LX b L xs G s0) {μf : Mu}  {k18 : Int32 → Mu → Option (Int32 × Mu)} (hk18 : ∀ (x3 : Int32) (μ : Mu), k18 x3 μ = some (1, μf) → XX G p l e room_1 s0 m #[Value.ref b] below meth c 4 600000 7302250 (lw_Z below #[Value.ref b] s0) μ 18 [(0, .ref b), (1, .ref (G.ad 0)), (2, .ref (G.ad 82)), (3, .int x3)] []) (x3 : Int32) (μ : Mu) (hF : f_law_b352 k18 xs L x3 μ = some (1, μf)) : XX G p l e room_1 s0 m #[Value.ref b] below meth c 4 600000 7302250 (lw_Z below #[Value.ref b] s0) μ 352 [(0, .ref b), (1, .ref (G.ad 0)), (2, .ref (G.ad 82)), (3, .int x3)] [] := by
  unfold f_law_b352 at hF
  refine x_aload_n C 1 dL_law_352 rfl rfl ?_
  refine x_aload_n C 0 dL_law_353 rfl rfl ?_
  refine x_iload_n C 3 dL_law_354 rfl rfl ?_
  refine x_iconst (v := 1) C dL_law_355 (by decide) ?_
  refine x_iadd C dL_law_356 ?_
  obtain ⟨hi1, hF⟩ := f_chk hF
  refine x_scr C hX hi1 dL_law_357 ?_
  obtain ⟨q2, hq2, hF⟩ := f_bind hF
  refine x_cLi (rest := []) C (c_X7_part l C.2.2.2.2.2.2.2.2 (xs (ix (x3 + 1))) μ hq2) cw_L_33 sh_0 rfl rfl ⟨by decide, by decide⟩ rfl rfl (Nat.le_of_ble_eq_true rfl) dL_law_358 ?_
  refine x_aload_n C 2 dL_law_361 rfl rfl ?_
  refine x_aload_n C 0 dL_law_362 rfl rfl ?_
  refine x_iload_n C 3 dL_law_363 rfl rfl ?_
  refine x_iconst (v := 1) C dL_law_364 (by decide) ?_
  refine x_iadd C dL_law_365 ?_
  refine x_scr C hX hi1 dL_law_366 ?_
  obtain ⟨q3, hq3, hF⟩ := f_bind hF
  refine x_cLi (rest := [.int q2.1]) C (c_X8_part l C.2.2.2.2.2.2.2.2 (xs (ix (x3 + 1))) q2.2 hq3) cw_L_37 sh_82 rfl rfl ⟨by decide, by decide⟩ rfl rfl (Nat.le_of_ble_eq_true rfl) dL_law_367 ?_
  refine x_icmp_eq (tgt := 1044) C dL_law_370 (by decide) (fun hc => ?_) (fun hc => ?_)
  · replace hF := f_t hc hF
    exact x_pick [(0, .ref b), (1, .ref (G.ad 0)), (2, .ref (G.ad 82)), (3, .int x3)] [0, 1, 2, 3] rfl (w_law_b1044 C hX hk18 x3 q3.2 hF)
  · replace hF := f_f hc hF
    refine x_iconst (v := 0) C dL_law_373 (by decide) ?_
    exact x_lret C hX dL_law_374 (Prod.mk.inj (Option.some.inj hF)).1
set_option maxHeartbeats 4000000 in
theorem w_law_b484 {G : Gl} {p : Program} {l : Launch} {e : Env} {s0 : State} {m : MethodId} {b : Nat} {below : List Frame} {meth : Method} {c : Code} {L : Nat} {xs : Nat → Int32} (C : Cx G p s0 m #[Value.ref b] meth c cL_law 4 RL ret) (hX : LX b L xs G s0) {μf : Mu}  {k18 : Int32 → Mu → Option (Int32 × Mu)} (hk18 : ∀ (x3 : Int32) (μ : Mu), k18 x3 μ = some (1, μf) → XX G p l e room_1 s0 m #[Value.ref b] below meth c 4 600000 7302250 (lw_Z below #[Value.ref b] s0) μ 18 [(0, .ref b), (1, .ref (G.ad 0)), (2, .ref (G.ad 82)), (3, .int x3)] []) (x3 : Int32) (μ : Mu) (hF : f_law_b484 k18 xs L x3 μ = some (1, μf)) : XX G p l e room_1 s0 m #[Value.ref b] below meth c 4 600000 7302250 (lw_Z below #[Value.ref b] s0) μ 484 [(0, .ref b), (1, .ref (G.ad 0)), (2, .ref (G.ad 82)), (3, .int x3)] [] := by
  unfold f_law_b484 at hF
  refine x_aload_n C 1 dL_law_484 rfl rfl ?_
  refine x_aload_n C 0 dL_law_485 rfl rfl ?_
  refine x_iload_n C 3 dL_law_486 rfl rfl ?_
  refine x_iconst (v := 1) C dL_law_487 (by decide) ?_
  refine x_iadd C dL_law_488 ?_
  obtain ⟨hi1, hF⟩ := f_chk hF
  refine x_scr C hX hi1 dL_law_489 ?_
  obtain ⟨q2, hq2, hF⟩ := f_bind hF
  refine x_cLi (rest := []) C (c_X7_list l C.2.2.2.2.2.2.2.2 (xs (ix (x3 + 1))) μ hq2) cw_L_50 sh_0 rfl rfl ⟨by decide, by decide⟩ rfl rfl (Nat.le_of_ble_eq_true rfl) dL_law_490 ?_
  refine x_aload_n C 2 dL_law_493 rfl rfl ?_
  refine x_aload_n C 0 dL_law_494 rfl rfl ?_
  refine x_iload_n C 3 dL_law_495 rfl rfl ?_
  refine x_iconst (v := 1) C dL_law_496 (by decide) ?_
  refine x_iadd C dL_law_497 ?_
  refine x_scr C hX hi1 dL_law_498 ?_
  obtain ⟨q3, hq3, hF⟩ := f_bind hF
  refine x_cLi (rest := [.int q2.1]) C (c_X8_list l C.2.2.2.2.2.2.2.2 (xs (ix (x3 + 1))) q2.2 hq3) cw_L_53 sh_82 rfl rfl ⟨by decide, by decide⟩ rfl rfl (Nat.le_of_ble_eq_true rfl) dL_law_499 ?_
  refine x_icmp_eq (tgt := 1044) C dL_law_502 (by decide) (fun hc => ?_) (fun hc => ?_)
  · replace hF := f_t hc hF
    exact x_pick [(0, .ref b), (1, .ref (G.ad 0)), (2, .ref (G.ad 82)), (3, .int x3)] [0, 1, 2, 3] rfl (w_law_b1044 C hX hk18 x3 q3.2 hF)
  · replace hF := f_f hc hF
    refine x_iconst (v := 0) C dL_law_505 (by decide) ?_
    exact x_lret C hX dL_law_506 (Prod.mk.inj (Option.some.inj hF)).1
set_option maxHeartbeats 4000000 in
theorem w_law_b873 {G : Gl} {p : Program} {l : Launch} {e : Env} {s0 : State} {m : MethodId} {b : Nat} {below : List Frame} {meth : Method} {c : Code} {L : Nat} {xs : Nat → Int32} (C : Cx G p s0 m #[Value.ref b] meth c cL_law 4 RL ret) (hX : LX b L xs G s0) {μf : Mu}  {k18 : Int32 → Mu → Option (Int32 × Mu)} (hk18 : ∀ (x3 : Int32) (μ : Mu), k18 x3 μ = some (1, μf) → XX G p l e room_1 s0 m #[Value.ref b] below meth c 4 600000 7302250 (lw_Z below #[Value.ref b] s0) μ 18 [(0, .ref b), (1, .ref (G.ad 0)), (2, .ref (G.ad 82)), (3, .int x3)] []) (x3 : Int32) (μ : Mu) (hF : f_law_b873 k18 xs L x3 μ = some (1, μf)) : XX G p l e room_1 s0 m #[Value.ref b] below meth c 4 600000 7302250 (lw_Z below #[Value.ref b] s0) μ 873 [(0, .ref b), (1, .ref (G.ad 0)), (2, .ref (G.ad 82)), (3, .int x3)] [] := by
  unfold f_law_b873 at hF
  refine x_aload_n C 1 dL_law_873 rfl rfl ?_
  refine x_aload_n C 0 dL_law_874 rfl rfl ?_
  refine x_iload_n C 3 dL_law_875 rfl rfl ?_
  refine x_iconst (v := 1) C dL_law_876 (by decide) ?_
  refine x_iadd C dL_law_877 ?_
  obtain ⟨hi1, hF⟩ := f_chk hF
  refine x_scr C hX hi1 dL_law_878 ?_
  obtain ⟨q2, hq2, hF⟩ := f_bind hF
  refine x_cLi (rest := []) C (c_X7_style l C.2.2.2.2.2.2.2.2 (xs (ix (x3 + 1))) μ hq2) cw_L_106 sh_0 rfl rfl ⟨by decide, by decide⟩ rfl rfl (Nat.le_of_ble_eq_true rfl) dL_law_879 ?_
  refine x_aload_n C 2 dL_law_882 rfl rfl ?_
  refine x_aload_n C 0 dL_law_883 rfl rfl ?_
  refine x_iload_n C 3 dL_law_884 rfl rfl ?_
  refine x_iconst (v := 1) C dL_law_885 (by decide) ?_
  refine x_iadd C dL_law_886 ?_
  refine x_scr C hX hi1 dL_law_887 ?_
  obtain ⟨q3, hq3, hF⟩ := f_bind hF
  refine x_cLi (rest := [.int q2]) C (c_X8_style l C.2.2.2.2.2.2.2.2 (xs (ix (x3 + 1))) μ hq3) cw_L_109 sh_82 rfl rfl ⟨by decide, by decide⟩ rfl rfl (Nat.le_of_ble_eq_true rfl) dL_law_888 ?_
  refine x_icmp_eq (tgt := 1044) C dL_law_891 (by decide) (fun hc => ?_) (fun hc => ?_)
  · replace hF := f_t hc hF
    exact x_pick [(0, .ref b), (1, .ref (G.ad 0)), (2, .ref (G.ad 82)), (3, .int x3)] [0, 1, 2, 3] rfl (w_law_b1044 C hX hk18 x3 μ hF)
  · replace hF := f_f hc hF
    refine x_iconst (v := 0) C dL_law_894 (by decide) ?_
    exact x_lret C hX dL_law_895 (Prod.mk.inj (Option.some.inj hF)).1
set_option maxHeartbeats 4000000 in
theorem w_law_b1008 {G : Gl} {p : Program} {l : Launch} {e : Env} {s0 : State} {m : MethodId} {b : Nat} {below : List Frame} {meth : Method} {c : Code} {L : Nat} {xs : Nat → Int32} (C : Cx G p s0 m #[Value.ref b] meth c cL_law 4 RL ret) (hX : LX b L xs G s0) {μf : Mu}  {k18 : Int32 → Mu → Option (Int32 × Mu)} (hk18 : ∀ (x3 : Int32) (μ : Mu), k18 x3 μ = some (1, μf) → XX G p l e room_1 s0 m #[Value.ref b] below meth c 4 600000 7302250 (lw_Z below #[Value.ref b] s0) μ 18 [(0, .ref b), (1, .ref (G.ad 0)), (2, .ref (G.ad 82)), (3, .int x3)] []) (x3 : Int32) (μ : Mu) (hF : f_law_b1008 k18 xs L x3 μ = some (1, μf)) : XX G p l e room_1 s0 m #[Value.ref b] below meth c 4 600000 7302250 (lw_Z below #[Value.ref b] s0) μ 1008 [(0, .ref b), (1, .ref (G.ad 0)), (2, .ref (G.ad 82)), (3, .int x3)] [] := by
  unfold f_law_b1008 at hF
  refine x_aload_n C 1 dL_law_1008 rfl rfl ?_
  obtain ⟨q1, hq1, hF⟩ := f_bind hF
  refine x_cLi (rest := []) C (c_X7_rank l C.2.2.2.2.2.2.2.2 μ hq1) cw_L_126 sh_0 rfl rfl ⟨by decide, by decide⟩ rfl rfl (Nat.le_of_ble_eq_true rfl) dL_law_1009 ?_
  refine x_aload_n C 2 dL_law_1012 rfl rfl ?_
  obtain ⟨q2, hq2, hF⟩ := f_bind hF
  refine x_cLi (rest := [.int q1.1]) C (c_X8_rank l C.2.2.2.2.2.2.2.2 q1.2 hq2) cw_L_129 sh_82 rfl rfl ⟨by decide, by decide⟩ rfl rfl (Nat.le_of_ble_eq_true rfl) dL_law_1013 ?_
  refine x_icmp_eq (tgt := 1044) C dL_law_1016 (by decide) (fun hc => ?_) (fun hc => ?_)
  · replace hF := f_t hc hF
    exact x_pick [(0, .ref b), (1, .ref (G.ad 0)), (2, .ref (G.ad 82)), (3, .int x3)] [0, 1, 2, 3] rfl (w_law_b1044 C hX hk18 x3 q2.2 hF)
  · replace hF := f_f hc hF
    refine x_iconst (v := 0) C dL_law_1019 (by decide) ?_
    exact x_lret C hX dL_law_1020 (Prod.mk.inj (Option.some.inj hF)).1
set_option maxHeartbeats 4000000 in
theorem w_law_b629 {G : Gl} {p : Program} {l : Launch} {e : Env} {s0 : State} {m : MethodId} {b : Nat} {below : List Frame} {meth : Method} {c : Code} {L : Nat} {xs : Nat → Int32} (C : Cx G p s0 m #[Value.ref b] meth c cL_law 4 RL ret) (hX : LX b L xs G s0) {μf : Mu}  {k18 : Int32 → Mu → Option (Int32 × Mu)} (hk18 : ∀ (x3 : Int32) (μ : Mu), k18 x3 μ = some (1, μf) → XX G p l e room_1 s0 m #[Value.ref b] below meth c 4 600000 7302250 (lw_Z below #[Value.ref b] s0) μ 18 [(0, .ref b), (1, .ref (G.ad 0)), (2, .ref (G.ad 82)), (3, .int x3)] []) (x3 : Int32) (μ : Mu) (hF : f_law_b629 k18 xs L x3 μ = some (1, μf)) : XX G p l e room_1 s0 m #[Value.ref b] below meth c 4 600000 7302250 (lw_Z below #[Value.ref b] s0) μ 629 [(0, .ref b), (1, .ref (G.ad 0)), (2, .ref (G.ad 82)), (3, .int x3)] [] := by
  unfold f_law_b629 at hF
  refine x_aload_n C 1 dL_law_629 rfl rfl ?_
  refine x_aload_n C 0 dL_law_630 rfl rfl ?_
  refine x_iload_n C 3 dL_law_631 rfl rfl ?_
  refine x_iconst (v := 1) C dL_law_632 (by decide) ?_
  refine x_iadd C dL_law_633 ?_
  obtain ⟨hi1, hF⟩ := f_chk hF
  refine x_scr C hX hi1 dL_law_634 ?_
  obtain ⟨q2, hq2, hF⟩ := f_bind hF
  refine x_cLi (rest := []) C (c_X7_drop l C.2.2.2.2.2.2.2.2 (xs (ix (x3 + 1))) μ hq2) cw_L_70 sh_0 rfl rfl ⟨by decide, by decide⟩ rfl rfl (Nat.le_of_ble_eq_true rfl) dL_law_635 ?_
  refine x_aload_n C 2 dL_law_638 rfl rfl ?_
  refine x_aload_n C 0 dL_law_639 rfl rfl ?_
  refine x_iload_n C 3 dL_law_640 rfl rfl ?_
  refine x_iconst (v := 1) C dL_law_641 (by decide) ?_
  refine x_iadd C dL_law_642 ?_
  refine x_scr C hX hi1 dL_law_643 ?_
  obtain ⟨q3, hq3, hF⟩ := f_bind hF
  refine x_cLi (rest := [.int q2.1]) C (c_X8_drop l C.2.2.2.2.2.2.2.2 (xs (ix (x3 + 1))) q2.2 hq3) cw_L_73 sh_82 rfl rfl ⟨by decide, by decide⟩ rfl rfl (Nat.le_of_ble_eq_true rfl) dL_law_644 ?_
  refine x_icmp_eq (tgt := 1044) C dL_law_647 (by decide) (fun hc => ?_) (fun hc => ?_)
  · replace hF := f_t hc hF
    exact x_pick [(0, .ref b), (1, .ref (G.ad 0)), (2, .ref (G.ad 82)), (3, .int x3)] [0, 1, 2, 3] rfl (w_law_b1044 C hX hk18 x3 q3.2 hF)
  · replace hF := f_f hc hF
    refine x_iconst (v := 0) C dL_law_650 (by decide) ?_
    exact x_lret C hX dL_law_651 (Prod.mk.inj (Option.some.inj hF)).1
set_option maxHeartbeats 4000000 in
theorem w_law_b375 {G : Gl} {p : Program} {l : Launch} {e : Env} {s0 : State} {m : MethodId} {b : Nat} {below : List Frame} {meth : Method} {c : Code} {L : Nat} {xs : Nat → Int32} (C : Cx G p s0 m #[Value.ref b] meth c cL_law 4 RL ret) (hX : LX b L xs G s0) {μf : Mu}  {k18 : Int32 → Mu → Option (Int32 × Mu)} (hk18 : ∀ (x3 : Int32) (μ : Mu), k18 x3 μ = some (1, μf) → XX G p l e room_1 s0 m #[Value.ref b] below meth c 4 600000 7302250 (lw_Z below #[Value.ref b] s0) μ 18 [(0, .ref b), (1, .ref (G.ad 0)), (2, .ref (G.ad 82)), (3, .int x3)] []) (x3 : Int32) (μ : Mu) (hF : f_law_b375 k18 xs L x3 μ = some (1, μf)) : XX G p l e room_1 s0 m #[Value.ref b] below meth c 4 600000 7302250 (lw_Z below #[Value.ref b] s0) μ 375 [(0, .ref b), (1, .ref (G.ad 0)), (2, .ref (G.ad 82)), (3, .int x3)] [] := by
  unfold f_law_b375 at hF
  refine x_aload_n C 1 dL_law_375 rfl rfl ?_
  refine x_aload_n C 0 dL_law_376 rfl rfl ?_
  refine x_iload_n C 3 dL_law_377 rfl rfl ?_
  refine x_iconst (v := 1) C dL_law_378 (by decide) ?_
  refine x_iadd C dL_law_379 ?_
  obtain ⟨hi1, hF⟩ := f_chk hF
  refine x_scr C hX hi1 dL_law_380 ?_
  refine x_aload_n C 0 dL_law_381 rfl rfl ?_
  refine x_iload_n C 3 dL_law_382 rfl rfl ?_
  refine x_iconst (v := 2) C dL_law_383 (by decide) ?_
  refine x_iadd C dL_law_384 ?_
  obtain ⟨hi2, hF⟩ := f_chk hF
  refine x_scr C hX hi2 dL_law_385 ?_
  obtain ⟨q3, hq3, hF⟩ := f_bind hF
  refine x_cLi (rest := []) C (c_X7_about l C.2.2.2.2.2.2.2.2 (xs (ix (x3 + 1))) (xs (ix (x3 + 2))) μ hq3) cw_L_38 sh_0 rfl rfl ⟨by decide, by decide⟩ rfl rfl (Nat.le_of_ble_eq_true rfl) dL_law_386 ?_
  refine x_aload_n C 2 dL_law_389 rfl rfl ?_
  refine x_aload_n C 0 dL_law_390 rfl rfl ?_
  refine x_iload_n C 3 dL_law_391 rfl rfl ?_
  refine x_iconst (v := 1) C dL_law_392 (by decide) ?_
  refine x_iadd C dL_law_393 ?_
  refine x_scr C hX hi1 dL_law_394 ?_
  refine x_aload_n C 0 dL_law_395 rfl rfl ?_
  refine x_iload_n C 3 dL_law_396 rfl rfl ?_
  refine x_iconst (v := 2) C dL_law_397 (by decide) ?_
  refine x_iadd C dL_law_398 ?_
  refine x_scr C hX hi2 dL_law_399 ?_
  obtain ⟨q4, hq4, hF⟩ := f_bind hF
  refine x_cLi (rest := [.int q3.1]) C (c_X8_about l C.2.2.2.2.2.2.2.2 (xs (ix (x3 + 1))) (xs (ix (x3 + 2))) q3.2 hq4) cw_L_41 sh_82 rfl rfl ⟨by decide, by decide⟩ rfl rfl (Nat.le_of_ble_eq_true rfl) dL_law_400 ?_
  refine x_icmp_eq (tgt := 1044) C dL_law_403 (by decide) (fun hc => ?_) (fun hc => ?_)
  · replace hF := f_t hc hF
    exact x_pick [(0, .ref b), (1, .ref (G.ad 0)), (2, .ref (G.ad 82)), (3, .int x3)] [0, 1, 2, 3] rfl (w_law_b1044 C hX hk18 x3 q4.2 hF)
  · replace hF := f_f hc hF
    refine x_iconst (v := 0) C dL_law_406 (by decide) ?_
    exact x_lret C hX dL_law_407 (Prod.mk.inj (Option.some.inj hF)).1
set_option maxHeartbeats 4000000 in
theorem w_law_b761 {G : Gl} {p : Program} {l : Launch} {e : Env} {s0 : State} {m : MethodId} {b : Nat} {below : List Frame} {meth : Method} {c : Code} {L : Nat} {xs : Nat → Int32} (C : Cx G p s0 m #[Value.ref b] meth c cL_law 4 RL ret) (hX : LX b L xs G s0) {μf : Mu}  {k18 : Int32 → Mu → Option (Int32 × Mu)} (hk18 : ∀ (x3 : Int32) (μ : Mu), k18 x3 μ = some (1, μf) → XX G p l e room_1 s0 m #[Value.ref b] below meth c 4 600000 7302250 (lw_Z below #[Value.ref b] s0) μ 18 [(0, .ref b), (1, .ref (G.ad 0)), (2, .ref (G.ad 82)), (3, .int x3)] []) (x3 : Int32) (μ : Mu) (hF : f_law_b761 k18 xs L x3 μ = some (1, μf)) : XX G p l e room_1 s0 m #[Value.ref b] below meth c 4 600000 7302250 (lw_Z below #[Value.ref b] s0) μ 761 [(0, .ref b), (1, .ref (G.ad 0)), (2, .ref (G.ad 82)), (3, .int x3)] [] := by
  unfold f_law_b761 at hF
  refine x_aload_n C 1 dL_law_761 rfl rfl ?_
  refine x_aload_n C 0 dL_law_762 rfl rfl ?_
  refine x_iload_n C 3 dL_law_763 rfl rfl ?_
  refine x_iconst (v := 1) C dL_law_764 (by decide) ?_
  refine x_iadd C dL_law_765 ?_
  obtain ⟨hi1, hF⟩ := f_chk hF
  refine x_scr C hX hi1 dL_law_766 ?_
  obtain ⟨q2, hq2, hF⟩ := f_bind hF
  refine x_cLi (rest := []) C (c_X7_count l C.2.2.2.2.2.2.2.2 (xs (ix (x3 + 1))) μ hq2) cw_L_86 sh_0 rfl rfl ⟨by decide, by decide⟩ rfl rfl (Nat.le_of_ble_eq_true rfl) dL_law_767 ?_
  refine x_aload_n C 2 dL_law_770 rfl rfl ?_
  refine x_aload_n C 0 dL_law_771 rfl rfl ?_
  refine x_iload_n C 3 dL_law_772 rfl rfl ?_
  refine x_iconst (v := 1) C dL_law_773 (by decide) ?_
  refine x_iadd C dL_law_774 ?_
  refine x_scr C hX hi1 dL_law_775 ?_
  obtain ⟨q3, hq3, hF⟩ := f_bind hF
  refine x_cLi (rest := [.int q2.1]) C (c_X8_count l C.2.2.2.2.2.2.2.2 (xs (ix (x3 + 1))) q2.2 hq3) cw_L_89 sh_82 rfl rfl ⟨by decide, by decide⟩ rfl rfl (Nat.le_of_ble_eq_true rfl) dL_law_776 ?_
  refine x_icmp_eq (tgt := 1044) C dL_law_779 (by decide) (fun hc => ?_) (fun hc => ?_)
  · replace hF := f_t hc hF
    exact x_pick [(0, .ref b), (1, .ref (G.ad 0)), (2, .ref (G.ad 82)), (3, .int x3)] [0, 1, 2, 3] rfl (w_law_b1044 C hX hk18 x3 q3.2 hF)
  · replace hF := f_f hc hF
    refine x_iconst (v := 0) C dL_law_782 (by decide) ?_
    exact x_lret C hX dL_law_783 (Prod.mk.inj (Option.some.inj hF)).1
set_option maxHeartbeats 4000000 in
theorem w_law_b507 {G : Gl} {p : Program} {l : Launch} {e : Env} {s0 : State} {m : MethodId} {b : Nat} {below : List Frame} {meth : Method} {c : Code} {L : Nat} {xs : Nat → Int32} (C : Cx G p s0 m #[Value.ref b] meth c cL_law 4 RL ret) (hX : LX b L xs G s0) {μf : Mu}  {k18 : Int32 → Mu → Option (Int32 × Mu)} (hk18 : ∀ (x3 : Int32) (μ : Mu), k18 x3 μ = some (1, μf) → XX G p l e room_1 s0 m #[Value.ref b] below meth c 4 600000 7302250 (lw_Z below #[Value.ref b] s0) μ 18 [(0, .ref b), (1, .ref (G.ad 0)), (2, .ref (G.ad 82)), (3, .int x3)] []) (x3 : Int32) (μ : Mu) (hF : f_law_b507 k18 xs L x3 μ = some (1, μf)) : XX G p l e room_1 s0 m #[Value.ref b] below meth c 4 600000 7302250 (lw_Z below #[Value.ref b] s0) μ 507 [(0, .ref b), (1, .ref (G.ad 0)), (2, .ref (G.ad 82)), (3, .int x3)] [] := by
  unfold f_law_b507 at hF
  refine x_aload_n C 1 dL_law_507 rfl rfl ?_
  refine x_aload_n C 0 dL_law_508 rfl rfl ?_
  refine x_iload_n C 3 dL_law_509 rfl rfl ?_
  refine x_iconst (v := 1) C dL_law_510 (by decide) ?_
  refine x_iadd C dL_law_511 ?_
  obtain ⟨hi1, hF⟩ := f_chk hF
  refine x_scr C hX hi1 dL_law_512 ?_
  obtain ⟨q2, hq2, hF⟩ := f_bind hF
  refine x_cLi (rest := []) C (c_X7_note l C.2.2.2.2.2.2.2.2 (xs (ix (x3 + 1))) μ hq2) cw_L_54 sh_0 rfl rfl ⟨by decide, by decide⟩ rfl rfl (Nat.le_of_ble_eq_true rfl) dL_law_513 ?_
  refine x_aload_n C 2 dL_law_516 rfl rfl ?_
  refine x_aload_n C 0 dL_law_517 rfl rfl ?_
  refine x_iload_n C 3 dL_law_518 rfl rfl ?_
  refine x_iconst (v := 1) C dL_law_519 (by decide) ?_
  refine x_iadd C dL_law_520 ?_
  refine x_scr C hX hi1 dL_law_521 ?_
  obtain ⟨q3, hq3, hF⟩ := f_bind hF
  refine x_cLi (rest := [.int q2.1]) C (c_X8_note l C.2.2.2.2.2.2.2.2 (xs (ix (x3 + 1))) q2.2 hq3) cw_L_57 sh_82 rfl rfl ⟨by decide, by decide⟩ rfl rfl (Nat.le_of_ble_eq_true rfl) dL_law_522 ?_
  refine x_icmp_eq (tgt := 1044) C dL_law_525 (by decide) (fun hc => ?_) (fun hc => ?_)
  · replace hF := f_t hc hF
    exact x_pick [(0, .ref b), (1, .ref (G.ad 0)), (2, .ref (G.ad 82)), (3, .int x3)] [0, 1, 2, 3] rfl (w_law_b1044 C hX hk18 x3 q3.2 hF)
  · replace hF := f_f hc hF
    refine x_iconst (v := 0) C dL_law_528 (by decide) ?_
    exact x_lret C hX dL_law_529 (Prod.mk.inj (Option.some.inj hF)).1
set_option maxHeartbeats 4000000 in
theorem w_law_b1021 {G : Gl} {p : Program} {l : Launch} {e : Env} {s0 : State} {m : MethodId} {b : Nat} {below : List Frame} {meth : Method} {c : Code} {L : Nat} {xs : Nat → Int32} (C : Cx G p s0 m #[Value.ref b] meth c cL_law 4 RL ret) (hX : LX b L xs G s0) {μf : Mu}  {k18 : Int32 → Mu → Option (Int32 × Mu)} (hk18 : ∀ (x3 : Int32) (μ : Mu), k18 x3 μ = some (1, μf) → XX G p l e room_1 s0 m #[Value.ref b] below meth c 4 600000 7302250 (lw_Z below #[Value.ref b] s0) μ 18 [(0, .ref b), (1, .ref (G.ad 0)), (2, .ref (G.ad 82)), (3, .int x3)] []) (x3 : Int32) (μ : Mu) (hF : f_law_b1021 k18 xs L x3 μ = some (1, μf)) : XX G p l e room_1 s0 m #[Value.ref b] below meth c 4 600000 7302250 (lw_Z below #[Value.ref b] s0) μ 1021 [(0, .ref b), (1, .ref (G.ad 0)), (2, .ref (G.ad 82)), (3, .int x3)] [] := by
  unfold f_law_b1021 at hF
  refine x_aload_n C 1 dL_law_1021 rfl rfl ?_
  refine x_aload_n C 0 dL_law_1022 rfl rfl ?_
  refine x_iload_n C 3 dL_law_1023 rfl rfl ?_
  refine x_iconst (v := 1) C dL_law_1024 (by decide) ?_
  refine x_iadd C dL_law_1025 ?_
  obtain ⟨hi1, hF⟩ := f_chk hF
  refine x_scr C hX hi1 dL_law_1026 ?_
  obtain ⟨q2, hq2, hF⟩ := f_bind hF
  refine x_cLi (rest := []) C (c_X7_least l C.2.2.2.2.2.2.2.2 (xs (ix (x3 + 1))) μ hq2) cw_L_130 sh_0 rfl rfl ⟨by decide, by decide⟩ rfl rfl (Nat.le_of_ble_eq_true rfl) dL_law_1027 ?_
  refine x_aload_n C 2 dL_law_1030 rfl rfl ?_
  refine x_aload_n C 0 dL_law_1031 rfl rfl ?_
  refine x_iload_n C 3 dL_law_1032 rfl rfl ?_
  refine x_iconst (v := 1) C dL_law_1033 (by decide) ?_
  refine x_iadd C dL_law_1034 ?_
  refine x_scr C hX hi1 dL_law_1035 ?_
  obtain ⟨q3, hq3, hF⟩ := f_bind hF
  refine x_cLi (rest := [.int q2.1]) C (c_X8_least l C.2.2.2.2.2.2.2.2 (xs (ix (x3 + 1))) q2.2 hq3) cw_L_133 sh_82 rfl rfl ⟨by decide, by decide⟩ rfl rfl (Nat.le_of_ble_eq_true rfl) dL_law_1036 ?_
  refine x_icmp_eq (tgt := 1044) C dL_law_1039 (by decide) (fun hc => ?_) (fun hc => ?_)
  · replace hF := f_t hc hF
    exact x_pick [(0, .ref b), (1, .ref (G.ad 0)), (2, .ref (G.ad 82)), (3, .int x3)] [0, 1, 2, 3] rfl (w_law_b1044 C hX hk18 x3 q3.2 hF)
  · replace hF := f_f hc hF
    refine x_iconst (v := 0) C dL_law_1042 (by decide) ?_
    exact x_lret C hX dL_law_1043 (Prod.mk.inj (Option.some.inj hF)).1
set_option maxHeartbeats 4000000 in
theorem w_law_L18 {G : Gl} {p : Program} {l : Launch} {e : Env} {s0 : State} {m : MethodId} {b : Nat} {below : List Frame} {meth : Method} {c : Code} {L : Nat} {xs : Nat → Int32} (C : Cx G p s0 m #[Value.ref b] meth c cL_law 4 RL ret) (hX : LX b L xs G s0) {μf : Mu}  : ∀ (n : Nat) (x3 : Int32) (μ : Mu), f_law_L18 xs L n x3 μ = some (1, μf) → XX G p l e room_1 s0 m #[Value.ref b] below meth c 4 600000 7302250 (lw_Z below #[Value.ref b] s0) μ 18 [(0, .ref b), (1, .ref (G.ad 0)), (2, .ref (G.ad 82)), (3, .int x3)] [] := by
  intro n
  induction n with
  | zero =>
    intro x3 μ hF
    rw [f_law_L18] at hF
    cases hF
  | succ n ih =>
    intro x3 μ hF
    rw [f_law_L18] at hF
    refine x_iload_n C 3 dL_law_18 rfl rfl ?_
    refine x_aload_n C 0 dL_law_19 rfl rfl ?_
    refine x_scl C hX dL_law_20 ?_
    refine x_bipush (v := 6) C dL_law_21 (by decide) ?_
    refine x_isub C dL_law_23 ?_
    refine x_icmp_gt (tgt := 1050) C dL_law_24 (by decide) (fun hc => ?_) (fun hc => ?_)
    · replace hF := f_t hc hF
      refine x_iconst (v := 1) C dL_law_1050 (by decide) ?_
      exact x_lret C hX dL_law_1051 (Prod.mk.inj (Option.some.inj hF)).1
    · replace hF := f_f hc hF
      refine x_aload_n C 0 dL_law_27 rfl rfl ?_
      refine x_iload_n C 3 dL_law_28 rfl rfl ?_
      obtain ⟨hi1, hF⟩ := f_chk hF
      refine x_scr C hX hi1 dL_law_29 ?_
      refine x_bipush (v := 31) C dL_law_30 (by decide) ?_
      refine x_iand C dL_law_32 ?_
      by_cases hs0 : ((xs (ix x3)) &&& 31) = 0
      · replace hF := f_t hs0 hF
        refine x_tableIn (tgt := 160) (off := 127) C dL_law_33 (by rw [hs0]; decide) (by rw [hs0]; decide) (by rw [hs0]; decide +kernel) (by decide) ?_
        exact x_pick [(0, .ref b), (1, .ref (G.ad 0)), (2, .ref (G.ad 82)), (3, .int x3)] [0, 1, 2, 3] rfl (w_law_b160 C hX ih x3 μ hF)
      · replace hF := f_f hs0 hF
        by_cases hs1 : ((xs (ix x3)) &&& 31) = 1
        · replace hF := f_t hs1 hF
          refine x_tableIn (tgt := 223) (off := 190) C dL_law_33 (by rw [hs1]; decide) (by rw [hs1]; decide) (by rw [hs1]; decide +kernel) (by decide) ?_
          exact x_pick [(0, .ref b), (1, .ref (G.ad 0)), (2, .ref (G.ad 82)), (3, .int x3)] [0, 1, 2, 3] rfl (w_law_b223 C hX ih x3 μ hF)
        · replace hF := f_f hs1 hF
          by_cases hs2 : ((xs (ix x3)) &&& 31) = 2
          · replace hF := f_t hs2 hF
            refine x_tableIn (tgt := 276) (off := 243) C dL_law_33 (by rw [hs2]; decide) (by rw [hs2]; decide) (by rw [hs2]; decide +kernel) (by decide) ?_
            exact x_pick [(0, .ref b), (1, .ref (G.ad 0)), (2, .ref (G.ad 82)), (3, .int x3)] [0, 1, 2, 3] rfl (w_law_b276 C hX ih x3 μ hF)
          · replace hF := f_f hs2 hF
            by_cases hs3 : ((xs (ix x3)) &&& 31) = 3
            · replace hF := f_t hs3 hF
              refine x_tableIn (tgt := 319) (off := 286) C dL_law_33 (by rw [hs3]; decide) (by rw [hs3]; decide) (by rw [hs3]; decide +kernel) (by decide) ?_
              exact x_pick [(0, .ref b), (1, .ref (G.ad 0)), (2, .ref (G.ad 82)), (3, .int x3)] [0, 1, 2, 3] rfl (w_law_b319 C hX ih x3 μ hF)
            · replace hF := f_f hs3 hF
              by_cases hs4 : ((xs (ix x3)) &&& 31) = 4
              · replace hF := f_t hs4 hF
                refine x_tableIn (tgt := 352) (off := 319) C dL_law_33 (by rw [hs4]; decide) (by rw [hs4]; decide) (by rw [hs4]; decide +kernel) (by decide) ?_
                exact x_pick [(0, .ref b), (1, .ref (G.ad 0)), (2, .ref (G.ad 82)), (3, .int x3)] [0, 1, 2, 3] rfl (w_law_b352 C hX ih x3 μ hF)
              · replace hF := f_f hs4 hF
                by_cases hs5 : ((xs (ix x3)) &&& 31) = 5
                · replace hF := f_t hs5 hF
                  refine x_tableIn (tgt := 375) (off := 342) C dL_law_33 (by rw [hs5]; decide) (by rw [hs5]; decide) (by rw [hs5]; decide +kernel) (by decide) ?_
                  exact x_pick [(0, .ref b), (1, .ref (G.ad 0)), (2, .ref (G.ad 82)), (3, .int x3)] [0, 1, 2, 3] rfl (w_law_b375 C hX ih x3 μ hF)
                · replace hF := f_f hs5 hF
                  by_cases hs6 : ((xs (ix x3)) &&& 31) = 6
                  · replace hF := f_t hs6 hF
                    refine x_tableIn (tgt := 408) (off := 375) C dL_law_33 (by rw [hs6]; decide) (by rw [hs6]; decide) (by rw [hs6]; decide +kernel) (by decide) ?_
                    exact x_pick [(0, .ref b), (1, .ref (G.ad 0)), (2, .ref (G.ad 82)), (3, .int x3)] [0, 1, 2, 3] rfl (w_law_b408 C hX ih x3 μ hF)
                  · replace hF := f_f hs6 hF
                    by_cases hs7 : ((xs (ix x3)) &&& 31) = 7
                    · replace hF := f_t hs7 hF
                      refine x_tableIn (tgt := 451) (off := 418) C dL_law_33 (by rw [hs7]; decide) (by rw [hs7]; decide) (by rw [hs7]; decide +kernel) (by decide) ?_
                      exact x_pick [(0, .ref b), (1, .ref (G.ad 0)), (2, .ref (G.ad 82)), (3, .int x3)] [0, 1, 2, 3] rfl (w_law_b451 C hX ih x3 μ hF)
                    · replace hF := f_f hs7 hF
                      by_cases hs8 : ((xs (ix x3)) &&& 31) = 8
                      · replace hF := f_t hs8 hF
                        refine x_tableIn (tgt := 484) (off := 451) C dL_law_33 (by rw [hs8]; decide) (by rw [hs8]; decide) (by rw [hs8]; decide +kernel) (by decide) ?_
                        exact x_pick [(0, .ref b), (1, .ref (G.ad 0)), (2, .ref (G.ad 82)), (3, .int x3)] [0, 1, 2, 3] rfl (w_law_b484 C hX ih x3 μ hF)
                      · replace hF := f_f hs8 hF
                        by_cases hs9 : ((xs (ix x3)) &&& 31) = 9
                        · replace hF := f_t hs9 hF
                          refine x_tableIn (tgt := 507) (off := 474) C dL_law_33 (by rw [hs9]; decide) (by rw [hs9]; decide) (by rw [hs9]; decide +kernel) (by decide) ?_
                          exact x_pick [(0, .ref b), (1, .ref (G.ad 0)), (2, .ref (G.ad 82)), (3, .int x3)] [0, 1, 2, 3] rfl (w_law_b507 C hX ih x3 μ hF)
                        · replace hF := f_f hs9 hF
                          by_cases hs10 : ((xs (ix x3)) &&& 31) = 10
                          · replace hF := f_t hs10 hF
                            refine x_tableIn (tgt := 530) (off := 497) C dL_law_33 (by rw [hs10]; decide) (by rw [hs10]; decide) (by rw [hs10]; decide +kernel) (by decide) ?_
                            exact x_pick [(0, .ref b), (1, .ref (G.ad 0)), (2, .ref (G.ad 82)), (3, .int x3)] [0, 1, 2, 3] rfl (w_law_b530 C hX ih x3 μ hF)
                          · replace hF := f_f hs10 hF
                            by_cases hs11 : ((xs (ix x3)) &&& 31) = 11
                            · replace hF := f_t hs11 hF
                              refine x_tableIn (tgt := 553) (off := 520) C dL_law_33 (by rw [hs11]; decide) (by rw [hs11]; decide) (by rw [hs11]; decide +kernel) (by decide) ?_
                              exact x_pick [(0, .ref b), (1, .ref (G.ad 0)), (2, .ref (G.ad 82)), (3, .int x3)] [0, 1, 2, 3] rfl (w_law_b553 C hX ih x3 μ hF)
                            · replace hF := f_f hs11 hF
                              by_cases hs12 : ((xs (ix x3)) &&& 31) = 12
                              · replace hF := f_t hs12 hF
                                refine x_tableIn (tgt := 586) (off := 553) C dL_law_33 (by rw [hs12]; decide) (by rw [hs12]; decide) (by rw [hs12]; decide +kernel) (by decide) ?_
                                exact x_pick [(0, .ref b), (1, .ref (G.ad 0)), (2, .ref (G.ad 82)), (3, .int x3)] [0, 1, 2, 3] rfl (w_law_b586 C hX ih x3 μ hF)
                              · replace hF := f_f hs12 hF
                                by_cases hs13 : ((xs (ix x3)) &&& 31) = 13
                                · replace hF := f_t hs13 hF
                                  refine x_tableIn (tgt := 629) (off := 596) C dL_law_33 (by rw [hs13]; decide) (by rw [hs13]; decide) (by rw [hs13]; decide +kernel) (by decide) ?_
                                  exact x_pick [(0, .ref b), (1, .ref (G.ad 0)), (2, .ref (G.ad 82)), (3, .int x3)] [0, 1, 2, 3] rfl (w_law_b629 C hX ih x3 μ hF)
                                · replace hF := f_f hs13 hF
                                  by_cases hs14 : ((xs (ix x3)) &&& 31) = 14
                                  · replace hF := f_t hs14 hF
                                    refine x_tableIn (tgt := 652) (off := 619) C dL_law_33 (by rw [hs14]; decide) (by rw [hs14]; decide) (by rw [hs14]; decide +kernel) (by decide) ?_
                                    exact x_pick [(0, .ref b), (1, .ref (G.ad 0)), (2, .ref (G.ad 82)), (3, .int x3)] [0, 1, 2, 3] rfl (w_law_b652 C hX ih x3 μ hF)
                                  · replace hF := f_f hs14 hF
                                    by_cases hs15 : ((xs (ix x3)) &&& 31) = 15
                                    · replace hF := f_t hs15 hF
                                      refine x_tableIn (tgt := 685) (off := 652) C dL_law_33 (by rw [hs15]; decide) (by rw [hs15]; decide) (by rw [hs15]; decide +kernel) (by decide) ?_
                                      exact x_pick [(0, .ref b), (1, .ref (G.ad 0)), (2, .ref (G.ad 82)), (3, .int x3)] [0, 1, 2, 3] rfl (w_law_b685 C hX ih x3 μ hF)
                                    · replace hF := f_f hs15 hF
                                      by_cases hs16 : ((xs (ix x3)) &&& 31) = 16
                                      · replace hF := f_t hs16 hF
                                        refine x_tableIn (tgt := 718) (off := 685) C dL_law_33 (by rw [hs16]; decide) (by rw [hs16]; decide) (by rw [hs16]; decide +kernel) (by decide) ?_
                                        exact x_pick [(0, .ref b), (1, .ref (G.ad 0)), (2, .ref (G.ad 82)), (3, .int x3)] [0, 1, 2, 3] rfl (w_law_b718 C hX ih x3 μ hF)
                                      · replace hF := f_f hs16 hF
                                        by_cases hs17 : ((xs (ix x3)) &&& 31) = 17
                                        · replace hF := f_t hs17 hF
                                          refine x_tableIn (tgt := 761) (off := 728) C dL_law_33 (by rw [hs17]; decide) (by rw [hs17]; decide) (by rw [hs17]; decide +kernel) (by decide) ?_
                                          exact x_pick [(0, .ref b), (1, .ref (G.ad 0)), (2, .ref (G.ad 82)), (3, .int x3)] [0, 1, 2, 3] rfl (w_law_b761 C hX ih x3 μ hF)
                                        · replace hF := f_f hs17 hF
                                          by_cases hs18 : ((xs (ix x3)) &&& 31) = 18
                                          · replace hF := f_t hs18 hF
                                            refine x_tableIn (tgt := 784) (off := 751) C dL_law_33 (by rw [hs18]; decide) (by rw [hs18]; decide) (by rw [hs18]; decide +kernel) (by decide) ?_
                                            exact x_pick [(0, .ref b), (1, .ref (G.ad 0)), (2, .ref (G.ad 82)), (3, .int x3)] [0, 1, 2, 3] rfl (w_law_b784 C hX ih x3 μ hF)
                                          · replace hF := f_f hs18 hF
                                            by_cases hs19 : ((xs (ix x3)) &&& 31) = 19
                                            · replace hF := f_t hs19 hF
                                              refine x_tableIn (tgt := 847) (off := 814) C dL_law_33 (by rw [hs19]; decide) (by rw [hs19]; decide) (by rw [hs19]; decide +kernel) (by decide) ?_
                                              exact x_pick [(0, .ref b), (1, .ref (G.ad 0)), (2, .ref (G.ad 82)), (3, .int x3)] [0, 1, 2, 3] rfl (w_law_b847 C hX ih x3 μ hF)
                                            · replace hF := f_f hs19 hF
                                              by_cases hs20 : ((xs (ix x3)) &&& 31) = 20
                                              · replace hF := f_t hs20 hF
                                                refine x_tableIn (tgt := 860) (off := 827) C dL_law_33 (by rw [hs20]; decide) (by rw [hs20]; decide) (by rw [hs20]; decide +kernel) (by decide) ?_
                                                exact x_pick [(0, .ref b), (1, .ref (G.ad 0)), (2, .ref (G.ad 82)), (3, .int x3)] [0, 1, 2, 3] rfl (w_law_b860 C hX ih x3 μ hF)
                                              · replace hF := f_f hs20 hF
                                                by_cases hs21 : ((xs (ix x3)) &&& 31) = 21
                                                · replace hF := f_t hs21 hF
                                                  refine x_tableIn (tgt := 873) (off := 840) C dL_law_33 (by rw [hs21]; decide) (by rw [hs21]; decide) (by rw [hs21]; decide +kernel) (by decide) ?_
                                                  exact x_pick [(0, .ref b), (1, .ref (G.ad 0)), (2, .ref (G.ad 82)), (3, .int x3)] [0, 1, 2, 3] rfl (w_law_b873 C hX ih x3 μ hF)
                                                · replace hF := f_f hs21 hF
                                                  by_cases hs22 : ((xs (ix x3)) &&& 31) = 22
                                                  · replace hF := f_t hs22 hF
                                                    refine x_tableIn (tgt := 896) (off := 863) C dL_law_33 (by rw [hs22]; decide) (by rw [hs22]; decide) (by rw [hs22]; decide +kernel) (by decide) ?_
                                                    exact x_pick [(0, .ref b), (1, .ref (G.ad 0)), (2, .ref (G.ad 82)), (3, .int x3)] [0, 1, 2, 3] rfl (w_law_b896 C hX ih x3 μ hF)
                                                  · replace hF := f_f hs22 hF
                                                    by_cases hs23 : ((xs (ix x3)) &&& 31) = 23
                                                    · replace hF := f_t hs23 hF
                                                      refine x_tableIn (tgt := 919) (off := 886) C dL_law_33 (by rw [hs23]; decide) (by rw [hs23]; decide) (by rw [hs23]; decide +kernel) (by decide) ?_
                                                      exact x_pick [(0, .ref b), (1, .ref (G.ad 0)), (2, .ref (G.ad 82)), (3, .int x3)] [0, 1, 2, 3] rfl (w_law_b919 C hX ih x3 μ hF)
                                                    · replace hF := f_f hs23 hF
                                                      by_cases hs24 : ((xs (ix x3)) &&& 31) = 24
                                                      · replace hF := f_t hs24 hF
                                                        refine x_tableIn (tgt := 942) (off := 909) C dL_law_33 (by rw [hs24]; decide) (by rw [hs24]; decide) (by rw [hs24]; decide +kernel) (by decide) ?_
                                                        exact x_pick [(0, .ref b), (1, .ref (G.ad 0)), (2, .ref (G.ad 82)), (3, .int x3)] [0, 1, 2, 3] rfl (w_law_b942 C hX ih x3 μ hF)
                                                      · replace hF := f_f hs24 hF
                                                        by_cases hs25 : ((xs (ix x3)) &&& 31) = 25
                                                        · replace hF := f_t hs25 hF
                                                          refine x_tableIn (tgt := 975) (off := 942) C dL_law_33 (by rw [hs25]; decide) (by rw [hs25]; decide) (by rw [hs25]; decide +kernel) (by decide) ?_
                                                          exact x_pick [(0, .ref b), (1, .ref (G.ad 0)), (2, .ref (G.ad 82)), (3, .int x3)] [0, 1, 2, 3] rfl (w_law_b975 C hX ih x3 μ hF)
                                                        · replace hF := f_f hs25 hF
                                                          by_cases hs26 : ((xs (ix x3)) &&& 31) = 26
                                                          · replace hF := f_t hs26 hF
                                                            refine x_tableIn (tgt := 1008) (off := 975) C dL_law_33 (by rw [hs26]; decide) (by rw [hs26]; decide) (by rw [hs26]; decide +kernel) (by decide) ?_
                                                            exact x_pick [(0, .ref b), (1, .ref (G.ad 0)), (2, .ref (G.ad 82)), (3, .int x3)] [0, 1, 2, 3] rfl (w_law_b1008 C hX ih x3 μ hF)
                                                          · replace hF := f_f hs26 hF
                                                            by_cases hs27 : ((xs (ix x3)) &&& 31) = 27
                                                            · replace hF := f_t hs27 hF
                                                              refine x_tableIn (tgt := 1021) (off := 988) C dL_law_33 (by rw [hs27]; decide) (by rw [hs27]; decide) (by rw [hs27]; decide +kernel) (by decide) ?_
                                                              exact x_pick [(0, .ref b), (1, .ref (G.ad 0)), (2, .ref (G.ad 82)), (3, .int x3)] [0, 1, 2, 3] rfl (w_law_b1021 C hX ih x3 μ hF)
                                                            · replace hF := f_f hs27 hF
                                                              refine x_tableOut (tgt := 1044) C dL_law_33 (sw_out_0_27 hs0 hs1 hs2 hs3 hs4 hs5 hs6 hs7 hs8 hs9 hs10 hs11 hs12 hs13 hs14 hs15 hs16 hs17 hs18 hs19 hs20 hs21 hs22 hs23 hs24 hs25 hs26 hs27) (by decide) ?_
                                                              exact x_pick [(0, .ref b), (1, .ref (G.ad 0)), (2, .ref (G.ad 82)), (3, .int x3)] [0, 1, 2, 3] rfl (w_law_b1044 C hX ih x3 μ hF)
