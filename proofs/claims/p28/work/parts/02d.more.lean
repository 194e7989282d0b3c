/-! what a method throws: the first check that fails names it -/
def exT (P : Prop) [Decidable P] (cls : String) (k : Option String) : Option String := if P then k else some cls
theorem exT_t {P : Prop} [Decidable P] {cls : String} {k : Option String} (h : P) : exT P cls k = k := if_pos h
theorem exT_f {P : Prop} [Decidable P] {cls : String} {k : Option String} (h : ¬ P) : exT P cls k = some cls := if_neg h
theorem exT_none {P : Prop} [Decidable P] {cls : String} {k : Option String} (h : exT P cls k = none) : P := by
  by_cases hp : P
  · exact hp
  · rw [exT_f hp] at h; cases h
theorem exT_out {P : Prop} [Decidable P] {cls E : String} {k : Option String} (h : exT P cls none = some E) : exT P cls k = some E := by
  by_cases hp : P
  · rw [exT_t hp] at h; cases h
  · rw [exT_f hp] at h ⊢; exact h
theorem exT_cls {P : Prop} [Decidable P] {cls E : String} {k : Option String} (h : exT P cls k = some E) : E = cls ∨ k = some E := by
  by_cases hp : P
  · rw [exT_t hp] at h; exact Or.inr h
  · rw [exT_f hp] at h; cases h; exact Or.inl rfl
def nN (x : Int32) : Nat := x.toNatClampNeg
theorem nN_nI {k : Nat} (h : k < 2 ^ 31) : nN (nI k) = k := nI_clamp h
theorem z_nat {x M : Int32} {n : Nat} (hM : M.toInt = n) (h : 0 ≤ x ∧ x ≤ M) : ∃ k : Nat, k ≤ n ∧ x = nI k := nI_of2 hM (fun q => absurd h.1 (Int32.not_le.mpr q)) h.2
theorem z_nat4 {x : Int32} (h : 0 ≤ x ∧ x ≤ 4) : ∃ k : Nat, k < 5 ∧ x = nI k := by
  obtain ⟨k, hk, e⟩ := z_nat (n := 4) (by decide) h
  exact ⟨k, by omega, e⟩
theorem zmin_nI {a b : Nat} (ha : a < 2 ^ 31) (hb : b < 2 ^ 31) : zmin (nI a) (nI b) = nI (min a b) := by
  unfold zmin
  by_cases h : b < a
  · rw [if_pos ((nI_ltI hb ha).mpr h), Nat.min_eq_right (Nat.le_of_lt h)]
  · rw [if_neg (fun q => h ((nI_ltI hb ha).mp q)), Nat.min_eq_left (Nat.le_of_not_lt h)]
theorem zmax_nI {a b : Nat} (ha : a < 2 ^ 31) (hb : b < 2 ^ 31) : zmax (nI a) (nI b) = nI (max a b) := by
  unfold zmax
  by_cases h : a < b
  · rw [if_pos ((nI_ltI ha hb).mpr h), Nat.max_eq_right (Nat.le_of_lt h)]
  · rw [if_neg (fun q => h ((nI_ltI ha hb).mp q)), Nat.max_eq_left (Nat.le_of_not_lt h)]
/-- the saved states: a ring of four machines -/
abbrev hisW (cs : zCs) (a : Nat → Nat) (kd : Nat → Nat → Nat) (S : Nat → Int32) : va_W := [(a 0, .inr (4, [.ref (a 1), .int (S 0), .int (S 1)])), (a 1, .inl (cs.2.2, 4, .inr (.inr (.inr (.inr (fun i => some (kd i 0)))))))]
abbrev camW (ad : Nat → Nat → Nat) : va_W := [(ad 3 0, .inr (7, [.ref (ad 0 0), .ref (ad 4 0), .ref (ad 5 0), .ref (ad 1 0), .ref (ad 2 0)]))]
def kup {α : Type} (K : Nat → α) (p : Nat) (x : α) : Nat → α := fun i => if i = p then x else K i
def hNx (p : Nat) : Nat := if p + 1 < 4 then p + 1 else 0
def hPv (p : Nat) : Nat := if p = 0 then 3 else p - 1
section ZMO
variable {p : Program} {l : Launch} {e : Env} {R : Room} {s : State} {m : MethodId} {args : Array Value} {below : List Frame} {meth : Method} {c : Code} {H : Heap} {locs : List Loc} {cells slots : Nat} {Q : State → Prop}
variable {pc : Nat} {ls : Array Slot} {A : Nat → Prop} {D : va_G} {cs : zCs} {ws wo : va_W} {cc : ByteArray} {rest : List Value} {a n : Nat} {f : Nat → Option Nat} {H0 : Heap} {rv : Option Value}
theorem z_aald {k b : Nat} (hx : p.tables.exec = Jvm.exec) (hb : c.code = cc) (hK : va_K D vwCl (zT cs) s) (hP : va_P D vwCl ws H) (q0 : Nat) (ha : ws[q0]? = some (a, .inl (cs.2.2, n, .inr (.inr (.inr (.inr f)))))) (hk : k < n) (hn : n < 2 ^ 31) (hf : f k = some b) (hdg : decode cc pc = .ok (.aaload, 1))
    (kk : W p l e R s m args below meth c H locs cells slots Q (F0 m (pc + 1) ls (.ref b :: rest))) : W p l e R s m args below meth c H locs cells slots Q (F0 m pc ls (.int (nI k) :: .ref a :: rest)) := by
  refine va_aldq hx hb hK hP q0 2 ha rfl (vp_in_nI hk hn) hdg ?_
  rw [nI_clamp (by omega), hf]
  exact kk
theorem z_aret {rt : FieldType} (hx : p.tables.exec = Jvm.exec) (hb : c.code = cc) (hr : meth.sig.returnType = some rt) (hlk : meth.locks = false) (hK : va_K D vwCl (zT cs) s) (hP : va_P D vwCl ws H) (hD : va_D A ws) (hS : va_S A s.heap H locs) (hdg : decode cc pc = .ok (.areturn, 1)) (hrt : (∃ n, rt = .object n) ∨ ∃ t, rt = .array t) {v : Value} (hnr : v = .null ∨ ∃ a, v = .ref a) (hv : some v = rv) (hw : ws = wo) :
    W p l e R s m args below meth c H locs cells slots (MQ below (zQ D cs rv wo A) args s cells slots A) (F0 m pc ls [v]) :=
  W.aret hx hb hr hrt hnr (fun _ ht hW => z_end hK hP hD hS hv hw ht hW) hS.2.2 hdg hlk
end ZMO
