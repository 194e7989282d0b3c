/-! new cells: a constructor's contract -/
/-- a constructor's end: it returned, and left a world of this kind -/
def zQn (D : va_G) (cs : zCs) (Pw : va_W → Prop) (A : Nat → Prop) : Array Value → State → Outcome → State → Prop := fun _ st o t =>
  (o = .returned none ∧ (∃ wo, Pw wo ∧ va_P D vwCl wo t.heap ∧ va_D A wo) ∧ va_K D vwCl (zT cs) t) ∧ va_F A st t
def zMn (l : Launch) (D : va_G) (cs : zCs) (y : MethodName) (cb : ByteArray) (ml fr lo mc ms : Nat) (av : List Value) (w : va_W) (Pw : va_W → Prop) : Prop :=
  ∀ sz : Nat, Met l y (Cond.code y cb ml none :: wsG) ({ frames := fr, cells := mc, slots := ms, locals := lo } : Room) (va_Pc av (zPre D cs w sz)) (zQn D cs Pw (va_A w sz)) mc ms (va_A w sz)
theorem zMn.of {l : Launch} {D : va_G} {cs : zCs} {y : MethodName} {cb : ByteArray} {ml : Nat} {fr lo mc ms : Nat} {av : List Value} {w : va_W} {Pw : va_W → Prop} {own : String}
    (hy : plainName y.cls = true) (hl : (lg_sl av).length ≤ ml) (ho : y.cls = own)
    (body : ∀ (p : Program) (e : Env) (s : State) (m : MethodId) (below : List Frame) (meth : Method) (c : Code) (A : Nat → Prop) (ls : Array Slot), p.tables.exec = Jvm.exec → c.code = cb → meth.sig.returnType = none → c.maxLocals = ml → s.vm.findClass own = some m.cls → (∀ w ∈ wsG, w.before av.toArray s = true) → meth.locks = false → meth.name = y.name → zE A s → va_K D vwCl (zT cs) s → (∀ q : Nat, s.heap.size ≤ q → A q) → va_P D vwCl w s.heap → va_D A w → va_S A s.heap s.heap [] → lv_has ls ml (lv_args 0 av) →
      W p l e ({ frames := fr, cells := mc, slots := ms, locals := lo } : Room) s m av.toArray below meth c s.heap [] 0 0 (MQ below (zQn D cs Pw A) av.toArray s mc ms A) (F0 m 0 ls [])) : zMn l D cs y cb ml fr lo mc ms av w Pw := by
  subst ho
  intro sz
  refine Met.ofW (cc := cb) (maxL := ml) (ret := none) hy rfl ?_
  intro p e s m args below meth c s₁ B hml hv
  obtain ⟨rfl, hsz, hP, hK, hD0, hE⟩ := hv
  have hts := atoms_spec (ws := Cond.code y cb ml none :: wsG) B.pre
  subst hsz
  have hD := hD0.self (sz := s.heap.size)
  have hlv := lv_entry av (n := ml) hl
  rw [lg_entry_eq]
  exact body p e s m below meth c _ _ B.exec B.bytes B.returns hml (findClass_of_methodNamed B.named) (fun w hw => hts w (List.mem_cons_of_mem _ hw)) B.notSynchronized (name_of_methodNamed B.named B.method).1 hE hK (fun q h => Or.inr h) hP hD va_S.rf hlv
theorem z_joinN {A0 : Nat → Prop} {D : va_G} {cl : List vw_C} {ws wo : va_W} {q : Nat} {e0 : va_E} {H H1 : Heap} (hP : va_P D cl (ws ++ [(q, e0)]) H) (hD : va_D A0 (ws ++ [(q, e0)])) (hA : ∀ x : Nat, H.size ≤ x → A0 x)
    (hk : ∀ x : Nat, x < H.size → ¬ va_A [(q, e0)] H.size x → H1[x]? = H[x]?) (hP1 : va_P D cl wo H1) (hD1 : va_D (va_A [(q, e0)] H.size) wo) : va_P D cl (ws ++ wo) H1 ∧ va_D A0 (ws ++ wo) := by
  have hat : ∀ (k : Nat) (x : Nat × va_E), ws[k]? = some x → (ws ++ [(q, e0)])[k]? = some x := fun k x h => by
    rw [List.getElem?_append_left (List.getElem?_eq_some_iff.mp h).1]
    exact h
  have hq : (ws ++ [(q, e0)])[ws.length]? = some (q, e0) := by
    rw [List.getElem?_append_right (Nat.le_refl _), Nat.sub_self]
    rfl
  have hx : ∀ (k : Nat) (x : Nat × va_E), ws[k]? = some x → x.1 < H.size ∧ x.1 ≠ q := fun k x h => ⟨(hP k x (hat k x h)).lt, fun e => by
    have h1 := hD.1 k ws.length x (q, e0) (hat k x h) hq e
    have h2 := (List.getElem?_eq_some_iff.mp h).1
    omega⟩
  have hqs : q < H.size := (hP ws.length (q, e0) hq).lt
  have hin : ∀ y : Nat, va_A [(q, e0)] H.size y → y = q ∨ H.size ≤ y := fun y h => by
    rcases h with ⟨k, e, h⟩ | h
    · have h1 : k < 1 := (List.getElem?_eq_some_iff.mp h).1
      rw [show k = 0 by omega] at h
      cases h
      exact Or.inl rfl
    · exact Or.inr h
  refine ⟨va_P.app (fun k x h => (hP k x (hat k x h)).kept (hk x.1 (hx k x h).1 (fun z => ?_))) hP1, fun i j x y hi hj hxy => ?_, fun k x h => ?_⟩
  · have h1 := hx k x h
    rcases hin x.1 z with h2 | h2
    · exact h1.2 h2
    · omega
  · by_cases hi1 : i < ws.length
    · rw [List.getElem?_append_left hi1] at hi
      by_cases hj1 : j < ws.length
      · rw [List.getElem?_append_left hj1] at hj
        exact hD.1 i j x y (hat i x hi) (hat j y hj) hxy
      · rw [List.getElem?_append_right (by omega)] at hj
        have h1 := hx i x hi
        rcases hin y.1 (hD1.2 _ y hj) with h2 | h2
        · exact absurd (hxy.trans h2) h1.2
        · omega
    · rw [List.getElem?_append_right (by omega)] at hi
      by_cases hj1 : j < ws.length
      · rw [List.getElem?_append_left hj1] at hj
        have h1 := hx j y hj
        rcases hin x.1 (hD1.2 _ x hi) with h2 | h2
        · exact absurd (hxy.symm.trans h2) h1.2
        · omega
      · rw [List.getElem?_append_right (by omega)] at hj
        have h1 := hD1.1 _ _ x y hi hj hxy
        omega
  · by_cases hk1 : k < ws.length
    · rw [List.getElem?_append_left hk1] at h
      exact hD.2 k x (hat k x h)
    · rw [List.getElem?_append_right (by omega)] at h
      rcases hin x.1 (hD1.2 _ x h) with h2 | h2
      · rw [h2]
        exact hD.2 ws.length (q, e0) hq
      · exact hA x.1 h2
section ZN
variable {p : Program} {l : Launch} {e : Env} {R : Room} {s : State} {m : MethodId} {args : Array Value} {below : List Frame} {meth : Method} {c : Code} {H : Heap} {locs : List Loc} {cells slots : Nat} {Q : State → Prop}
variable {pc : Nat} {ls : Array Slot} {A : Nat → Prop} {mc ms : Nat} {D : va_G} {cs : zCs} {ws wo : va_W} {Pw : va_W → Prop} {q : Nat} {e0 : va_E}
variable {cc cb : ByteArray} {nL index ml fr lo : Nat} {own host : String} {y : MethodName} {rest st0 : List Value} {a : Array Value}
theorem z_goN (hr : va_Run p l e R s m args below meth c H locs cells slots mc ms (F0 m pc ls st0) rest (zQn D cs Pw (va_A [(q, e0)] H.size) a) (va_A [(q, e0)] H.size)) (hP : va_P D vwCl (ws ++ [(q, e0)]) H) (hD : va_D A (ws ++ [(q, e0)])) (hS : va_S A s.heap H locs) (hA : ∀ x : Nat, s.heap.size ≤ x → A x)
    (kk : ∀ (wo : va_W), Pw wo → ∀ (H1 : Heap) (locs1 : List Loc), va_P D vwCl (ws ++ wo) H1 → va_D A (ws ++ wo) → va_S A s.heap H1 locs1 → W p l e R s m args below meth c H1 locs1 (cells + mc) (slots + ms) Q (F0 m (pc + 3) ls rest)) : W p l e R s m args below meth c H locs cells slots Q (F0 m pc ls st0) := by
  intro T hT X
  obtain ⟨v, st₀, t, T', L, h0, X', hL, e1, e2, ⟨⟨hv, ⟨wo, hw, hP1, hD1⟩, hK1⟩, hz, hk⟩, st⟩ := hr T hT X
  cases hv
  rw [h0] at hz hk
  have hF := va_free (wc := [(q, e0)]) hD hS hA [ws.length] (by simp)
  obtain ⟨hP2, hD2⟩ := z_joinN (H1 := t.heap) hP hD (fun x h => hA x (Nat.le_trans hS.1 h)) hk hP1 hD1
  obtain ⟨t2, a1, b1⟩ := kk wo hw T'.heap (locs ++ L) (by rw [e1]; exact hP2) hD2
    ⟨Nat.le_trans hS.1 (by rw [e1]; exact hz), fun x h1 h2 => by rw [e1, hk x (Nat.lt_of_lt_of_le h1 hS.1) (fun z => h2 (hF x z))]; exact hS.2.1 x h1 h2, fun x hx => by
      rcases List.mem_append.mp hx with h | h
      · exact hS.2.2 x h
      · exact hF _ (hL x h)⟩ T' rfl X'
  exact ⟨t2, st t2 a1, b1⟩
theorem z_callI (F : CallFix p m c cc nL s args wsG own) (hy : zY y cb ml none 0) (hi : Cond.instanceMethod y ∈ wsG) (hnm : y.name = "<init>") (hl : Cond.methodLink own index y ∈ wsG) (hM : zMn l D cs y cb ml fr lo mc ms [.ref q] [(q, e0)] Pw)
    (hE : zE A s) (hK : va_K D vwCl (zT cs) s) (hA : ∀ x : Nat, s.heap.size ≤ x → A x) (hP : va_P D vwCl (ws ++ [(q, e0)]) H) (hD : va_D A (ws ++ [(q, e0)])) (hS : va_S A s.heap H locs)
    (hsz : ls.size = nL) (hW : (rest.map fun v => v.category).sum ≤ 8) (hR : fr + 1 ≤ R.frames ∧ 8 + (ml + 11) + lo ≤ R.locals) (hf : cells + mc ≤ R.cells ∧ slots + ms ≤ R.slots) (hdg : decode cc pc = .ok (.invokespecial index, 3))
    (kk : ∀ (wo : va_W), Pw wo → ∀ (H1 : Heap) (locs1 : List Loc), va_P D vwCl (ws ++ wo) H1 → va_D A (ws ++ wo) → va_S A s.heap H1 locs1 → W p l e R s m args below meth c H1 locs1 (cells + mc) (slots + ms) Q (F0 m (pc + 3) ls rest)) : W p l e R s m args below meth c H locs cells slots Q (F0 m pc ls (.ref q :: rest)) := by
  have hp := z_pre (av := [.ref q]) (wc := [(q, e0)]) hE hK hP hD hS hA [ws.length] (by simp) rfl
  exact z_goN (va_runI (As := []) (rest := rest) F (hM H.size) ⟨callB_of 0 F.2.2.2.2 (z_good hy.1) rfl rfl rfl (F.2.2.2.2 _ hy.2.1) (F.2.2.2.2 _ hl) hy.2.2 hR, hnm, F.2.2.2.2 _ hi⟩ hp rfl rfl hsz rfl (by show 2 * 0 + _ ≤ 8; omega) hdg hf) hP hD hS hA kk
theorem z_callIN (F : CallFix p m c cc nL s args wsG own) (hy : zY y cb ml none 0) (hi : Cond.instanceMethod y ∈ wsG) (hnm : y.name = "<init>") (hl : (own, index, y, host) ∈ zNestL) (hM : zMn l D cs y cb ml fr lo mc ms [.ref q] [(q, e0)] Pw)
    (hE : zE A s) (hK : va_K D vwCl (zT cs) s) (hA : ∀ x : Nat, s.heap.size ≤ x → A x) (hP : va_P D vwCl (ws ++ [(q, e0)]) H) (hD : va_D A (ws ++ [(q, e0)])) (hS : va_S A s.heap H locs)
    (hsz : ls.size = nL) (hW : (rest.map fun v => v.category).sum ≤ 8) (hR : fr + 1 ≤ R.frames ∧ 8 + (ml + 11) + lo ≤ R.locals) (hf : cells + mc ≤ R.cells ∧ slots + ms ≤ R.slots) (hdg : decode cc pc = .ok (.invokespecial index, 3))
    (kk : ∀ (wo : va_W), Pw wo → ∀ (H1 : Heap) (locs1 : List Loc), va_P D vwCl (ws ++ wo) H1 → va_D A (ws ++ wo) → va_S A s.heap H1 locs1 → W p l e R s m args below meth c H1 locs1 (cells + mc) (slots + ms) Q (F0 m (pc + 3) ls rest)) : W p l e R s m args below meth c H locs cells slots Q (F0 m pc ls (.ref q :: rest)) := by
  have hp := z_pre (av := [.ref q]) (wc := [(q, e0)]) hE hK hP hD hS hA [ws.length] (by simp) rfl
  exact z_goN (va_runIN (As := []) (rest := rest) F (hM H.size) ⟨va_cnB 0 F.2.2.2.2 (z_good hy.1) rfl rfl rfl (hE.1 _ hl) (F.2.2.2.2 _ hy.2.1) hy.2.2 hR, hnm, F.2.2.2.2 _ hi⟩ hp rfl rfl hsz rfl (by show 2 * 0 + _ ≤ 8; omega) hdg hf) hP hD hS hA kk
/-- a constructor's end, its world put in order -/
theorem z_nret (hx : p.tables.exec = Jvm.exec) (hb : c.code = cc) (hr : meth.sig.returnType = none) (hlk : meth.locks = false) (hK : va_K D vwCl (zT cs) s) (hP : va_P D vwCl ws H) (hD : va_D A ws) (hS : va_S A s.heap H locs) (hdg : decode cc pc = .ok (.return_, 1)) (is : List Nat) (hn : va_nd is = true) (hs : is.map (fun i => ws[i]?) = wo.map some) (hs2 : is.filterMap (fun i => ws[i]?) = wo) (hw : Pw wo) :
    W p l e R s m args below meth c H locs cells slots (MQ below (zQn D cs Pw A) args s cells slots A) (F0 m pc ls []) :=
  W.vret hx hb hr (fun _ ht hW => ⟨⟨rfl, ⟨wo, hw, by rw [ht]; exact hP.sub is hs2, hD.sub is hn hs⟩, va_K.moved hW.alike hK⟩, hS.F ht⟩) hS.2.2 hdg hlk
/-- a new array of ints -/
theorem z_newa (hx : p.tables.exec = Jvm.exec) (hb : c.code = cc) (hts : ∀ w ∈ wsG, w.before args s = true) (hK : va_K D vwCl (zT cs) s) (hP : va_P D vwCl ws H) (hD : va_D A ws) (hS : va_S A s.heap H locs) (hA : ∀ x : Nat, s.heap.size ≤ x → A x)
    {n : Int32} {N : Nat} (hn : ¬ n < 0) (hN : n.toNatClampNeg = N) (hB : N * 4 ≤ 536870912) (hcells : cells + 1 ≤ R.cells) (hslots : slots + N ≤ R.slots) (hdg : decode cc pc = .ok (.newarray .int, 2))
    (kk : ∀ (x : Nat) (H1 : Heap), va_P D vwCl (ws ++ [(x, .inl (cs.1, N, .inl (fun _ => 0)))]) H1 → va_D A (ws ++ [(x, .inl (cs.1, N, .inl (fun _ => 0)))]) → va_S A s.heap H1 locs →
      W p l e R s m args below meth c H1 locs (cells + 1) (slots + N) Q (F0 m (pc + 2) ls (.ref x :: rest))) : W p l e R s m args below meth c H locs cells slots Q (F0 m pc ls (.int n :: rest)) := by
  refine va_newa (atype := .int) (ty := .int) (a0 := (N, .inl (fun _ => 0))) hx hb (hts _ w_ac_int) rfl hK hP hD hS hA (fun _ => rfl) hn hN hB hcells hslots hdg (fun x cA H1 hK1 hP1 hD1 hS1 => ?_)
  have h1 : s.vm.findClass ("[" ++ FieldType.int.toString) = some cs.1 := (hK.2 0 (cs.1, .int) rfl).2
  have h2 : s.vm.findClass ("[" ++ FieldType.int.toString) = some cA := (hK1.2 3 (cA, .int) rfl).2
  rw [h1] at h2
  cases h2
  exact kk x H1 hP1 hD1 hS1
end ZN
