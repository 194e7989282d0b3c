/-! a call on the front of the world -/
theorem z_rg_c (wr : va_W) : ∀ (wc : va_W) (w0 : va_W), (List.range' w0.length wc.length).map (fun i => (w0 ++ (wc ++ wr))[i]?) = wc.map some
  | [], _ => rfl
  | q :: wc, w0 => by
    have ih := z_rg_c wr wc (w0 ++ [q])
    rw [List.length_cons, List.range'_succ, List.map_cons, List.map_cons]
    congr 1
    · rw [List.getElem?_append_right (Nat.le_refl _), Nat.sub_self]; rfl
    · rw [List.length_append, List.append_assoc] at ih
      exact ih
theorem z_rg_n : ∀ (n k : Nat), va_nd (List.range' k n) = true
  | 0, _ => rfl
  | n + 1, k => by
    rw [List.range'_succ]
    show (decide (k ∉ List.range' (k + 1) n) && va_nd (List.range' (k + 1) n)) = true
    rw [z_rg_n n (k + 1), Bool.and_true, decide_eq_true_eq, List.mem_range'_1]
    omega
theorem z_ins_skip (k : Nat) (is : List Nat) (q : Nat × va_E) (w : va_W) : ∀ (ws : va_W) (j : Nat), k < j → z_ins j ws (k :: is) (q :: w) = z_ins j ws is w
  | [], _, _ => rfl
  | x :: ws, j, h => by
    show (match z_pick j (k :: is) (q :: w) with | some q' => q' | none => x) :: z_ins (j + 1) ws (k :: is) (q :: w) = (match z_pick j is w with | some q' => q' | none => x) :: z_ins (j + 1) ws is w
    rw [z_ins_skip k is q w ws (j + 1) (by omega)]
    have e : z_pick j (k :: is) (q :: w) = z_pick j is w := by
      show (if k = j then some q else z_pick j is w) = _
      rw [if_neg (by omega)]
    rw [e]
theorem z_rg_i (wr : va_W) : ∀ (wc wo : va_W) (k : Nat), wo.length = wc.length → z_ins k (wc ++ wr) (List.range' k wc.length) wo = wo ++ wr
  | [], wo, k, h => by
    rw [List.length_eq_zero_iff.mp h]
    exact z_ins_nil
  | q :: wc, [], k, h => by simp at h
  | q :: wc, q' :: wo, k, h => by
    rw [List.length_cons, List.range'_succ]
    show (match z_pick k (k :: List.range' (k + 1) wc.length) (q' :: wo) with | some q'' => q'' | none => q) :: z_ins (k + 1) (wc ++ wr) (k :: List.range' (k + 1) wc.length) (q' :: wo) = q' :: (wo ++ wr)
    rw [z_ins_skip k _ q' wo _ (k + 1) (by omega), z_rg_i wr wc wo (k + 1) (by simpa using h)]
    have e : z_pick k (k :: List.range' (k + 1) wc.length) (q' :: wo) = some q' := by
      show (if k = k then some q' else _) = some q'
      rw [if_pos rfl]
    rw [e]
section ZL
variable {p : Program} {l : Launch} {e : Env} {R : Room} {s : State} {m : MethodId} {args : Array Value} {below : List Frame} {meth : Method} {c : Code} {H : Heap} {locs : List Loc} {cells slots : Nat} {Q : State → Prop}
variable {pc : Nat} {ls : Array Slot} {A : Nat → Prop} {mc ms : Nat} {D : va_G} {cs : zCs} {wr wc wo : va_W} {rv : Option Value}
variable {cc cb : ByteArray} {nL n index ml fr lo : Nat} {own host : String} {y : MethodName} {ret : Option FieldType} {hh : List (Nat × Nat × Nat × Nat)}
theorem z_lawV (F : CallFix p m c cc nL s args wsG own) (hy : zY y cb ml ret n) (hi : Cond.instanceMethod y ∈ wsG) (hse : Cond.selects y.cls y y ∈ wsG) (hl : Cond.methodLink own index y ∈ wsG) {b : Nat} (As rest : List Value) (hM : zM l D cs y cb ml ret fr lo mc ms (.ref b :: As) wc rv wo)
    (hE : zE A s) (hK : va_K D vwCl (zT cs) s) (hA : ∀ q : Nat, s.heap.size ≤ q → A q) (hP : va_P D vwCl (wc ++ wr) H) (hD : va_D A (wc ++ wr)) (hS : va_S A s.heap H locs)
    (hlen : wo.map (fun q => q.1) = wc.map (fun q => q.1))
    (ci : Nat) {r : vw_C} {fs : List Value} (hcl : vwCl[ci]? = some r) (hr0 : wc[0]? = some (b, .inr (ci, fs))) (hrC : r.1 = y.cls)
    (hn : As.length = n) (hsz : ls.size = nL) (hW : (rest.map fun v => v.category).sum ≤ 8) (hR : fr + 1 ≤ R.frames ∧ 8 + (ml + 11) + lo ≤ R.locals) (hf : cells + mc ≤ R.cells ∧ slots + ms ≤ R.slots) (hdg : decode cc pc = .ok (.invokevirtual index, 3))
    (kk : ∀ (H1 : Heap) (locs1 : List Loc), va_P D vwCl (wo ++ wr) H1 → va_D A (wo ++ wr) → va_S A s.heap H1 locs1 → W p l e R s m args below meth c H1 locs1 (cells + mc) (slots + ms) Q (F0 m (pc + 3) ls (rv.toList ++ rest))) : W p l e R s m args below meth c H locs cells slots Q (F0 m pc ls (As.reverse ++ .ref b :: rest)) :=
  z_callV F hy hi hse hl As rest hM hE hK hA hP hD hS (List.range' 0 wc.length) (z_rg_c wr wc []) (z_rg_n _ 0) hlen (z_rg_i wr wc wo 0 (by have := congrArg List.length hlen; simpa using this)) ci hcl hr0 hrC hn hsz hW hR hf hdg kk
theorem z_lawH (F : CallFix p m c cc nL s args wsG own) (hy : zYw y cb ml ret hh n) (hst : Cond.static y ∈ wsG) (hl : Cond.methodLink own index y ∈ wsG) (As rest : List Value) (hM : zMw l D cs y cb ml ret hh fr lo mc ms As wc rv wo)
    (hE : zE A s) (hK : va_K D vwCl (zT cs) s) (hA : ∀ q : Nat, s.heap.size ≤ q → A q) (hP : va_P D vwCl (wc ++ wr) H) (hD : va_D A (wc ++ wr)) (hS : va_S A s.heap H locs)
    (hlen : wo.map (fun q => q.1) = wc.map (fun q => q.1))
    (hn : As.length = n) (hsz : ls.size = nL) (hW : (rest.map fun v => v.category).sum ≤ 8) (hR : fr + 1 ≤ R.frames ∧ 8 + (ml + 11) + lo ≤ R.locals) (hf : cells + mc ≤ R.cells ∧ slots + ms ≤ R.slots) (hdg : decode cc pc = .ok (.invokestatic index, 3))
    (kk : ∀ (H1 : Heap) (locs1 : List Loc), va_P D vwCl (wo ++ wr) H1 → va_D A (wo ++ wr) → va_S A s.heap H1 locs1 → W p l e R s m args below meth c H1 locs1 (cells + mc) (slots + ms) Q (F0 m (pc + 3) ls (rv.toList ++ rest))) : W p l e R s m args below meth c H locs cells slots Q (F0 m pc ls (As.reverse ++ rest)) :=
  z_callSW F hy hst hl As rest hM hE hK hA hP hD hS (List.range' 0 wc.length) (z_rg_c wr wc []) (z_rg_n _ 0) hlen (z_rg_i wr wc wo 0 (by have := congrArg List.length hlen; simpa using this)) hn hsz hW hR hf hdg kk
/-- a number of the script -/
theorem z_scr {xs : Nat → Int32} {b L k : Nat} (hx : p.tables.exec = Jvm.exec) (hb : c.code = cc) (hX : va_X b L xs s s.heap) (hbl : b < s.heap.size) (hbA : ¬ A b) (hS : va_S A s.heap H locs) (hk : k < L) (hL : L ≤ 2560) (hdg : decode cc pc = .ok (.iaload, 1)) {rest : List Value}
    (kk : W p l e R s m args below meth c H locs cells slots Q (F0 m (pc + 1) ls (.int (xs k) :: rest))) : W p l e R s m args below meth c H locs cells slots Q (F0 m pc ls (.int (nI k) :: .ref b :: rest)) := by
  refine va_sld hx hb hX hbl hbA hS (vp_in_nI hk (by omega)) hdg ?_
  rw [nI_clamp (by omega)]
  exact kk
/-- the answer of a helper -/
theorem z_lout {OL : Nat → Int64} {o q0 : Nat} (hx : p.tables.exec = Jvm.exec) (hb : c.code = cc) (hK : va_K D vwCl (zT cs) s) {ws : va_W} (hP : va_P D vwCl ws H) (ha : ws[q0]? = some (o, .inl (cs.2.1, 1, .inr (.inl OL)))) (hdg : decode cc pc = .ok (.laload, 1)) {v : Int64} (hv : OL 0 = v) {rest : List Value}
    (kk : W p l e R s m args below meth c H locs cells slots Q (F0 m (pc + 1) ls (.long v :: rest))) : W p l e R s m args below meth c H locs cells slots Q (F0 m pc ls (.int 0 :: .ref o :: rest)) := by
  refine va_lald (i := 0) hx hb hK hP q0 1 ha rfl (vp_in_nI (n := 0) (N := 1) (by decide) (by decide)) hdg ?_
  rw [show (0 : Int32).toNatClampNeg = 0 from rfl, hv]
  exact kk
end ZL
/-- a world in another order -/
theorem z_perm {A : Nat → Prop} {D : va_G} {cl : List vw_C} {ws ws' : va_W} {H : Heap} (hm : ∀ q, q ∈ ws' → q ∈ ws) (hc : ∀ a : Nat, (ws'.map (fun q => q.1)).count a = (ws.map (fun q => q.1)).count a) (hP : va_P D cl ws H) (hD : va_D A ws) : va_P D cl ws' H ∧ va_D A ws' := by
  refine ⟨fun k q h => ?_, ?_, fun k q h => ?_⟩
  · obtain ⟨j, hj⟩ := List.mem_iff_getElem?.mp (hm q (List.mem_of_getElem? h))
    exact hP j q hj
  · have hn : (ws.map (fun q => q.1)).Nodup := by
      rw [List.nodup_iff_pairwise_ne, List.pairwise_iff_getElem]
      intro i j hi hj hij e
      have hi' : i < ws.length := by simpa using hi
      have hj' : j < ws.length := by simpa using hj
      have := hD.1 i j ws[i] ws[j] (List.getElem?_eq_getElem hi') (List.getElem?_eq_getElem hj') (by simpa using e)
      omega
    have hn' : (ws'.map (fun q => q.1)).Nodup := ((List.perm_iff_count.mpr hc).nodup_iff).mpr hn
    rw [List.nodup_iff_pairwise_ne, List.pairwise_iff_getElem] at hn'
    intro i j p q h1 h2 e
    obtain ⟨hi, e1⟩ := List.getElem?_eq_some_iff.mp h1
    obtain ⟨hj, e2⟩ := List.getElem?_eq_some_iff.mp h2
    rcases Nat.lt_trichotomy i j with h | h | h
    · exact (hn' i j (by simpa using hi) (by simpa using hj) h (by rw [List.getElem_map, List.getElem_map, e1, e2]; exact e)).elim
    · exact h
    · exact (hn' j i (by simpa using hj) (by simpa using hi) h (by rw [List.getElem_map, List.getElem_map, e1, e2]; exact e.symm)).elim
  · obtain ⟨j, hj⟩ := List.mem_iff_getElem?.mp (hm q (List.mem_of_getElem? h))
    exact hD.2 j q hj
/-! the addresses of a world stay -/
theorem z_la {u u' w w' : va_W} (h : u.map (fun q => q.1) = u'.map (fun q => q.1)) (h' : w.map (fun q => q.1) = w'.map (fun q => q.1)) : (u ++ w).map (fun q => q.1) = (u' ++ w').map (fun q => q.1) := by
  rw [List.map_append, List.map_append, h, h']
theorem z_lm (cs : zCs) (a : Nat → Nat) (S S' : Nat → Int32) (F F' : Nat → Nat → Int32) : (macW cs a S F).map (fun q => q.1) = (macW cs a S' F').map (fun q => q.1) := rfl
theorem z_lh (cs : zCs) (a : Nat → Nat) (kd : Nat → Nat → Nat) (S S' : Nat → Int32) : (hisW cs a kd S).map (fun q => q.1) = (hisW cs a kd S').map (fun q => q.1) := rfl
theorem z_lt (cs : zCs) (a : Nat → Nat) (S S' : Nat → Int32) (F F' : Nat → Nat → Int32) : (txtW cs a S F).map (fun q => q.1) = (txtW cs a S' F').map (fun q => q.1) := rfl
theorem z_lr (cs : zCs) (a : Nat → Nat) (S S' : Nat → Int32) (F F' : Nat → Nat → Int32) : (refW cs a S F).map (fun q => q.1) = (refW cs a S' F').map (fun q => q.1) := rfl
theorem z_lo (cs : zCs) (o : Nat) (f g : Nat → Int64) : ([(o, .inl (cs.2.1, 1, .inr (.inl f)))] : va_W).map (fun q => q.1) = ([(o, .inl (cs.2.1, 1, .inr (.inl g)))] : va_W).map (fun q => q.1) := rfl
