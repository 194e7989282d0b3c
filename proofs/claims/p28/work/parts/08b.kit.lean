/-! a call on the front of the world -/
theorem z_rg_c (wr : va_W) : ∀ (wc : va_W) (w0 : va_W), (List.range' w0.length wc.length).map (fun i => (w0 ++ (wc ++ wr))[i]?) = wc.map some
  | [], _ => rfl
  | q :: wc, w0 => by
    have ih := z_rg_c wr wc (w0 ++ [q])
    rw [List.length_cons, List.range'_succ, List.map_cons, List.map_cons]
    congr 1
    · rw [List.getElem?_append_right (Nat.le_refl _), Nat.sub_self]; rfl
    · rw [List.length_append, List.append_assoc] at ih
      exact ih
theorem z_rg_n : ∀ (n k : Nat), va_nd (List.range' k n) = true
  | 0, _ => rfl
  | n + 1, k => by
    rw [List.range'_succ]
    show (decide (k ∉ List.range' (k + 1) n) && va_nd (List.range' (k + 1) n)) = true
    rw [z_rg_n n (k + 1), Bool.and_true, decide_eq_true_eq, List.mem_range'_1]
    omega
theorem z_ins_skip (k : Nat) (is : List Nat) (q : Nat × va_E) (w : va_W) : ∀ (ws : va_W) (j : Nat), k < j → z_ins j ws (k :: is) (q :: w) = z_ins j ws is w
  | [], _, _ => rfl
  | x :: ws, j, h => by
    show (match z_pick j (k :: is) (q :: w) with | some q' => q' | none => x) :: z_ins (j + 1) ws (k :: is) (q :: w) = (match z_pick j is w with | some q' => q' | none => x) :: z_ins (j + 1) ws is w
    rw [z_ins_skip k is q w ws (j + 1) (by omega)]
    have e : z_pick j (k :: is) (q :: w) = z_pick j is w := by
      show (if k = j then some q else z_pick j is w) = _
      rw [if_neg (by omega)]
    rw [e]
theorem z_rg_i (wr : va_W) : ∀ (wc wo : va_W) (k : Nat), wo.length = wc.length → z_ins k (wc ++ wr) (List.range' k wc.length) wo = wo ++ wr
  | [], wo, k, h => by
    rw [List.length_eq_zero_iff.mp h]
    exact z_ins_nil
  | q :: wc, [], k, h => by simp at h
  | q :: wc, q' :: wo, k, h => by
    rw [List.length_cons, List.range'_succ]
    show (match z_pick k (k :: List.range' (k + 1) wc.length) (q' :: wo) with | some q'' => q'' | none => q) :: z_ins (k + 1) (wc ++ wr) (k :: List.range' (k + 1) wc.length) (q' :: wo) = q' :: (wo ++ wr)
    rw [z_ins_skip k _ q' wo _ (k + 1) (by omega), z_rg_i wr wc wo (k + 1) (by simpa using h)]
    have e : z_pick k (k :: List.range' (k + 1) wc.length) (q' :: wo) = some q' := by
      show (if k = k then some q' else _) = some q'
      rw [if_pos rfl]
    rw [e]
section ZL
variable {p : Program} {l : Launch} {e : Env} {R : Room} {s : State} {m : MethodId} {args : Array Value} {below : List Frame} {meth : Method} {c : Code} {H : Heap} {locs : List Loc} {cells slots : Nat} {Q : State → Prop}
variable {pc : Nat} {ls : Array Slot} {A : Nat → Prop} {mc ms : Nat} {D : va_G} {cs : zCs} {wr wc wo : va_W} {rv : Option Value}
variable {cc cb : ByteArray} {nL n index ml fr lo : Nat} {own host : String} {y : MethodName} {ret : Option FieldType}
theorem z_lawV (F : CallFix p m c cc nL s args wsG own) (hy : zY y cb ml ret n) (hi : Cond.instanceMethod y ∈ wsG) (hse : Cond.selects y.cls y y ∈ wsG) (hl : Cond.methodLink own index y ∈ wsG) {b : Nat} (As rest : List Value) (hM : zM l D cs y cb ml ret fr lo mc ms (.ref b :: As) wc rv wo)
    (hE : zE A s) (hK : va_K D vwCl (zT cs) s) (hA : ∀ q : Nat, s.heap.size ≤ q → A q) (hP : va_P D vwCl (wc ++ wr) H) (hD : va_D A (wc ++ wr)) (hS : va_S A s.heap H locs)
    (hlen : wo.map (fun q => q.1) = wc.map (fun q => q.1))
    (ci : Nat) {r : vw_C} {fs : List Value} (hcl : vwCl[ci]? = some r) (hr0 : wc[0]? = some (b, .inr (ci, fs))) (hrC : r.1 = y.cls)
    (hn : As.length = n) (hsz : ls.size = nL) (hW : (rest.map fun v => v.category).sum ≤ 8) (hR : fr + 1 ≤ R.frames ∧ 8 + (ml + 11) + lo ≤ R.locals) (hf : cells + mc ≤ R.cells ∧ slots + ms ≤ R.slots) (hdg : decode cc pc = .ok (.invokevirtual index, 3))
    (kk : ∀ (H1 : Heap) (locs1 : List Loc), va_P D vwCl (wo ++ wr) H1 → va_D A (wo ++ wr) → va_S A s.heap H1 locs1 → W p l e R s m args below meth c H1 locs1 (cells + mc) (slots + ms) Q (F0 m (pc + 3) ls (rv.toList ++ rest))) : W p l e R s m args below meth c H locs cells slots Q (F0 m pc ls (As.reverse ++ .ref b :: rest)) :=
  z_callV F hy hi hse hl As rest hM hE hK hA hP hD hS (List.range' 0 wc.length) (z_rg_c wr wc []) (z_rg_n _ 0) hlen (z_rg_i wr wc wo 0 (by have := congrArg List.length hlen; simpa using this)) ci hcl hr0 hrC hn hsz hW hR hf hdg kk
/-- a number of the script -/
theorem z_scr {xs : Nat → Int32} {b L k : Nat} (hx : p.tables.exec = Jvm.exec) (hb : c.code = cc) (hX : va_X b L xs s s.heap) (hbl : b < s.heap.size) (hbA : ¬ A b) (hS : va_S A s.heap H locs) (hk : k < L) (hL : L ≤ 2560) (hdg : decode cc pc = .ok (.iaload, 1)) {rest : List Value}
    (kk : W p l e R s m args below meth c H locs cells slots Q (F0 m (pc + 1) ls (.int (xs k) :: rest))) : W p l e R s m args below meth c H locs cells slots Q (F0 m pc ls (.int (nI k) :: .ref b :: rest)) := by
  refine va_sld hx hb hX hbl hbA hS (vp_in_nI hk (by omega)) hdg ?_
  rw [nI_clamp (by omega)]
  exact kk
end ZL
/-- a world in another order -/
theorem z_perm {A : Nat → Prop} {D : va_G} {cl : List vw_C} {ws ws' : va_W} {H : Heap} (hm : ∀ q, q ∈ ws' → q ∈ ws) (hc : ∀ a : Nat, (ws'.map (fun q => q.1)).count a = (ws.map (fun q => q.1)).count a) (hP : va_P D cl ws H) (hD : va_D A ws) : va_P D cl ws' H ∧ va_D A ws' := by
  refine ⟨fun k q h => ?_, ?_, fun k q h => ?_⟩
  · obtain ⟨j, hj⟩ := List.mem_iff_getElem?.mp (hm q (List.mem_of_getElem? h))
    exact hP j q hj
  · have hn : (ws.map (fun q => q.1)).Nodup := by
      rw [List.nodup_iff_pairwise_ne, List.pairwise_iff_getElem]
      intro i j hi hj hij e
      have hi' : i < ws.length := by simpa using hi
      have hj' : j < ws.length := by simpa using hj
      have := hD.1 i j ws[i] ws[j] (List.getElem?_eq_getElem hi') (List.getElem?_eq_getElem hj') (by simpa using e)
      omega
    have hn' : (ws'.map (fun q => q.1)).Nodup := ((List.perm_iff_count.mpr hc).nodup_iff).mpr hn
    rw [List.nodup_iff_pairwise_ne, List.pairwise_iff_getElem] at hn'
    intro i j p q h1 h2 e
    obtain ⟨hi, e1⟩ := List.getElem?_eq_some_iff.mp h1
    obtain ⟨hj, e2⟩ := List.getElem?_eq_some_iff.mp h2
    rcases Nat.lt_trichotomy i j with h | h | h
    · exact (hn' i j (by simpa using hi) (by simpa using hj) h (by rw [List.getElem_map, List.getElem_map, e1, e2]; exact e)).elim
    · exact h
    · exact (hn' j i (by simpa using hj) (by simpa using hi) h (by rw [List.getElem_map, List.getElem_map, e1, e2]; exact e.symm)).elim
  · obtain ⟨j, hj⟩ := List.mem_iff_getElem?.mp (hm q (List.mem_of_getElem? h))
    exact hD.2 j q hj
/-! the addresses of a world stay -/
theorem z_la {u u' w w' : va_W} (h : u.map (fun q => q.1) = u'.map (fun q => q.1)) (h' : w.map (fun q => q.1) = w'.map (fun q => q.1)) : (u ++ w).map (fun q => q.1) = (u' ++ w').map (fun q => q.1) := by
  rw [List.map_append, List.map_append, h, h']
theorem z_lm (cs : zCs) (a : Nat → Nat) (S S' : Nat → Int32) (F F' : Nat → Nat → Int32) : (macW cs a S F).map (fun q => q.1) = (macW cs a S' F').map (fun q => q.1) := rfl
theorem z_lh (cs : zCs) (a : Nat → Nat) (kd : Nat → Nat → Nat) (S S' : Nat → Int32) : (hisW cs a kd S).map (fun q => q.1) = (hisW cs a kd S').map (fun q => q.1) := rfl
theorem z_lt (cs : zCs) (a : Nat → Nat) (S S' : Nat → Int32) (F F' : Nat → Nat → Int32) : (txtW cs a S F).map (fun q => q.1) = (txtW cs a S' F').map (fun q => q.1) := rfl
theorem z_l0 (D : va_W) : D.map (fun q => q.1) = D.map (fun q => q.1) := rfl
/-! a callee that leaves a world of a kind -/
def zQe (D : va_G) (cs : zCs) (rv : Option Value) (Pw : va_W → Prop) (A : Nat → Prop) : Array Value → State → Outcome → State → Prop := fun a st o t => ∃ wo, Pw wo ∧ zQ D cs rv wo A a st o t
def zMe (l : Launch) (D : va_G) (cs : zCs) (y : MethodName) (cb : ByteArray) (ml : Nat) (ret : Option FieldType) (fr lo mc ms : Nat) (av : List Value) (w : va_W) (rv : Option Value) (Pw : va_W → Prop) : Prop :=
  ∀ sz : Nat, Met l y (Cond.code y cb ml ret :: wsG) ({ frames := fr, cells := mc, slots := ms, locals := lo } : Room) (va_Pc av (zPre D cs w sz)) (zQe D cs rv Pw (va_A w sz)) mc ms (va_A w sz)
theorem zMe.of {l : Launch} {D : va_G} {cs : zCs} {y : MethodName} {cb : ByteArray} {ml : Nat} {ret : Option FieldType} {fr lo mc ms : Nat} {av : List Value} {w : va_W} {rv : Option Value} {Pw : va_W → Prop} {own : String}
    (hy : plainName y.cls = true) (hl : (lg_sl av).length ≤ ml) (ho : y.cls = own)
    (body : ∀ (p : Program) (e : Env) (s : State) (m : MethodId) (below : List Frame) (meth : Method) (c : Code) (A : Nat → Prop) (ls : Array Slot), p.tables.exec = Jvm.exec → c.code = cb → meth.sig.returnType = ret → c.maxLocals = ml → s.vm.findClass own = some m.cls → (∀ w ∈ wsG, w.before av.toArray s = true) → meth.locks = false → meth.name = y.name → zE A s → va_K D vwCl (zT cs) s → (∀ q : Nat, s.heap.size ≤ q → A q) → va_P D vwCl w s.heap → va_D A w → va_S A s.heap s.heap [] → lv_has ls ml (lv_args 0 av) →
      W p l e ({ frames := fr, cells := mc, slots := ms, locals := lo } : Room) s m av.toArray below meth c s.heap [] 0 0 (MQ below (zQe D cs rv Pw A) av.toArray s mc ms A) (F0 m 0 ls [])) : zMe l D cs y cb ml ret fr lo mc ms av w rv Pw := by
  subst ho
  intro sz
  refine Met.ofW (cc := cb) (maxL := ml) (ret := ret) hy rfl ?_
  intro p e s m args below meth c s₁ B hml hv
  obtain ⟨rfl, hsz, hP, hK, hD0, hE⟩ := hv
  have hts := atoms_spec (ws := Cond.code y cb ml ret :: wsG) B.pre
  subst hsz
  have hD := hD0.self (sz := s.heap.size)
  have hlv := lv_entry av (n := ml) hl
  rw [lg_entry_eq]
  exact body p e s m below meth c _ _ B.exec B.bytes B.returns hml (findClass_of_methodNamed B.named) (fun w hw => hts w (List.mem_cons_of_mem _ hw)) B.notSynchronized (name_of_methodNamed B.named B.method).1 hE hK (fun q h => Or.inr h) hP hD va_S.rf hlv
section ZLE
variable {p : Program} {l : Launch} {e : Env} {R : Room} {s : State} {m : MethodId} {args : Array Value} {below : List Frame} {meth : Method} {c : Code} {H : Heap} {locs : List Loc} {cells slots : Nat} {Q : State → Prop}
variable {pc : Nat} {ls : Array Slot} {rest st0 : List Value} {A : Nat → Prop} {mc ms : Nat} {D : va_G} {cs : zCs} {ws wr wc wo : va_W} {rv : Option Value} {a : Array Value} {Pw : va_W → Prop}
variable {cc cb : ByteArray} {nL n index ml fr lo : Nat} {own host : String} {y : MethodName} {ret : Option FieldType}
theorem z_goE (hr : va_Run p l e R s m args below meth c H locs cells slots mc ms (F0 m pc ls st0) rest (zQe D cs rv Pw (va_A wc H.size) a) (va_A wc H.size)) (hP : va_P D vwCl (wc ++ wr) H) (hD : va_D A (wc ++ wr)) (hS : va_S A s.heap H locs) (hA : ∀ q : Nat, s.heap.size ≤ q → A q)
    (hlen : ∀ wo, Pw wo → wo.map (fun q => q.1) = wc.map (fun q => q.1))
    (kk : ∀ (wo : va_W), Pw wo → ∀ (H1 : Heap) (locs1 : List Loc), va_P D vwCl (wo ++ wr) H1 → va_D A (wo ++ wr) → va_S A s.heap H1 locs1 → W p l e R s m args below meth c H1 locs1 (cells + mc) (slots + ms) Q (F0 m (pc + 3) ls (rv.toList ++ rest))) : W p l e R s m args below meth c H locs cells slots Q (F0 m pc ls st0) := by
  intro T hT X
  obtain ⟨v, st₀, t, T', L, h0, X', hL, e1, e2, ⟨wo, hw, ⟨⟨hv, hP1, hK1, hD1⟩, hz, hk⟩⟩, st⟩ := hr T hT X
  cases hv
  rw [h0] at hz hk
  have hC : (List.range' 0 wc.length).map (fun i => (wc ++ wr)[i]?) = wc.map some := z_rg_c wr wc []
  have hF := va_free (wc := wc) hD hS hA (List.range' 0 wc.length) hC
  obtain ⟨hP2, hD2⟩ := z_join (H1 := t.heap) hP hD (List.range' 0 wc.length) hC (z_rg_n _ 0) (hlen wo hw) hk hP1
  rw [z_rg_i wr wc wo 0 (by have := congrArg List.length (hlen wo hw); simpa using this)] at hP2 hD2
  obtain ⟨t2, a1, b1⟩ := kk wo hw T'.heap (locs ++ L) (by rw [e1]; exact hP2) hD2
    ⟨Nat.le_trans hS.1 (by rw [e1]; exact hz), fun q h1 h2 => by rw [e1, hk q (Nat.lt_of_lt_of_le h1 hS.1) (fun z => h2 (hF q z))]; exact hS.2.1 q h1 h2, fun q hq => by
      rcases List.mem_append.mp hq with h | h
      · exact hS.2.2 q h
      · exact hF _ (hL q h)⟩ T' rfl X'
  exact ⟨t2, st t2 a1, b1⟩
theorem z_lawE (F : CallFix p m c cc nL s args wsG own) (hy : zY y cb ml ret n) (hst : Cond.static y ∈ wsG) (hl : Cond.methodLink own index y ∈ wsG) (As rest : List Value) (hM : zMe l D cs y cb ml ret fr lo mc ms As wc rv Pw)
    (hE : zE A s) (hK : va_K D vwCl (zT cs) s) (hA : ∀ q : Nat, s.heap.size ≤ q → A q) (hP : va_P D vwCl (wc ++ wr) H) (hD : va_D A (wc ++ wr)) (hS : va_S A s.heap H locs)
    (hlen : ∀ wo, Pw wo → wo.map (fun q => q.1) = wc.map (fun q => q.1))
    (hn : As.length = n) (hsz : ls.size = nL) (hW : (rest.map fun v => v.category).sum ≤ 8) (hR : fr + 1 ≤ R.frames ∧ 8 + (ml + 11) + lo ≤ R.locals) (hf : cells + mc ≤ R.cells ∧ slots + ms ≤ R.slots) (hdg : decode cc pc = .ok (.invokestatic index, 3))
    (kk : ∀ (wo : va_W), Pw wo → ∀ (H1 : Heap) (locs1 : List Loc), va_P D vwCl (wo ++ wr) H1 → va_D A (wo ++ wr) → va_S A s.heap H1 locs1 → W p l e R s m args below meth c H1 locs1 (cells + mc) (slots + ms) Q (F0 m (pc + 3) ls (rv.toList ++ rest))) : W p l e R s m args below meth c H locs cells slots Q (F0 m pc ls (As.reverse ++ rest)) := by
  have hp := z_pre (av := As) (wc := wc) hE hK hP hD hS hA (List.range' 0 wc.length) (z_rg_c wr wc []) (z_rg_n _ 0)
  exact z_goE (va_runS (As := As) (rest := rest) F (hM H.size) ⟨callB_of n F.2.2.2.2 (z_good hy.1) rfl rfl rfl (F.2.2.2.2 _ hy.2.1) (F.2.2.2.2 _ hl) hy.2.2 hR, F.2.2.2.2 _ hst⟩ hp rfl hn hsz rfl (by show 2 * 0 + _ ≤ 8; omega) hdg hf) hP hD hS hA hlen kk
theorem z_zretE (hx : p.tables.exec = Jvm.exec) (hb : c.code = cc) (hr : meth.sig.returnType = some .boolean) (hlk : meth.locks = false) (hK : va_K D vwCl (zT cs) s) (hP : va_P D vwCl ws H) (hD : va_D A ws) (hS : va_S A s.heap H locs) (hdg : decode cc pc = .ok (.ireturn, 1)) {v : Int32} (hn : narrow .boolean (.int v) = .int v) (hv : some (.int v) = rv) (hw : Pw ws) :
    W p l e R s m args below meth c H locs cells slots (MQ below (zQe D cs rv Pw A) args s cells slots A) (F0 m pc ls [.int v]) :=
  W.zret hx hb hr hn (fun _ ht hW => ⟨ws, hw, z_end hK hP hD hS hv rfl ht hW⟩) hS.2.2 hdg hlk
end ZLE
/-! the law's small helpers -/
theorem zY_L_cell : zY yL_cell cL_cell 2 (some FieldType.int) 2 := ⟨w_co_yL_cell, w_in_L, by decide +kernel⟩
theorem zY_L_up : zY yL_up cL_up 2 (some FieldType.int) 2 := ⟨w_co_yL_up, w_in_L, by decide +kernel⟩
theorem zY_L_isStep : zY yL_isStep cL_isStep 7 (some FieldType.boolean) 4 := ⟨w_co_yL_isStep, w_in_L, by decide +kernel⟩
theorem zY_L_areAlike : zY yL_areAlike cL_areAlike 6 (some FieldType.boolean) 3 := ⟨w_co_yL_areAlike, w_in_L, by decide +kernel⟩
theorem zY_L_isSound : zY yL_isSound cL_isSound 7 (some FieldType.boolean) 2 := ⟨w_co_yL_isSound, w_in_L, by decide +kernel⟩
def upv (v : Int32) : Nat := v.toBitVec.toNat % 2147483648
theorem upv_lt (v : Int32) : upv v < 2147483648 := Nat.mod_lt _ (by decide)
theorem up_and (v : Int32) : v &&& 2147483647 = nI (upv v) := by
  apply Int32.toBitVec_inj.mp
  apply BitVec.eq_of_toNat_eq
  show (v.toBitVec &&& (2147483647 : Int32).toBitVec).toNat = (BitVec.ofNat 32 (upv v)).toNat
  have := upv_lt v
  rw [BitVec.toNat_and, BitVec.toNat_ofNat, Nat.mod_eq_of_lt (by omega)]
  exact Nat.and_two_pow_sub_one_eq_mod v.toBitVec.toNat 31
theorem up_rem {a m : Nat} (ha : a < 2147483648) (hm : 0 < m) (hm2 : m < 2147483648) : nI a - nI a / nI m * nI m = nI (a % m) := by
  have ea := nI_toInt (n := a) (by omega)
  have em := nI_toInt (n := m) (by omega)
  have hd : a / m * m ≤ a := Nat.div_mul_le_self a m
  have hq : a % m + a / m * m = a := by rw [Nat.mul_comm]; exact Nat.mod_add_div a m
  have hr : a % m < m := Nat.mod_lt _ hm
  have ed : (nI a / nI m).toInt = ((a / m : Nat) : Int) := by
    rw [p_div (by omega) (by omega), ea, em]; rfl
  have e2 : ((a / m : Nat) : Int) * (m : Int) = ((a / m * m : Nat) : Int) := rfl
  have e3 : (nI a / nI m * nI m).toInt = ((a / m * m : Nat) : Int) := by
    rw [p_mul (by rw [ed, em, e2]; omega), ed, em, e2]
  exact p_eq.mpr (by rw [p_sub (by omega), e3, ea, nI_toInt (by omega)]; omega)
theorem nI_n0 {m : Nat} (hm : 0 < m) (hm2 : m < 2147483648) : nI m ≠ 0 := fun h => by
  have e := nI_toInt (n := m) (by omega)
  rw [h, p_0] at e
  omega
set_option maxHeartbeats 4000000 in
set_option maxRecDepth 100000 in
theorem c_L_up (l : Launch) (D : va_G) (cs : zCs) (v : Int32) (m : Nat) (hm : 0 < m) (hm2 : m < 2147483648) : zM l D cs yL_up cL_up 2 (some FieldType.int) 0 0 0 0 [.int v, .int (nI m)] ([] : va_W) (some (.int (nI (upv v % m)))) ([] : va_W) := by
  refine zM.of (own := RL) (by decide) (Nat.le_of_ble_eq_true rfl) rfl ?_
  intro pq eq s mq below meth cq A ls hx hb hr hml hown hts hlk hnm hE hK hA hP hD hS hl
  have hl : lv_has ls 2 [(0, .int v), (1, .int (nI m))] := hl
  refine lv_iload_n hx hb dL_up_0 rfl (lv_at hl 0 rfl) ?_
  refine lv_ldc (v := 2147483647) hx hb hown (hts _ w_ct_L_8) dL_up_1 ?_
  refine lv_iand hx hb dL_up_3 ?_
  refine z_top (y := nI (upv v)) (up_and v) ?_
  refine lv_iload_n hx hb dL_up_4 rfl (lv_at hl 1 rfl) ?_
  refine lv_irem hx hb dL_up_5 (nI_n0 hm hm2) ?_
  refine z_top (y := nI (upv v % m)) (up_rem (upv_lt v) hm hm2) ?_
  exact z_iret hx hb hr hlk hK hP hD hS dL_up_6 rfl rfl
def scV (xs : Nat → Int32) (Ls k : Nat) : Int32 := if k < Ls then xs k else 1116352408 * (nI k + 593)
set_option maxHeartbeats 4000000 in
set_option maxRecDepth 100000 in
/-- a number of the script, or one of its own behind its end -/
theorem c_L_cell (l : Launch) (b Ls k : Nat) (xs : Nat → Int32) (hL : Ls ≤ 260) (hk : k ≤ 1000) : Met l yL_cell (Cond.code yL_cell cL_cell 2 (some FieldType.int) :: wsG) ({ frames := 0, cells := 0, slots := 0, locals := 0 } : Room) (va_Pc [.ref b, .int (nI k)] (fun U => va_X b Ls xs U U.heap ∧ b < U.heap.size)) (va_Qi (fun (r : Int32) (_ : Unit) => r = scV xs Ls k) (fun _ _ => True) (fun _ => False)) 0 0 (fun _ => False) := by
  refine Met.ofW (cc := cL_cell) (maxL := 2) (ret := some FieldType.int) (by decide) rfl ?_
  intro p e s m args below meth c s₁ B hml hv
  obtain ⟨rfl, hX, hbl⟩ := hv
  have hx := B.exec
  have hb := B.bytes
  have hr := B.returns
  have hts := atoms_spec (ws := Cond.code yL_cell cL_cell 2 (some FieldType.int) :: wsG) B.pre
  have hts := fun w (h : w ∈ wsG) => hts w (List.mem_cons_of_mem _ h)
  have hown : s.vm.findClass RL = some m.cls := findClass_of_methodNamed B.named
  have hlk := B.notSynchronized
  have hl := lv_entry ([.ref b, .int (nI k)]) (n := 2) (Nat.le_of_ble_eq_true rfl)
  rw [lg_entry_eq]
  generalize (lg_sl ([.ref b, .int (nI k)]) ++ List.replicate (2 - (lg_sl ([.ref b, .int (nI k)])).length) Slot.unset).toArray = ls at hl ⊢
  have hl : lv_has ls 2 [(0, .ref b), (1, .int (nI k))] := hl
  have hS : va_S (fun _ => False) s.heap s.heap [] := va_S.rf
  refine lv_iload_n hx hb dL_cell_0 rfl (lv_at hl 1 rfl) ?_
  refine lv_aload_n hx hb dL_cell_1 rfl (lv_at hl 0 rfl) ?_
  refine va_slen hx hb hX hbl (fun q => q) hS dL_cell_2 ?_
  refine lv_icmp_ge (tgt := 12) hx hb dL_cell_3 (by decide) (fun c1 => ?_) (fun c1 => ?_)
  · have h1 : ¬ k < Ls := fun h => by
      have := (nI_leI (a := Ls) (b := k) (by omega) (by omega)).mp c1
      omega
    refine lv_ldc (v := 1116352408) hx hb hown (hts _ w_ct_L_7) dL_cell_12 ?_
    refine lv_iload_n hx hb dL_cell_14 rfl (lv_at hl 1 rfl) ?_
    refine lv_sipush (v := 593) hx hb dL_cell_15 (by decide) ?_
    refine lv_iadd hx hb dL_cell_18 ?_
    refine lv_imul hx hb dL_cell_19 ?_
    exact W.iret hx hb hr (fun t ht hW => ⟨⟨_, (), rfl, (if_neg h1).symm, trivial⟩, hS.F ht⟩) (fun q hq => absurd hq List.not_mem_nil) dL_cell_20 hlk
  · have h1 : k < Ls := Nat.lt_of_not_le (fun h => c1 ((nI_leI (a := Ls) (b := k) (by omega) (by omega)).mpr h))
    refine lv_aload_n hx hb dL_cell_6 rfl (lv_at hl 0 rfl) ?_
    refine lv_iload_n hx hb dL_cell_7 rfl (lv_at hl 1 rfl) ?_
    refine va_sld hx hb hX hbl (fun q => q) hS (vp_in_nI h1 (by omega)) dL_cell_8 ?_
    rw [nI_clamp (by omega)]
    refine lv_goto (tgt := 20) hx hb dL_cell_9 (by decide) ?_
    exact W.iret hx hb hr (fun t ht hW => ⟨⟨_, (), rfl, (if_pos h1).symm, trivial⟩, hS.F ht⟩) (fun q hq => absurd hq List.not_mem_nil) dL_cell_20 hlk
section ZCELL
variable {p : Program} {l : Launch} {e : Env} {R : Room} {s : State} {m : MethodId} {args : Array Value} {below : List Frame} {meth : Method} {c : Code} {H : Heap} {locs : List Loc} {cells slots : Nat} {Q : State → Prop}
variable {pc : Nat} {ls : Array Slot} {rest : List Value} {A : Nat → Prop} {D : va_G} {cs : zCs} {ws : va_W} {cc : ByteArray} {nL b Ls k : Nat} {xs : Nat → Int32}
theorem z_cell (F : CallFix p m c cc nL s args wsG RL) (hLs : Ls ≤ 260) (hk : k ≤ 1000) (hX : va_X b Ls xs s s.heap) (hbl : b < s.heap.size) (hbA : ¬ A b) (hP : va_P D vwCl ws H) (hD : va_D A ws) (hS : va_S A s.heap H locs)
    (hsz : ls.size = nL) (hW : (rest.map fun v => v.category).sum ≤ 8) (hR : 0 + 1 ≤ R.frames ∧ 8 + (2 + 11) + 0 ≤ R.locals) (hf : cells + 0 ≤ R.cells ∧ slots + 0 ≤ R.slots) (hdg : decode cc pc = .ok (.invokestatic 72, 3))
    (kk : ∀ (H1 : Heap) (locs1 : List Loc), va_P D vwCl ws H1 → va_D A ws → va_S A s.heap H1 locs1 → W p l e R s m args below meth c H1 locs1 cells slots Q (F0 m (pc + 3) ls (.int (scV xs Ls k) :: rest))) : W p l e R s m args below meth c H locs cells slots Q (F0 m pc ls (.int (nI k) :: .ref b :: rest)) := by
  have hXH : va_X b Ls xs s H := hX.kept (hS.2.1 b hbl hbA)
  have hp : PreS s H (va_Pc [.ref b, .int (nI k)] (fun U => va_X b Ls xs U U.heap ∧ b < U.heap.size)) [.ref b, .int (nI k)] := by
    refine ⟨fun a U g mk q => ⟨q.1, va_X.moved (u := U) (U := U.calling g mk a) (Vm.Alike.refl U.vm) q.2.1, q.2.2⟩, fun U hU hW => ⟨rfl, ?_, ?_⟩⟩
    · rw [hU]; exact va_X.moved hW.alike hXH
    · rw [hU]; exact Nat.lt_of_lt_of_le hbl hS.1
  refine va_calli (va_runS (As := [.ref b, .int (nI k)]) (rest := rest) F (c_L_cell l b Ls k xs hLs hk) ⟨callB_of 2 F.2.2.2.2 (z_good w_co_yL_cell) rfl rfl rfl (F.2.2.2.2 _ w_in_L) (F.2.2.2.2 _ w_ml_L_72) zY_L_cell.2.2 hR, F.2.2.2.2 _ w_st_yL_cell⟩ hp rfl rfl hsz rfl (by show 2 * 0 + _ ≤ 8; omega) hdg hf) hS (fun _ _ h => h.elim) (fun _ h => h.elim) ?_
  intro r u t H1 locs1 ht hvm hr hB hz hkp hS1
  rw [show r = scV xs Ls k from hr]
  exact kk H1 locs1 (fun i q hq => (hP i q hq).kept (hkp q.1 (hP i q hq).lt (fun z => z))) hD hS1
end ZCELL
/-! ranges of written numbers -/
theorem g_r {lo hi : Int32} {k a M : Nat} (hl : lo = nI a) (hh : hi = nI M) (h1 : a ≤ k) (h2 : k ≤ M) (h3 : M < 2147483648) : lo ≤ nI k ∧ nI k ≤ hi := by
  rw [hl, hh]
  exact ⟨(nI_leI (by omega) (by omega)).mpr h1, (nI_leI (by omega) (by omega)).mpr h2⟩
theorem g_5 {k : Nat} (h : k < 5) : 0 ≤ nI k ∧ nI k ≤ 4 := g_r (a := 0) (M := 4) rfl rfl (by omega) (by omega) (by omega)
theorem g_8 {k : Nat} (h : k < 8) : 0 ≤ nI k ∧ nI k ≤ 8 - 1 := g_r (a := 0) (M := 7) rfl (by decide) (by omega) (by omega) (by omega)
theorem g_16 {k : Nat} (h : k < 16) : 0 ≤ nI k ∧ nI k ≤ 16 - 1 := g_r (a := 0) (M := 15) rfl (by decide) (by omega) (by omega) (by omega)
theorem g_st {x : Int32} {k : Nat} (h0 : x = 8) (h : k < 8) : 0 ≤ nI k ∧ nI k ≤ x - 1 := by rw [h0]; exact g_8 h
/-! blocks of the law's world -/
abbrev dmW (cs : zCs) (ad : Nat → Nat → Nat) (S : Nat → Int32) (F : Nat → Nat → Int32) : va_W := (camW ad) ++ (macW cs (ad 0) S F)
abbrev svW (cs : zCs) (ad kd : Nat → Nat → Nat) (S : Nat → Int32) (F : Nat → Nat → Int32) (HS : Nat → Int32) (KS : Nat → Nat → Int32) (KF : Nat → Nat → Nat → Int32) : va_W := (camW ad) ++ (macW cs (ad 0) S F) ++ (hisW cs (ad 4) kd HS) ++ (macW cs (kd 0) (KS 0) (KF 0)) ++ (macW cs (kd 1) (KS 1) (KF 1)) ++ (macW cs (kd 2) (KS 2) (KF 2)) ++ (macW cs (kd 3) (KS 3) (KF 3))
def hsR (HS : Nat → Int32) (p n : Nat) : Prop := HS 0 = nI p ∧ p < 4 ∧ HS 1 = nI n ∧ n ≤ 4
def dR (b : Nat) (N : Int) (S : Nat → Int32) (F : Nat → Nat → Int32) (V : Nat → Int32) (G : Nat → Nat → Int32) : Prop := inv N (S, F) ∧ inv N (V, G) ∧ rot b (S, F) (V, G)
theorem hsR_s {HS : Nat → Int32} {p n : Nat} (h : hsR HS p n) : hsR (upd (upd HS 0 (nI (hNx p))) 1 (nI (min (n + 1) 4))) (hNx p) (min (n + 1) 4) := by
  obtain ⟨h1, h2, h3, h4⟩ := h
  refine ⟨by rw [upd_o _ _ (by omega), upd_s], ?_, by rw [upd_s], by omega⟩
  rw [hNx_e h2]; omega
