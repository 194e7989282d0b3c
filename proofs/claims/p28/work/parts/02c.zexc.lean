/-! MY LAYER, exceptions: a contract zMx returns where ex = none, and throws E where ex = some E, with its world as it was. -/
def zXB (D : va_G) (cs : zCs) (ex : Option String) (w : va_W) (A : Nat → Prop) : String → State → State → Prop := fun E st t =>
  (ex = some E ∧ va_P D vwCl w t.heap ∧ va_K D vwCl (zT cs) t ∧ va_D A w) ∧ va_F A st t
def zQx (D : va_G) (cs : zCs) (ex : Option String) (rv : Option Value) (wo : va_W) (A : Nat → Prop) : Array Value → State → Outcome → State → Prop := fun a st o t =>
  ex = none ∧ zQ D cs rv wo A a st o t
def zMx (l : Launch) (D : va_G) (cs : zCs) (y : MethodName) (cb : ByteArray) (ml : Nat) (ret : Option FieldType) (fr lo mc ms : Nat) (av : List Value) (w : va_W) (ex : Option String) (rv : Option Value) (wo : va_W) : Prop :=
  ∀ sz : Nat, vx_Met l y (Cond.code y cb ml ret :: wsG) ({ frames := fr, cells := mc, slots := ms, locals := lo } : Room) (va_Pc av (zPre D cs w sz)) (zQx D cs ex rv wo (va_A w sz)) (zXB D cs ex w (va_A w sz)) mc ms (va_A w sz)
theorem zMx.of {l : Launch} {D : va_G} {cs : zCs} {y : MethodName} {cb : ByteArray} {ml : Nat} {ret : Option FieldType} {fr lo mc ms : Nat} {av : List Value} {w : va_W} {ex : Option String} {rv : Option Value} {wo : va_W} {own : String}
    (hy : plainName y.cls = true) (hl : (lg_sl av).length ≤ ml) (ho : y.cls = own)
    (body : ∀ (p : Program) (e : Env) (s : State) (m : MethodId) (below : List Frame) (meth : Method) (c : Code) (A : Nat → Prop) (ls : Array Slot), p.tables.exec = Jvm.exec → c.code = cb → meth.sig.returnType = ret → c.maxLocals = ml → s.vm.findClass own = some m.cls → (∀ w ∈ wsG, w.before av.toArray s = true) → meth.locks = false → (∀ x ∈ c.exceptionTable.toList, False) → zE A s → va_K D vwCl (zT cs) s → (∀ q : Nat, s.heap.size ≤ q → A q) → va_P D vwCl w s.heap → va_D A w → va_S A s.heap s.heap [] → lv_has ls ml (lv_args 0 av) →
      W p l e ({ frames := fr, cells := mc, slots := ms, locals := lo } : Room) s m av.toArray below meth c s.heap [] 0 0 (vx_MQ below (zQx D cs ex rv wo A) (zXB D cs ex w A) av.toArray s mc ms A) (F0 m 0 ls [])) : zMx l D cs y cb ml ret fr lo mc ms av w ex rv wo := by
  subst ho
  intro sz
  refine vx_ofW (cc := cb) (maxL := ml) (ret := ret) hy rfl ?_
  intro p e s m args below meth c s₁ B hml htab hv
  obtain ⟨rfl, hsz, hP, hK, hD0, hE⟩ := hv
  have hts := atoms_spec (ws := Cond.code y cb ml ret :: wsG) B.pre
  subst hsz
  have hD := hD0.self (sz := s.heap.size)
  have hlv := lv_entry av (n := ml) hl
  rw [lg_entry_eq]
  exact body p e s m below meth c _ _ B.exec B.bytes B.returns hml (findClass_of_methodNamed B.named) (fun w hw => hts w (List.mem_cons_of_mem _ hw)) B.notSynchronized htab hE hK (fun q h => Or.inr h) hP hD va_S.rf hlv
section ZX
variable {p : Program} {l : Launch} {e : Env} {R : Room} {s : State} {m : MethodId} {args : Array Value} {below : List Frame} {meth : Method} {c : Code} {H : Heap} {locs : List Loc} {cells slots : Nat} {Q : State → Prop}
variable {pc : Nat} {ls : Array Slot} {rest st0 : List Value} {A : Nat → Prop} {mc ms kc ks : Nat} {D : va_G} {cs : zCs} {ws wc wo wn w0 wf : va_W} {rv rf : Option Value} {a : Array Value} {ex xf : Option String}
variable {cc cb : ByteArray} {nL n index ml fr lo : Nat} {own : String} {y : MethodName} {ret : Option FieldType}
theorem z_goX (hr : vx_Run p l e R s m args below meth c H locs cells slots mc ms (F0 m pc ls st0) rest (zQx D cs ex rv wo (va_A wc H.size) a) (zXB D cs ex wc (va_A wc H.size)) (va_A wc H.size)) (hP : va_P D vwCl ws H) (hD : va_D A ws) (hS : va_S A s.heap H locs) (hA : ∀ q : Nat, s.heap.size ≤ q → A q)
    (isC : List Nat) (hC : isC.map (fun i => ws[i]?) = wc.map some) (hn : va_nd isC = true) (hlen : wo.map (fun q => q.1) = wc.map (fun q => q.1)) (hN : z_ins 0 ws isC wo = wn)
    (kx : ∀ (E : String) (ce : Cell) (q9 : Addr) (H1 : Heap) (locs1 : List Loc), ex = some E → va_P D vwCl ws H1 → va_D A ws → va_S A s.heap H1 locs1 → H1[q9]? = some ce → ce.vm = .none → s.vm.findClass E = some ce.cls → vx_W p l e R s m args below meth c H1 locs1 (cells + mc) (slots + ms) Q (F0 m pc ls rest) q9)
    (kk : ex = none → ∀ (H1 : Heap) (locs1 : List Loc), va_P D vwCl wn H1 → va_D A wn → va_S A s.heap H1 locs1 → W p l e R s m args below meth c H1 locs1 (cells + mc) (slots + ms) Q (F0 m (pc + 3) ls (rv.toList ++ rest))) : W p l e R s m args below meth c H locs cells slots Q (F0 m pc ls st0) := by
  have hF := va_free (wc := wc) hD hS hA isC hC
  intro T hT X
  rcases hr T hT X with ⟨v, st₀, t, T', L, h0, X', hL, e1, e2, ⟨hex, ⟨hv, hP1, hK1, hD1⟩, hFr⟩, st⟩ | ⟨q, st₀, t, T', L, E, ce, h0, X', hL, e1, e2, ⟨⟨hex, hP1, hK1, hD1⟩, hFr⟩, hce, hcv, hcl, st⟩
  · cases hv
    obtain ⟨k1, k2, k3⟩ := vx_keep (A0 := A) h0 e1 hS (fun q _ => hF q) hF hL hFr
    obtain ⟨hP2, hD2⟩ := z_join (H1 := T'.heap) hP hD isC hC hn hlen k2 (by rw [e1]; exact hP1)
    rw [hN] at hP2 hD2
    obtain ⟨t2, a1, b1⟩ := kk hex T'.heap (locs ++ L) hP2 hD2 k3 T' rfl X'
    exact ⟨t2, st t2 a1, b1⟩
  · obtain ⟨k1, k2, k3⟩ := vx_keep (A0 := A) h0 e1 hS (fun q _ => hF q) hF hL hFr
    have hP2 : va_P D vwCl ws T'.heap := by
      intro k q9 hk9
      by_cases hm : k ∈ isC
      · obtain ⟨j, hj⟩ := List.getElem?_of_mem hm
        have h1 : (isC.map (fun i => ws[i]?))[j]? = some (some q9) := by rw [List.getElem?_map, hj]; show some (ws[k]?) = _; rw [hk9]
        rw [hC, List.getElem?_map] at h1
        cases hw : wc[j]? with
        | none => rw [hw] at h1; cases h1
        | some z =>
          rw [hw] at h1
          cases h1
          rw [e1]
          exact hP1 j _ hw
      · refine (hP k q9 hk9).kept (k2 q9.1 (hP k q9 hk9).lt (fun hA9 => ?_))
        rcases hA9 with ⟨k3, e3, h3⟩ | h3
        · have h4 : (isC.map (fun i => ws[i]?))[k3]? = some (some (q9.1, e3)) := by rw [hC, List.getElem?_map, h3]; rfl
          rw [List.getElem?_map] at h4
          cases hi : isC[k3]? with
          | none => rw [hi] at h4; cases h4
          | some i =>
            rw [hi] at h4
            have h5 : ws[i]? = some (q9.1, e3) := Option.some.inj h4
            have := hD.1 k i q9 (q9.1, e3) hk9 h5 rfl
            subst this
            exact hm (List.mem_of_getElem? hi)
        · have := (hP k q9 hk9).lt
          omega
    obtain ⟨t2, a1, b1⟩ := kx E ce q T'.heap (locs ++ L) hex hP2 hD k3 (by rw [e1]; exact hce) hcv hcl T' rfl X'
    exact ⟨t2, st.trans a1, b1⟩
/-- not caught here: the caller throws it on, its world as it was -/
theorem z_outX {E : String} {ce : Cell} {q9 : Addr} (htab : ∀ x ∈ c.exceptionTable.toList, False) (hlk : meth.locks = false) (hK : va_K D vwCl (zT cs) s) (hP : va_P D vwCl ws H) (hD : va_D A ws) (hS : va_S A s.heap H locs) (hce : H[q9]? = some ce) (hcv : ce.vm = .none) (hcl : s.vm.findClass E = some ce.cls) (hex : xf = some E) (hw : ws = w0) (hc : cells ≤ kc) (hs : slots ≤ ks) :
    vx_W p l e R s m args below meth c H locs cells slots (vx_MQ below (zQx D cs xf rf wf A) (zXB D cs xf w0 A) args s kc ks A) (F0 m pc ls rest) q9 := by
  subst hw
  exact vx_out (fun x hx => (htab x hx).elim) hlk hce hcv hcl (fun t ht hal => ⟨⟨hex, by rw [ht]; exact hP, va_K.moved hal hK, hD⟩, hS.F ht⟩) hS.2.2 hc hs
theorem z_callVx (F : CallFix p m c cc nL s args wsG own) (hy : zY y cb ml ret n) (hi : Cond.instanceMethod y ∈ wsG) (hse : Cond.selects y.cls y y ∈ wsG) (hl : Cond.methodLink own index y ∈ wsG) {b : Nat} (As rest : List Value) (hM : zMx l D cs y cb ml ret fr lo mc ms (.ref b :: As) wc ex rv wo)
    (hE : zE A s) (hK : va_K D vwCl (zT cs) s) (hA : ∀ q : Nat, s.heap.size ≤ q → A q) (hP : va_P D vwCl ws H) (hD : va_D A ws) (hS : va_S A s.heap H locs)
    (isC : List Nat) (hC : isC.map (fun i => ws[i]?) = wc.map some) (hnd : va_nd isC = true) (hlen : wo.map (fun q => q.1) = wc.map (fun q => q.1)) (hN : z_ins 0 ws isC wo = wn)
    (ci : Nat) {r : vw_C} {fs : List Value} (hcl : vwCl[ci]? = some r) (hr0 : wc[0]? = some (b, .inr (ci, fs))) (hrC : r.1 = y.cls)
    (hn : As.length = n) (hsz : ls.size = nL) (hW : (rest.map fun v => v.category).sum ≤ 8) (hR : fr + 1 ≤ R.frames ∧ 8 + (ml + 11) + lo ≤ R.locals) (hf : cells + mc ≤ R.cells ∧ slots + ms ≤ R.slots) (hdg : decode cc pc = .ok (.invokevirtual index, 3))
    (kx : ∀ (E : String) (ce : Cell) (q9 : Addr) (H1 : Heap) (locs1 : List Loc), ex = some E → va_P D vwCl ws H1 → va_D A ws → va_S A s.heap H1 locs1 → H1[q9]? = some ce → ce.vm = .none → s.vm.findClass E = some ce.cls → vx_W p l e R s m args below meth c H1 locs1 (cells + mc) (slots + ms) Q (F0 m pc ls rest) q9)
    (kk : ex = none → ∀ (H1 : Heap) (locs1 : List Loc), va_P D vwCl wn H1 → va_D A wn → va_S A s.heap H1 locs1 → W p l e R s m args below meth c H1 locs1 (cells + mc) (slots + ms) Q (F0 m (pc + 3) ls (rv.toList ++ rest))) : W p l e R s m args below meth c H locs cells slots Q (F0 m pc ls (As.reverse ++ .ref b :: rest)) := by
  have hp := z_pre (av := .ref b :: As) hE hK hP hD hS hA isC hC hnd
  have hPc : va_P D vwCl wc H := by
    intro k q hq
    have h1 : (isC.map (fun i => ws[i]?))[k]? = some (some q) := by rw [hC, List.getElem?_map, hq]; rfl
    rw [List.getElem?_map] at h1
    cases hi : isC[k]? with
    | none => rw [hi] at h1; cases h1
    | some i =>
      rw [hi] at h1
      exact hP i q (Option.some.inj h1)
  have hcw : CallW R s args own y.cls index y cb ml ret (Cond.code y cb ml ret :: wsG) ({ frames := fr, cells := mc, slots := ms, locals := lo } : Room) mc ms n :=
    ⟨callB_of n F.2.2.2.2 (z_good hy.1) rfl rfl rfl (F.2.2.2.2 _ hy.2.1) (F.2.2.2.2 _ hl) hy.2.2 hR, F.2.2.2.2 _ hi, F.2.2.2.2 _ hse⟩
  refine z_goX (vx_runV (As := As) (rest := rest) F (hM H.size) hcw ⟨hp.1, ?_, hp.2⟩ rfl hn hsz rfl (by show 2 * 0 + _ ≤ 8; omega) hdg hf) hP hD hS hA isC hC hnd hlen hN kx kk
  have := va_recv hK hPc (ci := ci) (q0 := 0) hcl hr0
  rw [hrC] at this
  exact this
theorem z_callSx (F : CallFix p m c cc nL s args wsG own) (hy : zY y cb ml ret n) (hst : Cond.static y ∈ wsG) (hl : Cond.methodLink own index y ∈ wsG) (As rest : List Value) (hM : zMx l D cs y cb ml ret fr lo mc ms As wc ex rv wo)
    (hE : zE A s) (hK : va_K D vwCl (zT cs) s) (hA : ∀ q : Nat, s.heap.size ≤ q → A q) (hP : va_P D vwCl ws H) (hD : va_D A ws) (hS : va_S A s.heap H locs)
    (isC : List Nat) (hC : isC.map (fun i => ws[i]?) = wc.map some) (hnd : va_nd isC = true) (hlen : wo.map (fun q => q.1) = wc.map (fun q => q.1)) (hN : z_ins 0 ws isC wo = wn)
    (hn : As.length = n) (hsz : ls.size = nL) (hW : (rest.map fun v => v.category).sum ≤ 8) (hR : fr + 1 ≤ R.frames ∧ 8 + (ml + 11) + lo ≤ R.locals) (hf : cells + mc ≤ R.cells ∧ slots + ms ≤ R.slots) (hdg : decode cc pc = .ok (.invokestatic index, 3))
    (kx : ∀ (E : String) (ce : Cell) (q9 : Addr) (H1 : Heap) (locs1 : List Loc), ex = some E → va_P D vwCl ws H1 → va_D A ws → va_S A s.heap H1 locs1 → H1[q9]? = some ce → ce.vm = .none → s.vm.findClass E = some ce.cls → vx_W p l e R s m args below meth c H1 locs1 (cells + mc) (slots + ms) Q (F0 m pc ls rest) q9)
    (kk : ex = none → ∀ (H1 : Heap) (locs1 : List Loc), va_P D vwCl wn H1 → va_D A wn → va_S A s.heap H1 locs1 → W p l e R s m args below meth c H1 locs1 (cells + mc) (slots + ms) Q (F0 m (pc + 3) ls (rv.toList ++ rest))) : W p l e R s m args below meth c H locs cells slots Q (F0 m pc ls (As.reverse ++ rest)) := by
  have hp := z_pre (av := As) hE hK hP hD hS hA isC hC hnd
  exact z_goX (vx_runS (As := As) (rest := rest) F (hM H.size) ⟨callB_of n F.2.2.2.2 (z_good hy.1) rfl rfl rfl (F.2.2.2.2 _ hy.2.1) (F.2.2.2.2 _ hl) hy.2.2 hR, F.2.2.2.2 _ hst⟩ hp rfl hn hsz rfl (by show 2 * 0 + _ ≤ 8; omega) hdg hf) hP hD hS hA isC hC hnd hlen hN kx kk
/-- the ends of a method that may throw -/
theorem z_iretX (hx : p.tables.exec = Jvm.exec) (hb : c.code = cc) (hr : meth.sig.returnType = some .int) (hlk : meth.locks = false) (hK : va_K D vwCl (zT cs) s) (hP : va_P D vwCl ws H) (hD : va_D A ws) (hS : va_S A s.heap H locs) (hdg : decode cc pc = .ok (.ireturn, 1)) (hex : ex = none) (hc : cells ≤ mc) (hs : slots ≤ ms) {v : Int32} (hv : some (.int v) = rv) (hw : ws = wo) :
    W p l e R s m args below meth c H locs cells slots (vx_MQ below (zQx D cs ex rv wo A) (zXB D cs ex w0 A) args s mc ms A) (F0 m pc ls [.int v]) :=
  vx_ret (W.widen hc hs (W.iret hx hb hr (fun _ ht hW => ⟨hex, z_end hK hP hD hS hv hw ht hW⟩) hS.2.2 hdg hlk))
theorem z_zretX (hx : p.tables.exec = Jvm.exec) (hb : c.code = cc) (hr : meth.sig.returnType = some .boolean) (hlk : meth.locks = false) (hK : va_K D vwCl (zT cs) s) (hP : va_P D vwCl ws H) (hD : va_D A ws) (hS : va_S A s.heap H locs) (hdg : decode cc pc = .ok (.ireturn, 1)) {v : Int32} (hn : narrow .boolean (.int v) = .int v) (hex : ex = none) (hc : cells ≤ mc) (hs : slots ≤ ms) (hv : some (.int v) = rv) (hw : ws = wo) :
    W p l e R s m args below meth c H locs cells slots (vx_MQ below (zQx D cs ex rv wo A) (zXB D cs ex w0 A) args s mc ms A) (F0 m pc ls [.int v]) :=
  vx_ret (W.widen hc hs (W.zret hx hb hr hn (fun _ ht hW => ⟨hex, z_end hK hP hD hS hv hw ht hW⟩) hS.2.2 hdg hlk))
theorem z_vretX (hx : p.tables.exec = Jvm.exec) (hb : c.code = cc) (hr : meth.sig.returnType = none) (hlk : meth.locks = false) (hK : va_K D vwCl (zT cs) s) (hP : va_P D vwCl ws H) (hD : va_D A ws) (hS : va_S A s.heap H locs) (hdg : decode cc pc = .ok (.return_, 1)) (hex : ex = none) (hc : cells ≤ mc) (hs : slots ≤ ms) (hv : none = rv) (hw : ws = wo) :
    W p l e R s m args below meth c H locs cells slots (vx_MQ below (zQx D cs ex rv wo A) (zXB D cs ex w0 A) args s mc ms A) (F0 m pc ls []) :=
  vx_ret (W.widen hc hs (W.vret hx hb hr (fun _ ht hW => ⟨hex, z_end hK hP hD hS hv hw ht hW⟩) hS.2.2 hdg hlk))
end ZX
/-! throws -/
def zNm : List String := ["java/lang/RuntimeException", "java/lang/Exception"]
def zBad (cls : String) : List Cond := [.castable cls cls, .declares (Bundle.initS "java/lang/RuntimeException"), .declares (Bundle.initS "java/lang/Exception"), .declares (Bundle.initS "java/lang/Throwable")]
def zThr (ik ic : Nat) (cls : String) : Prop :=
  Bundle.fit cls = true ∧ Cond.classLink RX7 ik cls ∈ wsG ∧ Cond.initialized cls ∈ wsG ∧ (∀ w ∈ (vx_atS RX7 ic cls zNm).filter goodWord, w ∈ lw_tbl) ∧ (∀ w ∈ (vx_atS RX7 ic cls zNm).filter (fun w => !goodWord w), w ∈ zBad cls) ∧ (∀ w ∈ Cond.classLink RX7 ik cls :: Cond.initialized cls :: vx_atS RX7 ic cls zNm, vx_ot w = true) ∧ (cls, cls) ∈ zCastL
set_option maxRecDepth 20000 in
theorem zThr_IO : zThr 261 265 zIO := ⟨by decide +kernel, w_cl_X7_261, w_in_IndexOutOfBoundsException, by decide +kernel, by decide +kernel, by decide +kernel, List.mem_of_getElem? (i := 0) rfl⟩
set_option maxRecDepth 20000 in
theorem zThr_IA : zThr 59 63 zIA := ⟨by decide +kernel, w_cl_X7_59, w_in_IllegalArgumentException, by decide +kernel, by decide +kernel, by decide +kernel, List.mem_of_getElem? (i := 1) rfl⟩
set_option maxRecDepth 20000 in
theorem zThr_IS : zThr 125 129 zIS := ⟨by decide +kernel, w_cl_X7_125, w_in_IllegalStateException, by decide +kernel, by decide +kernel, by decide +kernel, List.mem_of_getElem? (i := 2) rfl⟩
theorem zNm_fit : ∀ n ∈ zNm, Bundle.fit n = true := by decide +kernel
theorem z_at {ik ic : Nat} {cls : String} {A : Nat → Prop} {s : State} {args : Array Value} (h : zThr ik ic cls) (hts : ∀ w ∈ wsG, w.before args s = true) (hE : zE A s) : ∀ w ∈ vx_atS RX7 ic cls zNm, w.before args s = true := by
  obtain ⟨-, -, -, h1, h2, -, hc⟩ := h
  refine vx_hat (B := zBad cls) (fun w hw => hts w (wsG_mk (h1 w hw) (List.mem_filter.mp hw).2)) h2 ?_
  refine vx_c (va_Nw.use rfl (hE.2.1 _ hc)) (vx_c (va_Nw.use rfl (hE.2.2.1 _ (List.mem_of_getElem? (i := 0) rfl))) (vx_c (va_Nw.use rfl (hE.2.2.1 _ (List.mem_of_getElem? (i := 1) rfl))) (vx_c (va_Nw.use rfl (hE.2.2.1 _ (List.mem_of_getElem? (i := 2) rfl))) vx_n)))
section ZT
variable {p : Program} {l : Launch} {e : Env} {R : Room} {s : State} {m : MethodId} {args : Array Value} {below : List Frame} {meth : Method} {c : Code} {H : Heap} {locs : List Loc} {cells slots : Nat}
variable {pc : Nat} {ls : Array Slot} {rest : List Value} {A : Nat → Prop} {mc ms : Nat} {D : va_G} {cs : zCs} {ws w0 wo : va_W} {rv : Option Value} {ex : Option String} {cc : ByteArray} {nL : Nat}
theorem z_xb {cls : String} (hK : va_K D vwCl (zT cs) s) (hP : va_P D vwCl ws H) (hD : va_D A ws) (hS : va_S A s.heap H locs) (hex : ex = some cls) (hw : ws = w0) : ∀ t : State, s.vm.Alike t.vm → H.size ≤ t.heap.size → (∀ q : Nat, q < H.size → t.heap[q]? = H[q]?) → zXB D cs ex w0 A cls s t := by
  subst hw
  intro t hal hz hk
  exact ⟨⟨hex, hP.kept (fun k q hq => hk q.1 (hP k q hq).lt), va_K.moved hal hK, hD⟩, Nat.le_trans hS.1 hz, fun q h1 h2 => (hk q (Nat.lt_of_lt_of_le h1 hS.1)).trans (hS.2.1 q h1 h2)⟩
theorem z_throw {ik ic is : Nat} {cls text : String} (hx : p.tables.exec = Jvm.exec) (hb : c.code = cc) (hfl : l.stackTraces = false) (hml : c.maxLocals = nL) (hown : s.vm.findClass RX7 = some m.cls) (hts : ∀ w ∈ wsG, w.before args s = true) (hlk : meth.locks = false) (htab : ∀ x ∈ c.exceptionTable.toList, False) (hE : zE A s) (hK : va_K D vwCl (zT cs) s) (hP : va_P D vwCl ws H) (hD : va_D A ws) (hS : va_S A s.heap H locs) (hsz : ls.size = nL)
    (hth : zThr ik ic cls) (hstr : (is, text) ∈ zStrL)
    (d0 : decode cc pc = .ok (.new ik, 3)) (d3 : decode cc (pc + 3) = .ok (.dup, 1)) (d4 : decode cc (pc + 4) = .ok (.ldc is, 2)) (d6 : decode cc (pc + 6) = .ok (.invokespecial ic, 3)) (d9 : decode cc (pc + 9) = .ok (.athrow, 1))
    (hR : 5 < R.frames ∧ (rest.map fun v => v.category).sum + 82 ≤ R.locals ∧ cells + 1 ≤ R.cells ∧ slots + 6 ≤ R.slots) (hc : cells + 1 ≤ mc) (hs : slots + 6 ≤ ms) (hex : ex = some cls) (hw : ws = w0) :
    W p l e R s m args below meth c H locs cells slots (vx_MQ below (zQx D cs ex rv wo A) (zXB D cs ex w0 A) args s mc ms A) (F0 m pc ls rest) := by
  obtain ⟨sa, hsa⟩ := hE.2.2.2.2.2.1 _ hstr
  exact vx_throwS hx hb hfl (names := zNm) hown hth.1 zNm_fit (hts _ hth.2.1) (hts _ hth.2.2.1) hsa (z_at hth hts hE) hth.2.2.2.2.2.1 hE.2.2.2.2.2.2.1 hE.2.2.2.2.2.2.2 hS (hsz.trans hml.symm) d0 d3 d4 d6 d9 (fun x hx => (htab x hx).elim) hR.1 hR.2.1 hR.2.2.1 hR.2.2.2 hlk (z_xb hK hP hD hS hex hw) hS.2.2 hc hs
theorem z_throwW {ik ic is : Nat} {cls text : String} (hx : p.tables.exec = Jvm.exec) (hb : c.code = cc) (hfl : l.stackTraces = false) (hml : c.maxLocals = nL) (hown : s.vm.findClass RX7 = some m.cls) (hts : ∀ w ∈ wsG, w.before args s = true) (hlk : meth.locks = false) (htab : ∀ x ∈ c.exceptionTable.toList, False) (hE : zE A s) (hK : va_K D vwCl (zT cs) s) (hP : va_P D vwCl ws H) (hD : va_D A ws) (hS : va_S A s.heap H locs) (hsz : ls.size = nL)
    (hth : zThr ik ic cls) (hstr : (is, text) ∈ zStrL)
    (d0 : decode cc pc = .ok (.new ik, 3)) (d3 : decode cc (pc + 3) = .ok (.dup, 1)) (d4 : decode cc (pc + 4) = .ok (.ldc_w is, 3)) (d7 : decode cc (pc + 7) = .ok (.invokespecial ic, 3)) (d10 : decode cc (pc + 10) = .ok (.athrow, 1))
    (hR : 5 < R.frames ∧ (rest.map fun v => v.category).sum + 82 ≤ R.locals ∧ cells + 1 ≤ R.cells ∧ slots + 6 ≤ R.slots) (hc : cells + 1 ≤ mc) (hs : slots + 6 ≤ ms) (hex : ex = some cls) (hw : ws = w0) :
    W p l e R s m args below meth c H locs cells slots (vx_MQ below (zQx D cs ex rv wo A) (zXB D cs ex w0 A) args s mc ms A) (F0 m pc ls rest) := by
  obtain ⟨sa, hsa⟩ := hE.2.2.2.2.2.1 _ hstr
  exact vx_throwSW hx hb hfl (names := zNm) hown hth.1 zNm_fit (hts _ hth.2.1) (hts _ hth.2.2.1) hsa (z_at hth hts hE) hth.2.2.2.2.2.1 hE.2.2.2.2.2.2.1 hE.2.2.2.2.2.2.2 hS (hsz.trans hml.symm) d0 d3 d4 d7 d10 (fun x hx => (htab x hx).elim) hR.1 hR.2.1 hR.2.2.1 hR.2.2.2 hlk (z_xb hK hP hD hS hex hw) hS.2.2 hc hs
end ZT
