/-! the law's helpers: methods with handlers, that throw nothing out -/
def zMw (l : Launch) (D : va_G) (cs : zCs) (y : MethodName) (cb : ByteArray) (ml : Nat) (ret : Option FieldType) (hh : List (Nat × Nat × Nat × Nat)) (fr lo mc ms : Nat) (av : List Value) (w : va_W) (rv : Option Value) (wo : va_W) : Prop :=
  ∀ sz : Nat, vx_Met l y (Cond.codeWith y cb ml ret hh :: wsG) ({ frames := fr, cells := mc, slots := ms, locals := lo } : Room) (va_Pc av (zPre D cs w sz)) (zQ D cs rv wo (va_A w sz)) (fun _ _ _ => False) mc ms (va_A w sz)
theorem z_goodW {y : MethodName} {cb : ByteArray} {ml : Nat} {ret : Option FieldType} {hh : List (Nat × Nat × Nat × Nat)} (hc : Cond.codeWith y cb ml ret hh ∈ wsG) : GoodIn wsG (Cond.codeWith y cb ml ret hh :: wsG) := fun w hw => by
  rcases List.mem_cons.mp hw with rfl | h
  · exact ⟨hc, wsG_good _ hc⟩
  · exact ⟨h, wsG_good _ h⟩
def zYw (y : MethodName) (cb : ByteArray) (ml : Nat) (ret : Option FieldType) (hh : List (Nat × Nat × Nat × Nat)) (n : Nat) : Prop :=
  Cond.codeWith y cb ml ret hh ∈ wsG ∧ Cond.initialized y.cls ∈ wsG ∧ (y.cls ≠ "java/lang/invoke/MethodHandle" ∧ y.cls ≠ "java/lang/invoke/VarHandle" ∧ (parseMethodDescriptor y.desc).map (fun d => d.parameters.length) = some n)
theorem zMw.of {l : Launch} {D : va_G} {cs : zCs} {y : MethodName} {cb : ByteArray} {ml : Nat} {ret : Option FieldType} {hh : List (Nat × Nat × Nat × Nat)} {fr lo mc ms : Nat} {av : List Value} {w : va_W} {rv : Option Value} {wo : va_W} {own : String}
    (hy : plainName y.cls = true) (hl : (lg_sl av).length ≤ ml) (ho : y.cls = own)
    (body : ∀ (p : Program) (e : Env) (s : State) (m : MethodId) (below : List Frame) (meth : Method) (c : Code) (A : Nat → Prop) (ls : Array Slot), p.tables.exec = Jvm.exec → c.code = cb → meth.sig.returnType = ret → c.maxLocals = ml → s.vm.findClass own = some m.cls → (∀ w ∈ wsG, w.before av.toArray s = true) → meth.locks = false → c.exceptionTable.toList = tableOf hh → zE A s → va_K D vwCl (zT cs) s → (∀ q : Nat, s.heap.size ≤ q → A q) → va_P D vwCl w s.heap → va_D A w → va_S A s.heap s.heap [] → lv_has ls ml (lv_args 0 av) →
      W p l e ({ frames := fr, cells := mc, slots := ms, locals := lo } : Room) s m av.toArray below meth c s.heap [] 0 0 (vx_MQ below (zQ D cs rv wo A) (fun _ _ _ => False) av.toArray s mc ms A) (F0 m 0 ls [])) : zMw l D cs y cb ml ret hh fr lo mc ms av w rv wo := by
  subst ho
  intro sz
  refine vx_ofWH (cc := cb) (maxL := ml) (ret := ret) (hh := hh) hy rfl ?_
  intro p e s m args below meth c s₁ B hml hv
  obtain ⟨rfl, hsz, hP, hK, hD0, hE⟩ := hv
  have hts := atoms_spec (ws := Cond.codeWith y cb ml ret hh :: wsG) B.pre
  have htab := vx_table (x := y) B (hts _ List.mem_cons_self)
  subst hsz
  have hD := hD0.self (sz := s.heap.size)
  have hlv := lv_entry av (n := ml) hl
  rw [lg_entry_eq]
  exact body p e s m below meth c _ _ B.exec B.bytes B.returns hml (findClass_of_methodNamed B.named) (fun w hw => hts w (List.mem_cons_of_mem _ hw)) B.notSynchronized htab hE hK (fun q h => Or.inr h) hP hD va_S.rf hlv
section ZW
variable {p : Program} {l : Launch} {e : Env} {R : Room} {s : State} {m : MethodId} {args : Array Value} {below : List Frame} {meth : Method} {c : Code} {H : Heap} {locs : List Loc} {cells slots : Nat} {Q : State → Prop}
variable {pc : Nat} {ls : Array Slot} {A : Nat → Prop} {mc ms kc ks : Nat} {D : va_G} {cs : zCs} {ws wc wo wn : va_W} {rv : Option Value} {rest st0 : List Value} {a : Array Value}
variable {cc cb : ByteArray} {nL n index ml fr lo : Nat} {own : String} {y : MethodName} {ret : Option FieldType} {hh : List (Nat × Nat × Nat × Nat)}
theorem z_goW (hr : vx_Run p l e R s m args below meth c H locs cells slots mc ms (F0 m pc ls st0) rest (zQ D cs rv wo (va_A wc H.size) a) (fun _ _ _ => False) (va_A wc H.size)) (hP : va_P D vwCl ws H) (hD : va_D A ws) (hS : va_S A s.heap H locs) (hA : ∀ q : Nat, s.heap.size ≤ q → A q)
    (isC : List Nat) (hC : isC.map (fun i => ws[i]?) = wc.map some) (hn : va_nd isC = true) (hlen : wo.map (fun q => q.1) = wc.map (fun q => q.1)) (hN : z_ins 0 ws isC wo = wn)
    (kk : ∀ (H1 : Heap) (locs1 : List Loc), va_P D vwCl wn H1 → va_D A wn → va_S A s.heap H1 locs1 → W p l e R s m args below meth c H1 locs1 (cells + mc) (slots + ms) Q (F0 m (pc + 3) ls (rv.toList ++ rest))) : W p l e R s m args below meth c H locs cells slots Q (F0 m pc ls st0) := by
  have hF := va_free (wc := wc) hD hS hA isC hC
  intro T hT X
  rcases hr T hT X with ⟨v, st₀, t, T', L, h0, X', hL, e1, e2, ⟨⟨hv, hP1, hK1, hD1⟩, hFr⟩, st⟩ | ⟨q, st₀, t, T', L, E, ce, h0, X', hL, e1, e2, hF2, hce, hcv, hcl, st⟩
  · cases hv
    obtain ⟨k1, k2, k3⟩ := vx_keep (A0 := A) h0 e1 hS (fun q _ => hF q) hF hL hFr
    obtain ⟨hP2, hD2⟩ := z_join (H1 := T'.heap) hP hD isC hC hn hlen k2 (by rw [e1]; exact hP1)
    rw [hN] at hP2 hD2
    obtain ⟨t2, a1, b1⟩ := kk T'.heap (locs ++ L) hP2 hD2 k3 T' rfl X'
    exact ⟨t2, st t2 a1, b1⟩
  · exact hF2.elim
theorem z_callSW (F : CallFix p m c cc nL s args wsG own) (hy : zYw y cb ml ret hh n) (hst : Cond.static y ∈ wsG) (hl : Cond.methodLink own index y ∈ wsG) (As rest : List Value) (hM : zMw l D cs y cb ml ret hh fr lo mc ms As wc rv wo)
    (hE : zE A s) (hK : va_K D vwCl (zT cs) s) (hA : ∀ q : Nat, s.heap.size ≤ q → A q) (hP : va_P D vwCl ws H) (hD : va_D A ws) (hS : va_S A s.heap H locs)
    (isC : List Nat) (hC : isC.map (fun i => ws[i]?) = wc.map some) (hnd : va_nd isC = true) (hlen : wo.map (fun q => q.1) = wc.map (fun q => q.1)) (hN : z_ins 0 ws isC wo = wn)
    (hn : As.length = n) (hsz : ls.size = nL) (hW : (rest.map fun v => v.category).sum ≤ 8) (hR : fr + 1 ≤ R.frames ∧ 8 + (ml + 11) + lo ≤ R.locals) (hf : cells + mc ≤ R.cells ∧ slots + ms ≤ R.slots) (hdg : decode cc pc = .ok (.invokestatic index, 3))
    (kk : ∀ (H1 : Heap) (locs1 : List Loc), va_P D vwCl wn H1 → va_D A wn → va_S A s.heap H1 locs1 → W p l e R s m args below meth c H1 locs1 (cells + mc) (slots + ms) Q (F0 m (pc + 3) ls (rv.toList ++ rest))) : W p l e R s m args below meth c H locs cells slots Q (F0 m pc ls (As.reverse ++ rest)) := by
  have hp := z_pre (av := As) hE hK hP hD hS hA isC hC hnd
  have hts := F.2.2.2.2
  exact z_goW (vx_runSX (As := As) (rest := rest) F (hM H.size) ⟨⟨rfl, rfl, hR.1, hR.2, pay_in hts (z_goodW hy.1), List.mem_cons_self⟩, hts _ hy.1, hts _ hy.2.1, ⟨hy.2.2.1, hy.2.2.2.1⟩, fun sig h => by
    have h2 := hy.2.2.2.2
    rw [h] at h2
    exact (Option.some.inj h2).symm, hts _ hl, hts _ hst⟩ hp rfl hn hsz rfl (by show 2 * 0 + _ ≤ 8; omega) hdg hf) hP hD hS hA isC hC hnd hlen hN kk
/-- a helper's end -/
theorem z_iretW (hx : p.tables.exec = Jvm.exec) (hb : c.code = cc) (hr : meth.sig.returnType = some .int) (hlk : meth.locks = false) (hK : va_K D vwCl (zT cs) s) (hP : va_P D vwCl ws H) (hD : va_D A ws) (hS : va_S A s.heap H locs) (hdg : decode cc pc = .ok (.ireturn, 1)) (hc : cells ≤ kc) (hs : slots ≤ ks) {v : Int32} (hv : some (.int v) = rv) (hw : ws = wo) :
    W p l e R s m args below meth c H locs cells slots (vx_MQ below (zQ D cs rv wo A) (fun _ _ _ => False) args s kc ks A) (F0 m pc ls [.int v]) :=
  vx_ret (W.widen hc hs (W.iret hx hb hr (fun _ ht hW => z_end hK hP hD hS hv hw ht hW) hS.2.2 hdg hlk))
/-- what was thrown is caught by the handler that names its class -/
theorem z_catch {E : String} {ce : Cell} {q9 : Addr} (hown : s.vm.findClass own = some m.cls) (hts : ∀ w ∈ wsG, w.before args s = true) (hE : zE A s) (htab : c.exceptionTable.toList = tableOf hh) (pre : List ExceptionTableEntry) (x : ExceptionTableEntry) (suf : List ExceptionTableEntry) (hsp : tableOf hh = pre ++ x :: suf)
    (hpass : ∀ z ∈ pre, z.catchType ≠ 0 ∧ ∃ nm : String, Cond.classLink own z.catchType nm ∈ wsG ∧ (E, nm) ∈ zNcL) (hcv : covers x pc = true) (h0 : x.catchType ≠ 0) (hlink : Cond.classLink own x.catchType E ∈ wsG) (hcast : (E, E) ∈ zCastL) (hce : H[q9]? = some ce) (hv : ce.vm = .none) (hcl : s.vm.findClass E = some ce.cls)
    (kk : W p l e R s m args below meth c H locs cells slots Q (F0 m x.handlerPc ls [.ref q9])) : vx_W p l e R s m args below meth c H locs cells slots Q (F0 m pc ls rest) q9 :=
  vx_catch hown pre x suf (htab.trans hsp) (fun z hz => Or.inr ⟨(hpass z hz).1, (hpass z hz).2.elim (fun nm h => ⟨nm, hts _ h.1, hE.2.2.2.1 _ h.2⟩)⟩) hcv h0 (hts _ hlink) (va_Nw.use rfl (hE.2.1 _ hcast)) hce hv hcl kk
end ZW
