/-! MY LAYER. One list of words (wsG) for every contract; a contract zM says: from the world w the method returns rv and leaves the world wo. -/
abbrev zCs : Type := ClassId × ClassId × ClassId
abbrev zT (cs : zCs) : List (ClassId × FieldType) := [(cs.1, .int), (cs.2.1, .int), (cs.2.2, .object RX5)]
def zNestL : List (String × Nat × MethodName × String) := [(RX7, 9, yX5_init, RX7), (RX5, 27, yX0_init, RX7), (RX5, 41, yX3_init, RX7), (RX4, 17, yX5_init, RX7), (RX7, 25, yX6_init, RX7), (RX5, 68, yX7_copyRow, RX7), (RX2, 36, yX7_copyRow, RX7), (RX3, 21, yX7_copyRow, RX7), (RX1, 24, yX7_copyRow, RX7), (RX1, 28, yX7_within, RX7), (RX4, 39, yX7_within, RX7), (RX3, 29, yX7_within, RX7)]
def zIO : String := "java/lang/IndexOutOfBoundsException"
def zIA : String := "java/lang/IllegalArgumentException"
def zIS : String := "java/lang/IllegalStateException"
def zCastL : List (String × String) := [(zIO, zIO), (zIA, zIA), (zIS, zIS)]
def zDeclL : List MethodName := [Bundle.initS "java/lang/RuntimeException", Bundle.initS "java/lang/Exception", Bundle.initS "java/lang/Throwable"]
def zNcL : List (String × String) := []
def zStrL : List (Nat × String) := [(263, "there is no such cylinder or track"), (266, "there is no such step"), (61, "dwell or least is out of range"), (73, "size, speed or leak is out of range"), (94, "capacity or compressor is out of range"), (114, "both cylinders are the same, or bound is out of range"), (127, "there are 4 guards"), (273, "there is no such guard"), (146, "ticks is out of range"), (152, "there would be more than 100000 ticks"), (275, "what is out of range"), (237, "there is no saved state")]
/-- what every contract takes of the tables beside the words, and of the two statics of Throwable -/
def zE (A : Nat → Prop) (U : State) : Prop :=
  (∀ q ∈ zNestL, va_Nw (.methodLinkNest q.1 q.2.1 q.2.2.1 q.2.2.2) U) ∧ (∀ q ∈ zCastL, va_Nw (.castable q.1 q.2) U) ∧ (∀ q ∈ zDeclL, va_Nw (.declares q) U) ∧ (∀ q ∈ zNcL, va_Nc q.1 q.2 U) ∧ va_AO RX5 U ∧
  (∀ q ∈ zStrL, ∃ sa, vk_R RX7 q.1 q.2 sa U) ∧ vx_Zq Bundle.tN "UNASSIGNED_STACK" Bundle.steD A U U.heap ∧ vx_Zq Bundle.tN "SUPPRESSED_SENTINEL" Bundle.listD A U U.heap
theorem zE.next {A A' : Nat → Prop} {s U : State} {H : Heap} {locs : List Loc} (h : zE A s) (hS : va_S A s.heap H locs) (hA : ∀ q, A' q → A q) (hU : U.heap = H) (hW : s.WarmedH U.vm) : zE A' U := by
  obtain ⟨h1, h2, h3, h4, h5, h6, h7, h8⟩ := h
  refine ⟨fun q hq => va_Nw.warmM hW (h1 q hq), fun q hq => va_Nw.warmC hW (h2 q hq), fun q hq => va_Nw.warmD hW (h3 q hq), fun q hq => va_Nc.moved hW.alike (h4 q hq), va_AO.moved hW.alike h5, fun q hq => ?_, ?_, ?_⟩
  · obtain ⟨sa, h⟩ := h6 q hq
    exact ⟨sa, vk_R.warm hW h⟩
  · rw [hU]
    exact vx_Zq.moved hW.alike (vx_Zq.narrow (vx_Zq.kept h7 hS.2.1) hA)
  · rw [hU]
    exact vx_Zq.moved hW.alike (vx_Zq.narrow (vx_Zq.kept h8 hS.2.1) hA)
theorem zE.blind {A : Nat → Prop} {U : State} {g : JFrame} {mk : MethodId} {a : Array Value} (h : zE A U) : zE A (U.calling g mk a) := by
  obtain ⟨h1, h2, h3, h4, h5, h6, h7, h8⟩ := h
  refine ⟨fun q hq => va_Nw.same rfl rfl (h1 q hq), fun q hq => va_Nw.same rfl rfl (h2 q hq), fun q hq => va_Nw.same rfl rfl (h3 q hq), fun q hq => va_Nc.moved (Vm.Alike.refl U.vm) (h4 q hq), va_AO.moved (Vm.Alike.refl U.vm) h5, fun q hq => ?_, vx_Zq.moved (u := U) (U := U.calling g mk a) (Vm.Alike.refl U.vm) h7, vx_Zq.moved (u := U) (U := U.calling g mk a) (Vm.Alike.refl U.vm) h8⟩
  obtain ⟨sa, h⟩ := h6 q hq
  exact ⟨sa, vk_R.same rfl h⟩
/-- a method's start -/
def zPre (D : va_G) (cs : zCs) (w : va_W) (sz : Nat) : State → Prop := fun U =>
  U.heap.size = sz ∧ va_P D vwCl w U.heap ∧ va_K D vwCl (zT cs) U ∧ va_D (fun _ => True) w ∧ zE (va_A w sz) U
theorem zPre.blind {D : va_G} {cs : zCs} {av : List Value} {w : va_W} {sz : Nat} : FrameBlind (va_Pc av (zPre D cs w sz)) := fun _ U g mk q => by
  obtain ⟨q0, q1, qP, qK, qD, qE⟩ := q
  exact ⟨q0, q1, qP, va_K.moved (u := U) (U := U.calling g mk _) (Vm.Alike.refl U.vm) qK, qD, qE.blind⟩
/-- a method's end: it returned rv, and left the world wo -/
def zQ (D : va_G) (cs : zCs) (rv : Option Value) (wo : va_W) (A : Nat → Prop) : Array Value → State → Outcome → State → Prop := fun _ st o t =>
  (o = .returned rv ∧ va_P D vwCl wo t.heap ∧ va_K D vwCl (zT cs) t ∧ va_D A wo) ∧ va_F A st t
/-- the contract -/
def zM (l : Launch) (D : va_G) (cs : zCs) (y : MethodName) (cb : ByteArray) (ml : Nat) (ret : Option FieldType) (fr lo mc ms : Nat) (av : List Value) (w : va_W) (rv : Option Value) (wo : va_W) : Prop :=
  ∀ sz : Nat, Met l y (Cond.code y cb ml ret :: wsG) ({ frames := fr, cells := mc, slots := ms, locals := lo } : Room) (va_Pc av (zPre D cs w sz)) (zQ D cs rv wo (va_A w sz)) mc ms (va_A w sz)
theorem z_good {y : MethodName} {cb : ByteArray} {ml : Nat} {ret : Option FieldType} (hc : Cond.code y cb ml ret ∈ wsG) : GoodIn wsG (Cond.code y cb ml ret :: wsG) := fun w hw => by
  rcases List.mem_cons.mp hw with rfl | h
  · exact ⟨hc, wsG_good _ hc⟩
  · exact ⟨h, wsG_good _ h⟩
/-- a method's body, from its entry -/
theorem zM.of {l : Launch} {D : va_G} {cs : zCs} {y : MethodName} {cb : ByteArray} {ml : Nat} {ret : Option FieldType} {fr lo mc ms : Nat} {av : List Value} {w : va_W} {rv : Option Value} {wo : va_W} {own : String}
    (hy : plainName y.cls = true) (hl : (lg_sl av).length ≤ ml) (ho : y.cls = own)
    (body : ∀ (p : Program) (e : Env) (s : State) (m : MethodId) (below : List Frame) (meth : Method) (c : Code) (A : Nat → Prop) (ls : Array Slot), p.tables.exec = Jvm.exec → c.code = cb → meth.sig.returnType = ret → c.maxLocals = ml → s.vm.findClass own = some m.cls → (∀ w ∈ wsG, w.before av.toArray s = true) → meth.locks = false → meth.name = y.name → zE A s → va_K D vwCl (zT cs) s → (∀ q : Nat, s.heap.size ≤ q → A q) → va_P D vwCl w s.heap → va_D A w → va_S A s.heap s.heap [] → lv_has ls ml (lv_args 0 av) →
      W p l e ({ frames := fr, cells := mc, slots := ms, locals := lo } : Room) s m av.toArray below meth c s.heap [] 0 0 (MQ below (zQ D cs rv wo A) av.toArray s mc ms A) (F0 m 0 ls [])) : zM l D cs y cb ml ret fr lo mc ms av w rv wo := by
  subst ho
  intro sz
  refine Met.ofW (cc := cb) (maxL := ml) (ret := ret) hy rfl ?_
  intro p e s m args below meth c s₁ B hml hv
  obtain ⟨rfl, hsz, hP, hK, hD0, hE⟩ := hv
  have hts := atoms_spec (ws := Cond.code y cb ml ret :: wsG) B.pre
  subst hsz
  have hD := hD0.self (sz := s.heap.size)
  have hlv := lv_entry av (n := ml) hl
  rw [lg_entry_eq]
  exact body p e s m below meth c _ _ B.exec B.bytes B.returns hml (findClass_of_methodNamed B.named) (fun w hw => hts w (List.mem_cons_of_mem _ hw)) B.notSynchronized (name_of_methodNamed B.named B.method).1 hE hK (fun q h => Or.inr h) hP hD va_S.rf hlv
/-- places of a world replaced, in place -/
def z_pick (k : Nat) : List Nat → va_W → Option (Nat × va_E)
  | i :: is, q :: w => if i = k then some q else z_pick k is w
  | _, _ => none
def z_ins : Nat → va_W → List Nat → va_W → va_W
  | _, [], _, _ => []
  | k, q :: ws, is, w => (match z_pick k is w with | some q' => q' | none => q) :: z_ins (k + 1) ws is w
theorem z_pick_some {k : Nat} {q : Nat × va_E} : ∀ {is : List Nat} {w : va_W}, z_pick k is w = some q → ∃ j : Nat, is[j]? = some k ∧ w[j]? = some q
  | [], w, h => by simp [z_pick] at h
  | i :: is, [], h => by simp [z_pick] at h
  | i :: is, x :: w, h => by
    unfold z_pick at h
    by_cases hik : i = k
    · rw [if_pos hik] at h
      cases h
      exact ⟨0, by simp [hik], rfl⟩
    · rw [if_neg hik] at h
      obtain ⟨j, h1, h2⟩ := z_pick_some h
      exact ⟨j + 1, by simpa using h1, by simpa using h2⟩
theorem z_pick_none {k : Nat} : ∀ {is : List Nat} {w : va_W}, is.length = w.length → z_pick k is w = none → k ∉ is
  | [], _, _, _ => List.not_mem_nil
  | i :: is, [], h, _ => by simp at h
  | i :: is, x :: w, hl, h => by
    unfold z_pick at h
    by_cases hik : i = k
    · rw [if_pos hik] at h
      cases h
    · rw [if_neg hik] at h
      intro hm
      rcases List.mem_cons.mp hm with e | hm
      · exact hik e.symm
      · exact z_pick_none (by simpa using hl) h hm
theorem z_ins_get : ∀ {b : Nat} {ws : va_W} {is : List Nat} {w : va_W} {k : Nat} {q : Nat × va_E}, (z_ins b ws is w)[k]? = some q → z_pick (b + k) is w = some q ∨ (z_pick (b + k) is w = none ∧ ws[k]? = some q)
  | b, [], is, w, k, q, h => by simp [z_ins] at h
  | b, x :: ws, is, w, 0, q, h => by
    unfold z_ins at h
    rw [List.getElem?_cons_zero] at h
    rw [Nat.add_zero]
    cases hp : z_pick b is w with
    | none => rw [hp] at h; exact Or.inr ⟨rfl, h⟩
    | some y => rw [hp] at h; exact Or.inl h
  | b, x :: ws, is, w, k + 1, q, h => by
    unfold z_ins at h
    rw [List.getElem?_cons_succ] at h
    have := z_ins_get h
    rw [show b + (k + 1) = b + 1 + k by omega]
    rw [List.getElem?_cons_succ]
    exact this
theorem z_join {A0 : Nat → Prop} {D : va_G} {cl : List vw_C} {ws wc w1 : va_W} {H H1 : Heap} (hP : va_P D cl ws H) (hD : va_D A0 ws) (isC : List Nat) (hC : isC.map (fun i => ws[i]?) = wc.map some) (hn : va_nd isC = true) (hlen : w1.map (fun q => q.1) = wc.map (fun q => q.1))
    (hk : ∀ q : Nat, q < H.size → ¬ va_A wc H.size q → H1[q]? = H[q]?) (hP1 : va_P D cl w1 H1) : va_P D cl (z_ins 0 ws isC w1) H1 ∧ va_D A0 (z_ins 0 ws isC w1) := by
  have hl1 : isC.length = wc.length := by have := congrArg List.length hC; simpa using this
  have hl2 : isC.length = w1.length := by
    have := congrArg List.length hlen
    simp at this
    omega
  have atC : ∀ (j : Nat) (q : Nat × va_E), w1[j]? = some q → ∃ (i : Nat) (e : va_E), isC[j]? = some i ∧ ws[i]? = some (q.1, e) := by
    intro j q hq
    have h1 : (w1.map (fun q => q.1))[j]? = some q.1 := by rw [List.getElem?_map, hq]; rfl
    rw [hlen, List.getElem?_map] at h1
    cases hw : wc[j]? with
    | none => rw [hw] at h1; cases h1
    | some r =>
      rw [hw] at h1
      have h2 : (isC.map (fun i => ws[i]?))[j]? = some (some r) := by rw [hC, List.getElem?_map, hw]; rfl
      rw [List.getElem?_map] at h2
      cases hi : isC[j]? with
      | none => rw [hi] at h2; cases h2
      | some i =>
        rw [hi] at h2
        have h3 : ws[i]? = some r := Option.some.inj h2
        have h4 : r.1 = q.1 := Option.some.inj h1
        exact ⟨i, r.2, rfl, by rw [h3, ← h4]⟩
  have key : ∀ (k : Nat) (q : Nat × va_E), (z_ins 0 ws isC w1)[k]? = some q → (∃ j : Nat, isC[j]? = some k ∧ w1[j]? = some q) ∨ (k ∉ isC ∧ ws[k]? = some q) := by
    intro k q hq
    rcases z_ins_get hq with h | ⟨h1, h2⟩
    · rw [Nat.zero_add] at h
      exact Or.inl (z_pick_some h)
    · rw [Nat.zero_add] at h1
      exact Or.inr ⟨z_pick_none hl2 h1, h2⟩
  have addr : ∀ (k : Nat) (q : Nat × va_E), (z_ins 0 ws isC w1)[k]? = some q → ∃ e, ws[k]? = some (q.1, e) := by
    intro k q hq
    rcases key k q hq with ⟨j, h1, h2⟩ | ⟨_, h2⟩
    · obtain ⟨i, e, h3, h4⟩ := atC j q h2
      rw [h1] at h3
      cases h3
      exact ⟨e, h4⟩
    · exact ⟨q.2, h2⟩
  refine ⟨fun k q hq => ?_, fun i j x y hx hy hxy => ?_, fun k q hq => ?_⟩
  · rcases key k q hq with ⟨j, h1, h2⟩ | ⟨h1, h2⟩
    · exact hP1 j q h2
    · refine (hP k q h2).kept (hk q.1 (hP k q h2).lt (fun hA => ?_))
      rcases hA with ⟨k2, e, h⟩ | h
      · have h3 : (isC.map (fun i => ws[i]?))[k2]? = some (some (q.1, e)) := by rw [hC, List.getElem?_map, h]; rfl
        rw [List.getElem?_map] at h3
        cases hi : isC[k2]? with
        | none => rw [hi] at h3; cases h3
        | some i =>
          rw [hi] at h3
          have h4 : ws[i]? = some (q.1, e) := Option.some.inj h3
          have := hD.1 k i q (q.1, e) h2 h4 rfl
          subst this
          exact h1 (List.mem_of_getElem? hi)
      · have := (hP k q h2).lt
        omega
  · obtain ⟨e1, g1⟩ := addr i x hx
    obtain ⟨e2, g2⟩ := addr j y hy
    exact hD.1 i j (x.1, e1) (y.1, e2) g1 g2 hxy
  · obtain ⟨e1, g1⟩ := addr k q hq
    exact hD.2 k (q.1, e1) g1
section ZK
variable {p : Program} {l : Launch} {e : Env} {R : Room} {s : State} {m : MethodId} {args : Array Value} {below : List Frame} {meth : Method} {c : Code} {H : Heap} {locs : List Loc} {cells slots : Nat} {Q : State → Prop}
variable {pc : Nat} {ls : Array Slot} {rest st0 : List Value} {A : Nat → Prop} {mc ms : Nat} {D : va_G} {cs : zCs} {ws wc wo wn : va_W} {rv : Option Value} {a : Array Value}
/-- behind a call that returned: its cells in their places -/
theorem z_go (hr : va_Run p l e R s m args below meth c H locs cells slots mc ms (F0 m pc ls st0) rest (zQ D cs rv wo (va_A wc H.size) a) (va_A wc H.size)) (hP : va_P D vwCl ws H) (hD : va_D A ws) (hS : va_S A s.heap H locs) (hA : ∀ q : Nat, s.heap.size ≤ q → A q)
    (isC : List Nat) (hC : isC.map (fun i => ws[i]?) = wc.map some) (hn : va_nd isC = true) (hlen : wo.map (fun q => q.1) = wc.map (fun q => q.1)) (hN : z_ins 0 ws isC wo = wn)
    (kk : ∀ (H1 : Heap) (locs1 : List Loc), va_P D vwCl wn H1 → va_D A wn → va_S A s.heap H1 locs1 → W p l e R s m args below meth c H1 locs1 (cells + mc) (slots + ms) Q (F0 m (pc + 3) ls (rv.toList ++ rest))) : W p l e R s m args below meth c H locs cells slots Q (F0 m pc ls st0) := by
  intro T hT X
  obtain ⟨v, st₀, t, T', L, h0, X', hL, e1, e2, ⟨⟨hv, hP1, hK1, hD1⟩, hz, hk⟩, st⟩ := hr T hT X
  cases hv
  rw [h0] at hz hk
  have hF := va_free (wc := wc) hD hS hA isC hC
  obtain ⟨hP2, hD2⟩ := z_join (H1 := t.heap) hP hD isC hC hn hlen hk hP1
  rw [hN] at hP2 hD2
  obtain ⟨t2, a1, b1⟩ := kk T'.heap (locs ++ L) (by rw [e1]; exact hP2) hD2
    ⟨Nat.le_trans hS.1 (by rw [e1]; exact hz), fun q h1 h2 => by rw [e1, hk q (Nat.lt_of_lt_of_le h1 hS.1) (fun z => h2 (hF q z))]; exact hS.2.1 q h1 h2, fun q hq => by
      rcases List.mem_append.mp hq with h | h
      · exact hS.2.2 q h
      · exact hF _ (hL q h)⟩ T' rfl X'
  exact ⟨t2, st t2 a1, b1⟩
theorem z_pre {av : List Value} (hE : zE A s) (hK : va_K D vwCl (zT cs) s) (hP : va_P D vwCl ws H) (hD : va_D A ws) (hS : va_S A s.heap H locs) (hA : ∀ q : Nat, s.heap.size ≤ q → A q) (isC : List Nat) (hC : isC.map (fun i => ws[i]?) = wc.map some) (hn : va_nd isC = true) : PreS s H (va_Pc av (zPre D cs wc H.size)) av := by
  refine ⟨zPre.blind, fun U hU hW => ⟨rfl, by rw [hU], ?_, va_K.moved hW.alike hK, (hD.sub isC hn hC).weaken (fun _ _ _ _ => trivial), hE.next hS (va_free (wc := wc) hD hS hA isC hC) hU hW⟩⟩
  rw [hU]
  intro k q hq
  have h1 : (isC.map (fun i => ws[i]?))[k]? = some (some q) := by rw [hC, List.getElem?_map, hq]; rfl
  rw [List.getElem?_map] at h1
  cases hi : isC[k]? with
  | none => rw [hi] at h1; cases h1
  | some i =>
    rw [hi] at h1
    exact hP i q (Option.some.inj h1)
end ZK
/-- what a callee's name gives -/
def zY (y : MethodName) (cb : ByteArray) (ml : Nat) (ret : Option FieldType) (n : Nat) : Prop :=
  Cond.code y cb ml ret ∈ wsG ∧ Cond.initialized y.cls ∈ wsG ∧ (y.cls ≠ "java/lang/invoke/MethodHandle" ∧ y.cls ≠ "java/lang/invoke/VarHandle" ∧ (parseMethodDescriptor y.desc).map (fun d => d.parameters.length) = some n)
theorem z_ins_nil {b : Nat} {ws w : va_W} : z_ins b ws [] w = ws := by
  induction ws generalizing b with
  | nil => rfl
  | cons x ws ih => simp [z_ins, z_pick, ih]
section ZC
variable {p : Program} {l : Launch} {e : Env} {R : Room} {s : State} {m : MethodId} {args : Array Value} {below : List Frame} {meth : Method} {c : Code} {H : Heap} {locs : List Loc} {cells slots : Nat} {Q : State → Prop}
variable {pc : Nat} {ls : Array Slot} {A : Nat → Prop} {mc ms : Nat} {D : va_G} {cs : zCs} {ws wc wo wn : va_W} {rv : Option Value}
variable {cc cb : ByteArray} {nL n index ml fr lo : Nat} {own host : String} {y : MethodName} {ret : Option FieldType}
theorem z_callV (F : CallFix p m c cc nL s args wsG own) (hy : zY y cb ml ret n) (hi : Cond.instanceMethod y ∈ wsG) (hse : Cond.selects y.cls y y ∈ wsG) (hl : Cond.methodLink own index y ∈ wsG) {b : Nat} (As rest : List Value) (hM : zM l D cs y cb ml ret fr lo mc ms (.ref b :: As) wc rv wo)
    (hE : zE A s) (hK : va_K D vwCl (zT cs) s) (hA : ∀ q : Nat, s.heap.size ≤ q → A q) (hP : va_P D vwCl ws H) (hD : va_D A ws) (hS : va_S A s.heap H locs)
    (isC : List Nat) (hC : isC.map (fun i => ws[i]?) = wc.map some) (hnd : va_nd isC = true) (hlen : wo.map (fun q => q.1) = wc.map (fun q => q.1)) (hN : z_ins 0 ws isC wo = wn)
    (ci : Nat) {r : vw_C} {fs : List Value} (hcl : vwCl[ci]? = some r) (hr0 : wc[0]? = some (b, .inr (ci, fs))) (hrC : r.1 = y.cls)
    (hn : As.length = n) (hsz : ls.size = nL) (hW : (rest.map fun v => v.category).sum ≤ 8) (hR : fr + 1 ≤ R.frames ∧ 8 + (ml + 11) + lo ≤ R.locals) (hf : cells + mc ≤ R.cells ∧ slots + ms ≤ R.slots) (hdg : decode cc pc = .ok (.invokevirtual index, 3))
    (kk : ∀ (H1 : Heap) (locs1 : List Loc), va_P D vwCl wn H1 → va_D A wn → va_S A s.heap H1 locs1 → W p l e R s m args below meth c H1 locs1 (cells + mc) (slots + ms) Q (F0 m (pc + 3) ls (rv.toList ++ rest))) : W p l e R s m args below meth c H locs cells slots Q (F0 m pc ls (As.reverse ++ .ref b :: rest)) := by
  have hp := z_pre (av := .ref b :: As) hE hK hP hD hS hA isC hC hnd
  have hPc : va_P D vwCl wc H := by
    intro k q hq
    have h1 : (isC.map (fun i => ws[i]?))[k]? = some (some q) := by rw [hC, List.getElem?_map, hq]; rfl
    rw [List.getElem?_map] at h1
    cases hi : isC[k]? with
    | none => rw [hi] at h1; cases h1
    | some i =>
      rw [hi] at h1
      exact hP i q (Option.some.inj h1)
  have hcw : CallW R s args own y.cls index y cb ml ret (Cond.code y cb ml ret :: wsG) ({ frames := fr, cells := mc, slots := ms, locals := lo } : Room) mc ms n :=
    ⟨callB_of n F.2.2.2.2 (z_good hy.1) rfl rfl rfl (F.2.2.2.2 _ hy.2.1) (F.2.2.2.2 _ hl) hy.2.2 hR, F.2.2.2.2 _ hi, F.2.2.2.2 _ hse⟩
  refine z_go (va_runV (As := As) (rest := rest) F (hM H.size) hcw ⟨hp.1, ?_, hp.2⟩ rfl hn hsz rfl (by show 2 * 0 + _ ≤ 8; omega) hdg hf) hP hD hS hA isC hC hnd hlen hN kk
  have := va_recv hK hPc (ci := ci) (q0 := 0) hcl hr0
  rw [hrC] at this
  exact this
theorem z_callS (F : CallFix p m c cc nL s args wsG own) (hy : zY y cb ml ret n) (hst : Cond.static y ∈ wsG) (hl : Cond.methodLink own index y ∈ wsG) (As rest : List Value) (hM : zM l D cs y cb ml ret fr lo mc ms As wc rv wo)
    (hE : zE A s) (hK : va_K D vwCl (zT cs) s) (hA : ∀ q : Nat, s.heap.size ≤ q → A q) (hP : va_P D vwCl ws H) (hD : va_D A ws) (hS : va_S A s.heap H locs)
    (isC : List Nat) (hC : isC.map (fun i => ws[i]?) = wc.map some) (hnd : va_nd isC = true) (hlen : wo.map (fun q => q.1) = wc.map (fun q => q.1)) (hN : z_ins 0 ws isC wo = wn)
    (hn : As.length = n) (hsz : ls.size = nL) (hW : (rest.map fun v => v.category).sum ≤ 8) (hR : fr + 1 ≤ R.frames ∧ 8 + (ml + 11) + lo ≤ R.locals) (hf : cells + mc ≤ R.cells ∧ slots + ms ≤ R.slots) (hdg : decode cc pc = .ok (.invokestatic index, 3))
    (kk : ∀ (H1 : Heap) (locs1 : List Loc), va_P D vwCl wn H1 → va_D A wn → va_S A s.heap H1 locs1 → W p l e R s m args below meth c H1 locs1 (cells + mc) (slots + ms) Q (F0 m (pc + 3) ls (rv.toList ++ rest))) : W p l e R s m args below meth c H locs cells slots Q (F0 m pc ls (As.reverse ++ rest)) := by
  have hp := z_pre (av := As) hE hK hP hD hS hA isC hC hnd
  exact z_go (va_runS (As := As) (rest := rest) F (hM H.size) ⟨callB_of n F.2.2.2.2 (z_good hy.1) rfl rfl rfl (F.2.2.2.2 _ hy.2.1) (F.2.2.2.2 _ hl) hy.2.2 hR, F.2.2.2.2 _ hst⟩ hp rfl hn hsz rfl (by show 2 * 0 + _ ≤ 8; omega) hdg hf) hP hD hS hA isC hC hnd hlen hN kk
theorem z_callSN (F : CallFix p m c cc nL s args wsG own) (hy : zY y cb ml ret n) (hst : Cond.static y ∈ wsG) (hl : (own, index, y, host) ∈ zNestL) (As rest : List Value) (hM : zM l D cs y cb ml ret fr lo mc ms As wc rv wo)
    (hE : zE A s) (hK : va_K D vwCl (zT cs) s) (hA : ∀ q : Nat, s.heap.size ≤ q → A q) (hP : va_P D vwCl ws H) (hD : va_D A ws) (hS : va_S A s.heap H locs)
    (isC : List Nat) (hC : isC.map (fun i => ws[i]?) = wc.map some) (hnd : va_nd isC = true) (hlen : wo.map (fun q => q.1) = wc.map (fun q => q.1)) (hN : z_ins 0 ws isC wo = wn)
    (hn : As.length = n) (hsz : ls.size = nL) (hW : (rest.map fun v => v.category).sum ≤ 8) (hR : fr + 1 ≤ R.frames ∧ 8 + (ml + 11) + lo ≤ R.locals) (hf : cells + mc ≤ R.cells ∧ slots + ms ≤ R.slots) (hdg : decode cc pc = .ok (.invokestatic index, 3))
    (kk : ∀ (H1 : Heap) (locs1 : List Loc), va_P D vwCl wn H1 → va_D A wn → va_S A s.heap H1 locs1 → W p l e R s m args below meth c H1 locs1 (cells + mc) (slots + ms) Q (F0 m (pc + 3) ls (rv.toList ++ rest))) : W p l e R s m args below meth c H locs cells slots Q (F0 m pc ls (As.reverse ++ rest)) := by
  have hp := z_pre (av := As) hE hK hP hD hS hA isC hC hnd
  exact z_go (va_runSN (As := As) (rest := rest) F (hM H.size) ⟨va_cnB n F.2.2.2.2 (z_good hy.1) rfl rfl rfl (hE.1 _ hl) (F.2.2.2.2 _ hy.2.1) hy.2.2 hR, F.2.2.2.2 _ hst, trivial⟩ hp rfl hn hsz rfl (by show 2 * 0 + _ ≤ 8; omega) hdg hf) hP hD hS hA isC hC hnd hlen hN kk
/-- the ends -/
theorem z_end {t : State} (hK : va_K D vwCl (zT cs) s) (hP : va_P D vwCl ws H) (hD : va_D A ws) (hS : va_S A s.heap H locs) {v : Option Value} (hv : v = rv) (hw : ws = wo) (ht : t.heap = H) (hW : s.WarmedH t.vm) : zQ D cs rv wo A args s (.returned v) t := by
  subst hv; subst hw
  exact ⟨⟨rfl, by rw [ht]; exact hP, va_K.moved hW.alike hK, hD⟩, hS.F ht⟩
theorem z_iret (hx : p.tables.exec = Jvm.exec) (hb : c.code = cc) (hr : meth.sig.returnType = some .int) (hlk : meth.locks = false) (hK : va_K D vwCl (zT cs) s) (hP : va_P D vwCl ws H) (hD : va_D A ws) (hS : va_S A s.heap H locs) (hdg : decode cc pc = .ok (.ireturn, 1)) {v : Int32} (hv : some (.int v) = rv) (hw : ws = wo) :
    W p l e R s m args below meth c H locs cells slots (MQ below (zQ D cs rv wo A) args s cells slots A) (F0 m pc ls [.int v]) :=
  W.iret hx hb hr (fun _ ht hW => z_end hK hP hD hS hv hw ht hW) hS.2.2 hdg hlk
theorem z_zret (hx : p.tables.exec = Jvm.exec) (hb : c.code = cc) (hr : meth.sig.returnType = some .boolean) (hlk : meth.locks = false) (hK : va_K D vwCl (zT cs) s) (hP : va_P D vwCl ws H) (hD : va_D A ws) (hS : va_S A s.heap H locs) (hdg : decode cc pc = .ok (.ireturn, 1)) {v : Int32} (hn : narrow .boolean (.int v) = .int v) (hv : some (.int v) = rv) (hw : ws = wo) :
    W p l e R s m args below meth c H locs cells slots (MQ below (zQ D cs rv wo A) args s cells slots A) (F0 m pc ls [.int v]) :=
  W.zret hx hb hr hn (fun _ ht hW => z_end hK hP hD hS hv hw ht hW) hS.2.2 hdg hlk
theorem z_vret (hx : p.tables.exec = Jvm.exec) (hb : c.code = cc) (hr : meth.sig.returnType = none) (hlk : meth.locks = false) (hK : va_K D vwCl (zT cs) s) (hP : va_P D vwCl ws H) (hD : va_D A ws) (hS : va_S A s.heap H locs) (hdg : decode cc pc = .ok (.return_, 1)) (hv : none = rv) (hw : ws = wo) :
    W p l e R s m args below meth c H locs cells slots (MQ below (zQ D cs rv wo A) args s cells slots A) (F0 m pc ls []) :=
  W.vret hx hb hr (fun _ ht hW => z_end hK hP hD hS hv hw ht hW) hS.2.2 hdg hlk
theorem z_lret (hx : p.tables.exec = Jvm.exec) (hb : c.code = cc) (hr : meth.sig.returnType = some .long) (hlk : meth.locks = false) (hK : va_K D vwCl (zT cs) s) (hP : va_P D vwCl ws H) (hD : va_D A ws) (hS : va_S A s.heap H locs) (hdg : decode cc pc = .ok (.lreturn, 1)) {v : Int64} (hv : some (.long v) = rv) (hw : ws = wo) :
    W p l e R s m args below meth c H locs cells slots (MQ below (zQ D cs rv wo A) args s cells slots A) (F0 m pc ls [.long v]) :=
  W.lret hx hb hr (fun _ ht hW => z_end hK hP hD hS hv hw ht hW) hS.2.2 hdg hlk
theorem z_dret (hx : p.tables.exec = Jvm.exec) (hb : c.code = cc) (hr : meth.sig.returnType = some .double) (hlk : meth.locks = false) (hK : va_K D vwCl (zT cs) s) (hP : va_P D vwCl ws H) (hD : va_D A ws) (hS : va_S A s.heap H locs) (hdg : decode cc pc = .ok (.dreturn, 1)) {v : UInt64} (hv : some (.double v) = rv) (hw : ws = wo) :
    W p l e R s m args below meth c H locs cells slots (MQ below (zQ D cs rv wo A) args s cells slots A) (F0 m pc ls [.double v]) :=
  W.dret hx hb hr (fun _ ht hW => z_end hK hP hD hS hv hw ht hW) hS.2.2 hdg hlk
/-- an int of an array, read and written at a known place; its contents are what they are below its length -/
theorem z_ext {w1 w2 : va_W} {a : Nat} {cA : ClassId} {k : Nat} {f g : Nat → Int32} (h : ∀ j : Nat, j < k → f j = g j) (hP : va_P D vwCl (w1 ++ (a, .inl (cA, k, .inl f)) :: w2) H) : va_P D vwCl (w1 ++ (a, .inl (cA, k, .inl g)) :: w2) H := by
  have hc : vp_cell cA (k, .inl f) = vp_cell cA (k, .inl g) := by
    rw [vp_cell_i, vp_cell_i]
    unfold arrV
    congr 1
    apply Array.ext
    · simp
    · intro i h1 h2
      simp at h1 h2 ⊢
      exact h i h1
  intro i q hq
  by_cases hi : i < w1.length
  · rw [List.getElem?_append_left hi] at hq
    exact hP i q (by rw [List.getElem?_append_left hi]; exact hq)
  · have hi := Nat.le_of_not_lt hi
    rw [List.getElem?_append_right hi] at hq
    have h2 := fun q => hP i q
    rw [List.getElem?_append_right hi] at h2
    cases hz : i - w1.length with
    | zero =>
      rw [hz] at hq h2
      cases hq
      have := h2 _ rfl
      show H[a]? = some (vp_cell cA (k, .inl g))
      rw [← hc]
      exact this
    | succ z =>
      rw [hz, List.getElem?_cons_succ] at hq h2
      exact h2 q hq
theorem z_extD {w1 w2 : va_W} {a : Nat} {e1 e2 : va_E} (hD : va_D A (w1 ++ (a, e1) :: w2)) : va_D A (w1 ++ (a, e2) :: w2) := by
  have key : ∀ (k : Nat) (q : Nat × va_E), (w1 ++ (a, e2) :: w2)[k]? = some q → ∃ e, (w1 ++ (a, e1) :: w2)[k]? = some (q.1, e) := by
    intro k q hq
    by_cases hi : k < w1.length
    · rw [List.getElem?_append_left hi] at hq ⊢
      exact ⟨q.2, hq⟩
    · have hi := Nat.le_of_not_lt hi
      rw [List.getElem?_append_right hi] at hq ⊢
      cases hz : k - w1.length with
      | zero =>
        rw [hz] at hq
        cases hq
        exact ⟨e1, rfl⟩
      | succ z =>
        rw [hz, List.getElem?_cons_succ] at hq
        rw [List.getElem?_cons_succ]
        exact ⟨q.2, hq⟩
  refine ⟨fun i j x y hx hy hxy => ?_, fun k q hq => ?_⟩
  · obtain ⟨e3, g1⟩ := key i x hx
    obtain ⟨e4, g2⟩ := key j y hy
    exact hD.1 i j (x.1, e3) (y.1, e4) g1 g2 hxy
  · obtain ⟨e3, g1⟩ := key k q hq
    exact hD.2 k (q.1, e3) g1
theorem z_top {x y : Int32} {rest : List Value} (h : x = y) (k : W p l e R s m args below meth c H locs cells slots Q (F0 m pc ls (.int y :: rest))) : W p l e R s m args below meth c H locs cells slots Q (F0 m pc ls (.int x :: rest)) := h ▸ k
theorem z_topl {x y : Int64} {rest : List Value} (h : x = y) (k : W p l e R s m args below meth c H locs cells slots Q (F0 m pc ls (.long y :: rest))) : W p l e R s m args below meth c H locs cells slots Q (F0 m pc ls (.long x :: rest)) := h ▸ k
end ZC
/-- a truth as the machine has it -/
def bI (P : Prop) [Decidable P] : Int32 := if P then 1 else 0
theorem bI_t {P : Prop} [Decidable P] (h : P) : bI P = 1 := if_pos h
theorem bI_f {P : Prop} [Decidable P] (h : ¬ P) : bI P = 0 := if_neg h
theorem bI_0 {P : Prop} [Decidable P] : bI P = 0 ↔ ¬ P := by
  unfold bI
  by_cases h : P
  · rw [if_pos h]; exact ⟨fun q => absurd q (by decide), fun q => absurd h q⟩
  · rw [if_neg h]; exact ⟨fun _ => h, fun _ => rfl⟩
theorem bI_nar {P : Prop} [Decidable P] : narrow .boolean (.int (bI P)) = .int (bI P) := by
  unfold bI
  by_cases h : P
  · rw [if_pos h]; rfl
  · rw [if_neg h]; rfl
theorem bI_fit {P : Prop} [Decidable P] : fits .boolean (.int (bI P)) = true := by
  unfold bI
  by_cases h : P
  · rw [if_pos h]; rfl
  · rw [if_neg h]; rfl
theorem bI_congr {P Q : Prop} [Decidable P] [Decidable Q] (h : P ↔ Q) : bI P = bI Q := by
  unfold bI
  by_cases hp : P
  · rw [if_pos hp, if_pos (h.mp hp)]
  · rw [if_neg hp, if_neg (fun q => hp (h.mpr q))]
