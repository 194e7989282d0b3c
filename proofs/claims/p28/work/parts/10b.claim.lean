/-! the start of the law -/
theorem lw_zNest : ∀ q ∈ zNestL, Cond.methodLinkNest q.1 q.2.1 q.2.2.1 q.2.2.2 ∈ lw_tbl := by decide +kernel
theorem lw_zCast : ∀ q ∈ zCastL, Cond.castable q.1 q.2 ∈ lw_tbl := by decide +kernel
theorem lw_zDecl : ∀ q ∈ zDeclL, Cond.declares q ∈ lw_tbl := by decide +kernel
theorem lw_zStr : ∀ q ∈ zStrL, Cond.stringRef RX7 q.1 q.2 ∈ lw_tbl := by decide +kernel
theorem lw_zOver : Cond.arrayOver (.object RX5) ∈ lw_tbl := by decide +kernel
theorem lw_zLay1 : Cond.laysStatic Bundle.tN "UNASSIGNED_STACK" Bundle.steD ∈ lw_tbl := by decide +kernel
theorem lw_zLay2 : Cond.laysStatic Bundle.tN "SUPPRESSED_SENTINEL" Bundle.listD ∈ lw_tbl := by decide +kernel
theorem lw_zIni : Cond.initialized Bundle.tN ∈ lw_tbl := by decide +kernel
theorem lw_zNc : ∀ q ∈ zNcL, Cond.not (.castable q.1 q.2) ∈ flatC (Jvm.Cond.and given_1 narrow_1) := by decide +kernel
theorem lw_zRef1 : Cond.isRef (.static Bundle.tN "UNASSIGNED_STACK" Bundle.steD) ∈ flatC (Jvm.Cond.and given_1 narrow_1) := by decide +kernel
theorem lw_zRef2 : Cond.isRef (.static Bundle.tN "SUPPRESSED_SENTINEL" Bundle.listD) ∈ flatC (Jvm.Cond.and given_1 narrow_1) := by decide +kernel
theorem lw_zE {args : Array Value} {s : State} (hts0 : ∀ w ∈ lw_tbl, w.before args s = true) (hgv : (Jvm.Cond.and given_1 narrow_1).before args s = true) {c7 : ClassId} (h7 : s.vm.findClass RX7 = some c7) : zE (fun q : Nat => s.heap.size ≤ q) s := by
  have hfl := flat_of_before _ hgv
  refine ⟨fun q hq => va_Nw.of rfl (hts0 _ (lw_zNest q hq)), fun q hq => va_Nw.of rfl (hts0 _ (lw_zCast q hq)), fun q hq => va_Nw.of rfl (hts0 _ (lw_zDecl q hq)), fun q hq => va_Nc.of (hfl _ (lw_zNc q hq)), va_AO.of (hts0 _ lw_zOver), fun q hq => ?_, vx_Zqof (hts0 _ lw_zLay1) (hts0 _ lw_zIni) (hfl _ lw_zRef1) (fun x hx => Nat.not_le.mpr hx), vx_Zqof (hts0 _ lw_zLay2) (hts0 _ lw_zIni) (hfl _ lw_zRef2) (fun x hx => Nat.not_le.mpr hx)⟩
  have h1 := hts0 _ (lw_zStr q hq)
  obtain ⟨k, cf, i, sa, -, -, -, -, -, ev⟩ := Cond.stringRef_spec h7 h1
  exact ⟨sa, vk_R.of h1 ev⟩
theorem lw_zK {args : Array Value} {s : State} (hts : ∀ w ∈ wsG, w.before args s = true) (hov : (Cond.arrayOver (.object RX5)).before args s = true) : ∃ (D : va_G) (cs : zCs) (c7 : ClassId), va_K D vwCl (zT cs) s ∧ s.vm.findClass RX7 = some c7 := by
  obtain ⟨c0, i0, hn0⟩ := u_known (C := RX0) (T := TX0) (N := 7) (n := 7) hts wsI_X0 (hts _ w_is_X0)
  obtain ⟨c1, i1, hn1⟩ := u_known (C := RX1) (T := TX1) (N := 2) (n := 2) hts wsI_X1 (hts _ w_is_X1)
  obtain ⟨c2, i2, hn2⟩ := u_known (C := RX2) (T := TX2) (N := 6) (n := 6) hts wsI_X2 (hts _ w_is_X2)
  obtain ⟨c3, i3, hn3⟩ := u_known (C := RX3) (T := TX3) (N := 4) (n := 4) hts wsI_X3 (hts _ w_is_X3)
  obtain ⟨c4, i4, hn4⟩ := u_known (C := RX4) (T := TX4) (N := 3) (n := 3) hts wsI_X4 (hts _ w_is_X4)
  obtain ⟨c5, i5, hn5⟩ := u_known (C := RX5) (T := TX5) (N := 13) (n := 13) hts wsI_X5 (hts _ w_is_X5)
  obtain ⟨c6, i6, hn6⟩ := u_known (C := RX6) (T := TX6) (N := 6) (n := 6) hts wsI_X6 (hts _ w_is_X6)
  obtain ⟨c7, i7, hn7⟩ := u_known (C := RX7) (T := TX7) (N := 5) (n := 5) hts wsI_X7 (hts _ w_is_X7)
  obtain ⟨D, hKc⟩ : ∃ D : va_G, ∀ (k : Nat) (q : vw_C), vwCl[k]? = some q → u_Kn s q.1 q.2.1 q.2.2 (D.1 k) (D.2 k) := by
    refine ⟨(fun k => if k = 0 then c0 else if k = 1 then c1 else if k = 2 then c2 else if k = 3 then c3 else if k = 4 then c4 else if k = 5 then c5 else if k = 6 then c6 else c7, fun k => if k = 0 then i0 else if k = 1 then i1 else if k = 2 then i2 else if k = 3 then i3 else if k = 4 then i4 else if k = 5 then i5 else if k = 6 then i6 else i7), ?_⟩
    intro k q hq
    match k, hq with
    | 0, hq => cases hq; exact hn0
    | 1, hq => cases hq; exact hn1
    | 2, hq => cases hq; exact hn2
    | 3, hq => cases hq; exact hn3
    | 4, hq => cases hq; exact hn4
    | 5, hq => cases hq; exact hn5
    | 6, hq => cases hq; exact hn6
    | 7, hq => cases hq; exact hn7
    | k + 8, hq => simp [vwCl] at hq
  obtain ⟨cI, kI, pI, i1, i2, i3⟩ := Cond.arrayClass_spec (hts _ w_ac_int)
  obtain ⟨pO, cO, kO, o1, -, o2, o3, o4⟩ := Cond.arrayOver_spec hov
  refine ⟨D, (cI, cI, cO), c7, ⟨hKc, ?_⟩, hn7.2.1⟩
  intro k q hq
  match k, hq with
  | 0, hq => cases hq; exact ⟨fun n z => ⟨(fun k h => by cases h), kI, i2, pI, i3⟩, i1⟩
  | 1, hq => cases hq; exact ⟨fun n z => ⟨(fun k h => by cases h), kI, i2, pI, i3⟩, i1⟩
  | 2, hq => cases hq; exact ⟨fun n z => ⟨(fun k h => by cases h), kO, o2, pO, o3⟩, kO, pO, o2, o3, o1, o4⟩
  | k + 3, hq => simp [zT] at hq
theorem lw_order {A : Nat → Prop} {D : va_G} {cl : List vw_C} {H : Heap} {wCo wCp wEo wEp wH wKo wKp wMo wMp wTo wTp wXo wXp wk0o wk0p wk1o wk1p wk2o wk2p wk3o wk3p : va_W} (hP : va_P D cl (((([] : va_W) ++ (wCo ++ (wMo ++ ((wKo ++ (wk0o ++ (wk1o ++ (wk2o ++ wk3o)))) ++ (wXo ++ (wTo ++ wEo)))))) ++ (wCp ++ (wMp ++ ((wKp ++ (wk0p ++ (wk1p ++ (wk2p ++ wk3p)))) ++ (wXp ++ (wTp ++ wEp)))))) ++ wH) H) (hD : va_D A (((([] : va_W) ++ (wCo ++ (wMo ++ ((wKo ++ (wk0o ++ (wk1o ++ (wk2o ++ wk3o)))) ++ (wXo ++ (wTo ++ wEo)))))) ++ (wCp ++ (wMp ++ ((wKp ++ (wk0p ++ (wk1p ++ (wk2p ++ wk3p)))) ++ (wXp ++ (wTp ++ wEp)))))) ++ wH)) : va_P D cl (((wCp ++ wMp) ++ wKp ++ wk0p ++ wk1p ++ wk2p ++ wk3p) ++ (((wCo ++ wMo) ++ wKo ++ wk0o ++ wk1o ++ wk2o ++ wk3o) ++ wTo ++ wTp ++ wH ++ (wXo ++ wEo ++ wXp ++ wEp))) H ∧ va_D A (((wCp ++ wMp) ++ wKp ++ wk0p ++ wk1p ++ wk2p ++ wk3p) ++ (((wCo ++ wMo) ++ wKo ++ wk0o ++ wk1o ++ wk2o ++ wk3o) ++ wTo ++ wTp ++ wH ++ (wXo ++ wEo ++ wXp ++ wEp))) := by
  refine z_perm (fun q h => ?_) (fun x => ?_) hP hD
  · simp only [List.mem_append, List.nil_append] at h ⊢; simp only [or_assoc] at h ⊢; rcases h with h | h | h | h | h | h | h | h | h | h | h | h | h | h | h | h | h | h | h | h | h <;> simp only [h, true_or, or_true]
  · simp only [List.map_append, List.count_append, List.nil_append]; omega
theorem zq_w1 {A : Nat → Prop} {D : va_G} {cl : List vw_C} {H : Heap} {wDo wDp wH wKo wKp wR wTo wTp wk0o wk0p wk1o wk1p wk2o wk2p wk3o wk3p : va_W} (hP : va_P D cl ((wDp ++ wKp ++ wk0p ++ wk1p ++ wk2p ++ wk3p) ++ ((wDo ++ wKo ++ wk0o ++ wk1o ++ wk2o ++ wk3o) ++ wTo ++ wTp ++ wH ++ wR)) H) (hD : va_D A ((wDp ++ wKp ++ wk0p ++ wk1p ++ wk2p ++ wk3p) ++ ((wDo ++ wKo ++ wk0o ++ wk1o ++ wk2o ++ wk3o) ++ wTo ++ wTp ++ wH ++ wR))) : va_P D cl ((wDo ++ wKo ++ wk0o ++ wk1o ++ wk2o ++ wk3o) ++ (wDp ++ wKp ++ wk0p ++ wk1p ++ wk2p ++ wk3p) ++ wTo ++ wTp ++ wH ++ wR) H ∧ va_D A ((wDo ++ wKo ++ wk0o ++ wk1o ++ wk2o ++ wk3o) ++ (wDp ++ wKp ++ wk0p ++ wk1p ++ wk2p ++ wk3p) ++ wTo ++ wTp ++ wH ++ wR) := by
  refine z_perm (fun q h => ?_) (fun x => ?_) hP hD
  · simp only [List.mem_append] at h ⊢; simp only [or_assoc] at h ⊢; rcases h with h | h | h | h | h | h | h | h | h | h | h | h | h | h | h | h <;> simp only [h, true_or, or_true]
  · simp only [List.map_append, List.count_append]; omega

theorem lw_had : ∀ k, 9 ≤ k → k < 16 → (fun _ => 0 : Nat → Int32) k ≤ zS0 k := fun k _ b => by
  have h : ∀ k : Nat, k < 16 → (0 : Int32) ≤ zS0 k := by decide +kernel
  exact h k b
theorem lw_hs0 : hsR (fun _ => 0) 0 0 := ⟨nI_0.symm, by omega, nI_0.symm, by omega⟩
theorem lw_dR {rb : Nat} (h : rb < 8) : dR rb (30 * ((0 : Nat) : Int)) zS0 zF0 (upd (upd zS0 1 (nI rb)) 2 0) zF0 := ⟨inv_w inv_0 (by omega), inv_w (i_turn inv_0 h) (by omega), rot_0s h⟩
/-! THE CLAIM OUT OF ONE WALK OF THE LAW'S BODY. Your part is whole_start (and what it stands on); all else here is the same for every law, but numbers. -/
def R_law : String := "CamDrumLaw"
def lw_P (b : Addr) (xs : List Int32) (args : Array Value) (s : State) : Prop := args = #[.ref b] ∧ s.IntsAt b xs ∧ xs.length ≤ 260 ∧ (Jvm.Cond.and given_1 narrow_1).before args s = true
/-- what a walk over the start with the record d0 says of its end, said of the start itself -/
theorem lw_closed {s t : State} {o : Outcome} {d0 : Drawn} {L : List Loc} {k n : Nat} (hd0 : s.drawn.sameBut d0 lw_cs) (hv : ∃ v, o = .returned v) (hW : (s.setDrawn d0).WarmedH t.vm) (hs : (s.setDrawn d0).sameButNew ({ t with vm := s.vm } : State) L k n) : State.butDraws s t lw_cs (fun t1 => Framed s o t1 L k n) := by
  have h2 : t.drawn = d0 := congrArg State.drawn hs.1
  refine ⟨⟨hv, hW, State.sameButNew.setDrawn hs s.drawn⟩, ?_, by decide⟩
  rw [h2]
  exact hd0
def lw_Q (_ : Array Value) (s : State) (o : Outcome) (t : State) : Prop := o = .returned (some (.int 1)) ∧ State.butDraws s t lw_cs (fun t1 => Framed s o t1 [] 600104 7301314)
def lw_Z (below : List Frame) (a : Array Value) (s : State) : State → Prop := fun t => ∃ o, t.status = .running ∧ Ended t below o ∧ lw_Q a s o t
/-- the law's own end, with 1 on the stack, nothing written that was there before, its room as the claim has it; d0: the record of draws at this point (at the entry s.drawn: begin with 'refine W.base ?_' and 'have hd0 := Drawn.sameBut.refl s.drawn lw_cs') -/
theorem lw_ret {p : Program} {l : Launch} {e : Env} {s : State} {m : MethodId} {below : List Frame} {meth : Method} {c : Code} {b : Nat} {d0 : Drawn} (hd0 : s.drawn.sameBut d0 lw_cs) (hx : p.tables.exec = Jvm.exec) (hb : c.code = code) (hr : meth.sig.returnType = ret) (hlocks : meth.locks = false) {pc : Nat} {H : Heap} {ls : Array Slot} (hdg : decode code pc = .ok (.ireturn, 1)) : W p l e room_1 (s.setDrawn d0) m #[Value.ref b] below meth c H [] 600104 7301314 (lw_Z below #[Value.ref b] s) (F0 m pc ls [.int 1]) := by
  intro T hT X
  obtain ⟨fs, hret, hrun, hended, hW, hframe⟩ := X.leave (v := some (.int 1)) (hlocks := hlocks) (fun h => by rw [hr] at h; cases h)
  have hmeth' : T.vm.method? m = some meth := X.method'
  refine ⟨T.setFrames fs, ?_, .returned (some (.int 1)), hrun, hended, rfl, lw_closed hd0 ⟨_, rfl⟩ hW hframe⟩
  jvm_step X.here [X.here.top, hx, hb, hdg, hmeth', hr, ret, narrow_b1]
  (try refine ⟨rfl, ?_⟩); (try refine ⟨rfl, ?_⟩)
  first | (intro acts; rw [hret _ acts rfl rfl rfl]) | rw [hret _ _ rfl rfl rfl]
  exact Steps.refl _
/-- what holds at the law's entry: the machine, the code, the tables' words (any of lw_tbl by 'hts w (by decide +kernel)'), the script of L ints xs at the cell b, what the Statement gives of the start (any of its parts by flat_of_before) -/
def lw_At (p : Program) (s : State) (m : MethodId) (meth : Method) (c : Code) (b L : Nat) (xs : Nat → Int32) : Prop :=
  p.tables.exec = Jvm.exec ∧ c.code = code ∧ meth.sig.returnType = ret ∧ c.maxLocals = 10 ∧ s.vm.findClass R_law = some m.cls ∧ (∀ w ∈ lw_tbl, w.before #[Value.ref b] s = true) ∧ va_X b L xs s s.heap ∧ b < s.heap.size ∧ meth.locks = false ∧ (Jvm.Cond.and given_1 narrow_1).before #[Value.ref b] s = true
-- ===== YOUR PART BEGINS =====
set_option maxHeartbeats 4000000 in
set_option maxRecDepth 100000 in
/-- YOUR PART: from the entry, for every script of at most 260 ints, the law comes to its end with true ('hflags': the launch's flags, for a law that throws: no stack traces) -/
theorem whole_start {p : Program} {e : Env} {s : State} {m : MethodId} {below : List Frame} {meth : Method} {c : Code} (l : Launch) (hflags : l.flags = flags0) {b L : Nat} {xs : Nat → Int32} (hL : L ≤ 260) (C0 : lw_At p s m meth c b L xs) : W p l e room_1 s m #[Value.ref b] below meth c s.heap [] 0 0 (lw_Z below #[Value.ref b] s) (entryFrame m ([Value.ref b] : List Value).toArray 10) := by
  obtain ⟨hx, hb0, hr, hml, hown, hts0, hX, hbl, hlocks, hgv⟩ := id C0
  have hb : c.code = cL_law := hb0
  have hts : ∀ w ∈ wsG, w.before #[Value.ref b] s = true := fun w hw => hts0 w (wsG_in w hw)
  obtain ⟨D, cs, c7, hK, h7⟩ := lw_zK hts (hts0 _ lw_zOver)
  have hE := lw_zE hts0 hgv h7
  have hA : ∀ q : Nat, s.heap.size ≤ q → (fun q : Nat => s.heap.size ≤ q) q := fun _ h => h
  have hbA : ¬ (fun q : Nat => s.heap.size ≤ q) b := Nat.not_le.mpr hbl
  have hS : va_S (fun q : Nat => s.heap.size ≤ q) s.heap s.heap [] := va_S.rf
  have hP : va_P D vwCl ([] : va_W) s.heap := fun k q h => by simp at h
  have hD : va_D (fun q : Nat => s.heap.size ≤ q) ([] : va_W) := ⟨fun i j p q h => by simp at h, fun k q h => by simp at h⟩
  have hl := lv_entry ([.ref b]) (n := 10) (Nat.le_of_ble_eq_true rfl)
  rw [lg_entry_eq]
  generalize (lg_sl ([.ref b]) ++ List.replicate (10 - (lg_sl ([.ref b])).length) Slot.unset).toArray = ls at hl ⊢
  have hl : lv_has ls 10 [(0, .ref b)] := hl
  refine va_new (ws := ([] : va_W)) (ci := 7) (fs := [.null, .null, .null, .null, .null]) (C := RX7) (T := TX7) (N := 5) hx hb hts wsI_X7 tyX7 tyX7_ok hown (hts _ w_cl_L_16) (hts _ w_is_X7) (hts _ w_in_X7) hK hP hD hS hA rfl (fun j hj => by rcases (show j = 0 ∨ j = 1 ∨ j = 2 ∨ j = 3 ∨ j = 4 by omega) with rfl|rfl|rfl|rfl|rfl <;> rfl) (by show _ ≤ 600104; omega) (by show _ ≤ 7301314; omega) dL_law_0 (fun q7 H hP hD hS => ?_)
  refine lv_dup hx hb dL_law_3 rfl ?_
  refine z_callI ⟨hx, hb, hml, hown, hts⟩ zY_X7_init w_im_yX7_init rfl w_ml_L_71 (n_X7_init l D cs q7) hE hK hA hP hD hS hl.1 (Nat.le_of_ble_eq_true rfl) ⟨Nat.le_of_ble_eq_true rfl, Nat.le_of_ble_eq_true rfl⟩ ⟨by show _ ≤ 600104; omega, by show _ ≤ 7301314; omega⟩ dL_law_4 (fun wo hw H locs hP hD hS => ?_)
  obtain ⟨ad, kd, rfl, rfl⟩ := hw
  refine lv_astore_n (lv' := [(1, .ref (ad 3 0)), (0, .ref b)]) hx hb dL_law_7 rfl hl (by decide) rfl (fun ls hl => ?_)
  refine va_new (ws := _) (ci := 7) (fs := [.null, .null, .null, .null, .null]) (C := RX7) (T := TX7) (N := 5) hx hb hts wsI_X7 tyX7 tyX7_ok hown (hts _ w_cl_L_16) (hts _ w_is_X7) (hts _ w_in_X7) hK hP hD hS hA rfl (fun j hj => by rcases (show j = 0 ∨ j = 1 ∨ j = 2 ∨ j = 3 ∨ j = 4 by omega) with rfl|rfl|rfl|rfl|rfl <;> rfl) (by show _ ≤ 600104; omega) (by show _ ≤ 7301314; omega) dL_law_8 (fun q8 H hP hD hS => ?_)
  refine lv_dup hx hb dL_law_11 rfl ?_
  refine z_callI ⟨hx, hb, hml, hown, hts⟩ zY_X7_init w_im_yX7_init rfl w_ml_L_71 (n_X7_init l D cs q8) hE hK hA hP hD hS hl.1 (Nat.le_of_ble_eq_true rfl) ⟨Nat.le_of_ble_eq_true rfl, Nat.le_of_ble_eq_true rfl⟩ ⟨by show _ ≤ 600104; omega, by show _ ≤ 7301314; omega⟩ dL_law_12 (fun wo hw H locs hP hD hS => ?_)
  obtain ⟨bd, ld, rfl, rfl⟩ := hw
  refine lv_astore_n (lv' := [(2, .ref (bd 3 0)), (1, .ref (ad 3 0)), (0, .ref b)]) hx hb dL_law_15 rfl hl (by decide) rfl (fun ls hl => ?_)
  refine lv_iconst (v := 1) hx hb dL_law_16 (by decide) ?_
  refine lv_aload_n hx hb dL_law_17 rfl (lv_at hl 2 rfl) ?_
  refine lv_iconst (v := 0) hx hb dL_law_18 (by decide) ?_
  refine z_top (y := nI 0) nI_0.symm ?_
  refine z_cell (k := 0) ⟨hx, hb, hml, hown, hts⟩ hL (by omega) hX hbl hbA hP hD hS hl.1 (Nat.le_of_ble_eq_true rfl) ⟨Nat.le_of_ble_eq_true rfl, Nat.le_of_ble_eq_true rfl⟩ ⟨by show _ ≤ 600104; omega, by show _ ≤ 7301314; omega⟩ dL_law_19 (fun H locs hP hD hS => ?_)
  refine lv_bipush (v := 7) hx hb dL_law_22 (by decide) ?_
  refine z_callS ⟨hx, hb, hml, hown, hts⟩ zY_L_up w_st_yL_up w_ml_L_9 [.int (scV xs L 0), .int 7] [.int 1] (c_L_up l D cs (scV xs L 0) 7 (by omega) (by omega)) hE hK hA hP hD hS [] rfl rfl rfl z_ins_nil rfl hl.1 (Nat.le_of_ble_eq_true rfl) ⟨Nat.le_of_ble_eq_true rfl, Nat.le_of_ble_eq_true rfl⟩ ⟨by show _ ≤ 600104; omega, by show _ ≤ 7301314; omega⟩ dL_law_24 (fun H locs hP hD hS => ?_)
  obtain ⟨rb, hrb, erb⟩ : ∃ r : Nat, (1 ≤ r ∧ r < 8) ∧ 1 + upv (scV xs L 0) % 7 = r := ⟨_, ⟨by omega, by have := Nat.mod_lt (upv (scV xs L 0)) (show 0 < 7 by omega); omega⟩, rfl⟩
  refine lv_iadd hx hb dL_law_27 ?_
  refine z_top (y := nI rb) (by rw [← erb]; exact nI_add 1 _) ?_
  refine lv_istore_n (lv' := [(3, .int (nI rb)), (2, .ref (bd 3 0)), (1, .ref (ad 3 0)), (0, .ref b)]) hx hb dL_law_28 rfl hl (by decide) rfl (fun ls hl => ?_)
  refine lv_bipush (v := 16) hx hb dL_law_29 (by decide) ?_
  refine z_newa (N := 16) hx hb hts hK hP hD hS hA (by decide) (by decide) (by decide) (by show _ ≤ 600104; omega) (by show _ ≤ 7301314; omega) dL_law_31 (fun ha H hP hD hS => ?_)
  refine lv_astore (lv' := [(4, .ref ha), (3, .int (nI rb)), (2, .ref (bd 3 0)), (1, .ref (ad 3 0)), (0, .ref b)]) hx hb dL_law_33 hl (by decide) rfl (fun ls hl => ?_)
  obtain ⟨hP, hD⟩ := lw_order hP hD
  refine lv_aload_n hx hb dL_law_35 rfl (lv_at hl 2 rfl) ?_
  refine lv_iload_n hx hb dL_law_36 rfl (lv_at hl 1 rfl) ?_
  refine z_lawV ⟨hx, hb, hml, hown, hts⟩ zY_X7_turn w_im_yX7_turn w_se_yX7_turn w_ml_L_42 [.int (nI rb)] [] (c_X7_turn_ok l D cs bd zS0 zF0 ld (fun _ => 0) (fun _ => zS0) (fun _ => zF0) 0 0 (nI rb) lw_hs0.1 lw_hs0.2.1 lw_hs0.2.2.1 lw_hs0.2.2.2 (g_st (f_0 inv_0) hrb.2)) hE hK hA hP hD hS (z_la (z_la (z_la (z_la (z_la (z_la (z_lc _) (z_lm _ _ _ _ _ _)) (z_lh _ _ _ _ _)) (z_lm _ _ _ _ _ _)) (z_lm _ _ _ _ _ _)) (z_lm _ _ _ _ _ _)) (z_lm _ _ _ _ _ _)) 7 rfl rfl rfl rfl hl.1 (Nat.le_of_ble_eq_true rfl) ⟨Nat.le_of_ble_eq_true rfl, Nat.le_of_ble_eq_true rfl⟩ ⟨by show _ ≤ 600104; omega, by show _ ≤ 7301314; omega⟩ dL_law_37 (fun H locs hP hD hS => ?_)
  refine z_top (y := 0) (by decide +kernel) ?_
  refine lv_if_ne (tgt := 47) hx hb dL_law_40 (by decide) (fun c1 => absurd rfl c1) (fun _ => ?_)
  refine lv_iconst (v := 1) hx hb dL_law_43 (by decide) ?_
  refine lv_goto (tgt := 48) hx hb dL_law_44 (by decide) ?_
  refine lv_istore (lv' := [(5, .int 1), (4, .ref ha), (3, .int (nI rb)), (2, .ref (bd 3 0)), (1, .ref (ad 3 0)), (0, .ref b)]) hx hb dL_law_48 hl (by decide) rfl (fun ls hl => ?_)
  refine lv_iconst (v := 1) hx hb dL_law_50 (by decide) ?_
  refine z_top (y := nI 1) rfl ?_
  refine lv_istore (lv' := [(6, .int (nI 1)), (5, .int 1), (4, .ref ha), (3, .int (nI rb)), (2, .ref (bd 3 0)), (1, .ref (ad 3 0)), (0, .ref b)]) hx hb dL_law_51 hl (by decide) rfl (fun ls hl => ?_)
  obtain ⟨hP, hD⟩ := zq_w1 hP hD
  exact law_go l hx hb hml hown hts hX hbl hbA hE hK hA (fun _ h => h) hL (by show _ ≤ 600104; omega) (by show _ ≤ 7301314; omega) hrb (fun H ls => W.base (lw_ret (d0 := s.drawn) (Drawn.sameBut.refl s.drawn lw_cs) hx hb0 hr hlocks dL_law_287)) zS0 zF0 (fun _ => 0) (fun _ => zS0) (fun _ => zF0) zS0 zF0 (upd (upd zS0 1 (nI rb)) 2 0) zF0 (upd (upd (fun _ => 0) 0 (nI (hNx 0))) 1 (nI (min (0 + 1) 4))) (kup (fun _ => zS0) (hNx 0) zS0) (kup (fun _ => zF0) (hNx 0) zF0) zS0 zF0 (fun _ => 0) 0 0 (hNx 0) (min (0 + 1) 4) (lw_dR hrb.2) lw_hs0 (hsR_s lw_hs0) lw_had hP hD hS (lv_sub hl [6, 5, 4, 3, 2, 1, 0] rfl)
-- ===== YOUR PART ENDS =====
set_option maxHeartbeats 4000000 in
theorem lw_walk (l : Launch) (hflags : l.flags = flags0) (b : Addr) (xs : List Int32) : MetFree l x (headSpec (Jvm.Cond.code x code maxLocals ret :: tables_1) room_1) (lw_P b xs) (fun _ _ _ _ _ => True) lw_Q := by
  refine MetFree.of_bodyS (code := code) (maxLocals := maxLocals) (ret := ret) (by decide) ?_ ?_
  · intro args s m h hn
    obtain ⟨meth, c, h1, h2, h3, h4, h5, h6, -, -⟩ := Cond.code_spec hn (atoms_spec (ws := Jvm.Cond.code x code maxLocals ret :: tables_1) h _ List.mem_cons_self)
    exact ⟨meth, c, h1, h2, h3, h4, h5, h6⟩
  · intro p e s m args below meth c s₁ B hml0 hP _
    obtain ⟨rfl, hx, hbd, hgv⟩ := hP
    obtain ⟨scr, harrAt, hlist, hof, hsmall⟩ := hx
    obtain ⟨hcb, hkn, -, -⟩ := State.arrayAt?_spec harrAt
    have hown : s.vm.findClass R_law = some m.cls := findClass_of_methodNamed B.named
    have hts0 : ∀ c ∈ (Jvm.Cond.code x code maxLocals ret :: tables_1), c.before #[Value.ref b] s = true := atoms_spec (ws := Jvm.Cond.code x code maxLocals ret :: tables_1) B.pre
    have hts : ∀ w ∈ lw_tbl, w.before #[Value.ref b] s = true := k2_hts_sels lw_privs (fun w hw => hts0 w (List.mem_cons_of_mem _ hw)) lw_privs_ok
    have hml : c.maxLocals = 10 := B.maxLocals_eq (hts0 _ List.mem_cons_self)
    have X₀ : Stand p l e room_1 s m #[Value.ref b] below meth c s₁ [] 0 0 := Stand.of_body B
    have hh0 : s₁.heap = s.heap := by rw [B.state]; rfl
    have hsz : scr.slots.size = xs.length := by rw [← Array.length_toList, hlist, List.length_map]
    have hval : ∀ j : Nat, j < xs.length → scr.slots[j]? = some (.int (xs.getD j 0)) := fun j hj => by
      rw [← Array.getElem?_toList, hlist]
      simp [hj]
    have hbl : b < s.heap.size := (Array.getElem?_eq_some_iff.mp hcb).1
    have hX : va_X b xs.length (fun j => xs.getD j 0) s s.heap := ⟨scr, hcb, hof, hkn, hsz, hval⟩
    have K : W p l e room_1 s m #[Value.ref b] below meth c s₁.heap [] 0 0 (lw_Z below #[Value.ref b] s) (entryFrame m ([Value.ref b] : List Value).toArray 10) := by
      rw [hh0]
      exact whole_start l hflags hbd ⟨B.exec, B.bytes, B.returns, hml, hown, hts, hX, hbl, B.notSynchronized, hgv⟩
    obtain ⟨t, a1, o, b1, b2, b3⟩ := K s₁ rfl X₀
    exact ⟨t, o, a1, b1, b2, b3⟩
theorem lw_pre_spec {args : Array Value} {s : State} (h : (Jvm.Cond.and given_1 narrow_1).before args s = true) (hr : rest_1_c.before args s = true) : ∃ (b : Addr) (xs : List Int32), lw_P b xs args s := by
  have hs := flat_of_before _ h
  have hq := flat_of_before _ hr
  have hc : (Cond.count 1).before args s = true := hs _ (by decide +kernel)
  have harr : (Cond.arrayOf (.arg 0) .int).before args s = true := hs _ (by decide +kernel)
  have hle : (Cond.le (.length (.arg 0)) (.int 260)).before args s = true := hs _ (by decide +kernel)
  have hlen : (Cond.isInt (.length (.arg 0))).before args s = true := hq _ (by decide +kernel)
  have hall : (Cond.all (.arg 0) (.isInt (.elem (.arg 0) (.index 0)))).before args s = true := hq _ (by decide +kernel)
  obtain ⟨b, xs, hb, hx⟩ := State.ints_of_pre rfl harr hlen hall
  have hsm : xs.length < 2 ^ 31 := hx.choose_spec.2.2.2
  have hev : (Term.length (.arg 0)).eval args s none [] s = some (.int xs.length.toInt32) := hx.length_eval hb
  have hv := Cond.le_ints hev (show (Term.int 260).eval args s none [] s = some (.int 260) from rfl)
  have hd : xs.length.toInt32 ≤ 260 := by
    simpa [Cond.before, Cond.holds, hv] using hle
  have hN : xs.length ≤ 260 := (Int32.ofNat_le_ofNat hsm (by decide)).mp (show Int32.ofNat xs.length ≤ Int32.ofNat 260 from hd)
  exact ⟨b, xs, Cond.one_arg hc (show args[0]? = some (.ref b) from hb), hx, hN, h⟩
theorem lw_comes (l : Launch) (hflags : l.flags = flags0) : Comes l x (Jvm.Cond.code x code maxLocals ret :: tables_1) room_1 (fun tb e args s => Calls_1 tb e args s ∧ rest_1 tb e args s ∧ Pre_1 tb e args s)
    (fun _ _ args s o t => lw_Q args s o t) := by
  intro p e ha hc hk s m args below hf hfit hheap happ hpre
  obtain ⟨b, xs, hP⟩ := lw_pre_spec hpre.2.2 hpre.2.1
  obtain ⟨k, o, h1, h2, h3, hQ⟩ := lw_walk l hflags b xs p e ha hc hk s m args below hf ((Spec.applies_iff_loose hf).mp happ).1 hP trivial
  exact ⟨k, o, h1, h2, h3, hQ⟩
theorem lw_frame {s t : State} {o : Outcome} {args : Array Value} (h : State.butDraws s t lw_cs (fun t1 => Framed s o t1 [] 600104 7301314)) :
    State.butDraws s t [Jvm.Choice.named "NaN.bits"] (fun t1 => Framed s o t1 (fieldLocs frame_1_writes args s ++ arrayLocs frame_1_arrays args s ++ staticLocs frame_1_statics s) 600104 7301314) := h
theorem lw_limb (L : Cond) (hL : ∀ (args : Array Value) (s t : State), L.after args s (.returned (some (.int 1))) t = true) :
    ArmFor flags0 classFile x code maxLocals ret World_1 tables_1 room_1 Calls_1 rest_1 Pre_1
      (fun tb e a s o t => postC L tb e a s o t ∧ State.butDraws s t [Jvm.Choice.named "NaN.bits"] (fun t1 => Framed s o t1 (fieldLocs frame_1_writes a s ++ arrayLocs frame_1_arrays a s ++ staticLocs frame_1_statics s) 600104 7301314)) := by
  intro l hflags _ _ p e ha hc hk s m args below hf hfit hheap happ hpre
  obtain ⟨k, o, h1, h2, h3, rfl, hF⟩ := lw_comes l hflags p e ha hc hk s m args below hf hfit hheap happ hpre
  exact ⟨k, _, h1, h2, h3, hL args s _, lw_frame hF⟩
theorem i_vc : Claimed_1_1 ∧ Claimed_1_2 := ⟨lw_limb limb_1_1 (fun args s t => by simp [limb_1_1, Cond.after, Cond.holds, Cond.value]), lw_limb limb_1_2 (fun args s t => Cond.after_iff.mpr (by
  first | (rw [show limb_1_2 = Cond.eq .result (.int 1) from rfl, Cond.eq_ints (x := 1) (y := 1) rfl rfl]; simp; done) | (simp [limb_1_2, Cond.value, Term.eval]; done)))⟩
