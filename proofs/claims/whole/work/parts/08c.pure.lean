section STEP
variable {x : Int32} {S : Nat → Int32} {F : Nat → Nat → Int32} {f : Nat → Int32} {N : Int}
/-- only the row's 159 numbers matter -/
theorem rlx_ext {g : Nat → Int32} (h : rlx x S F f) (e : ∀ j, j < 159 → g j = f j) : rlx x S F g := by
  refine ⟨fun i hi h9i => ?_, ?_, fun j hj => ?_, fun j t hj ht => ?_, fun j t hj hj8 ht => ?_, fun i hi => ?_, fun i hi => ?_⟩
  · rw [e _ (by omega)]; exact h.1 i hi h9i
  · rw [e _ (by omega)]; exact h.2.1
  · rw [e _ (by omega)]; exact rlx_t h j hj
  · rw [e _ (by omega)]; exact rlx_c h j t hj ht
  · rw [e _ (by omega)]; exact rlx_g h j t hj hj8 ht
  · rw [e _ (by omega)]; exact rlx_h h i hi
  · rw [e _ (by omega)]; exact rlx_k h i hi
theorem agr_e {p : zP} {g : Nat → Int32} (h : agr N p f) (e : ∀ j, j < 159 → g j = f j) : agr N p g := ⟨rlx_ext h.1 e, h.2⟩
/-- the saved states: the ring against the rows -/
def rng (p n : Nat) (KS : Nat → Nat → Int32) (KF : Nat → Nat → Nat → Int32) (g : Nat → Int32) : Prop :=
  ∀ i, i < n → agr 100000 (KS ((p + 4 - i) % 4), KF ((p + 4 - i) % 4)) (fun j => g (159 * (n - 1 - i) + j))
theorem hNx_e {p : Nat} (hp : p < 4) : hNx p = (p + 1) % 4 := by
  unfold hNx
  by_cases h : p + 1 < 4
  · rw [if_pos h]; omega
  · rw [if_neg h]; omega
theorem hPv_e {p : Nat} (hp : p < 4) : hPv p = (p + 3) % 4 := by
  unfold hPv
  by_cases h : p = 0
  · rw [if_pos h]; omega
  · rw [if_neg h]; omega
theorem kup_s {α : Type} (K : Nat → α) (p : Nat) (x : α) : kup K p x p = x := if_pos rfl
theorem kup_o {α : Type} (K : Nat → α) {p i : Nat} (x : α) (h : ¬ i = p) : kup K p x i = K i := if_neg h
theorem q_save {p n : Nat} {KS : Nat → Nat → Int32} {KF : Nat → Nat → Nat → Int32} {g : Nat → Int32} (hp : p < 4) (hn : n ≤ 4) (h : rng p n KS KF g) (hc : agr 100000 (S, F) f) :
    rng (hNx p) (min (n + 1) 4) (kup KS (hNx p) S) (kup KF (hNx p) F) (svF n g f) := by
  intro i hi
  rw [hNx_e hp]
  by_cases hi0 : i = 0
  · subst hi0
    rw [show ((p + 1) % 4 + 4 - 0) % 4 = (p + 1) % 4 by omega, kup_s, kup_s]
    refine agr_e hc (fun j hj => ?_)
    unfold svF
    by_cases h4 : n = 4
    · rw [if_pos h4]; unfold cpF
      rw [if_pos (by omega)]; exact congrArg _ (by omega)
    · rw [if_neg h4]; unfold cpF
      rw [if_pos (by omega)]; exact congrArg _ (by omega)
  · rw [kup_o _ _ (by omega), kup_o _ _ (by omega), show ((p + 1) % 4 + 4 - i) % 4 = (p + 4 - (i - 1)) % 4 by omega]
    refine agr_e (h (i - 1) (by omega)) (fun j hj => ?_)
    unfold svF
    by_cases h4 : n = 4
    · rw [if_pos h4]; unfold cpF
      rw [if_neg (by omega)]; unfold shF; rw [if_pos (by omega)]; exact congrArg _ (by omega)
    · rw [if_neg h4]; unfold cpF
      rw [if_neg (by omega)]; exact congrArg _ (by omega)
theorem q_undo {p n : Nat} {KS : Nat → Nat → Int32} {KF : Nat → Nat → Nat → Int32} {g : Nat → Int32} (hp : p < 4) (hn : n ≤ 4) (h0 : 0 < n) (h : rng p n KS KF g) :
    agr 100000 (KS p, KF p) (fun j => g (159 * (n - 1) + j)) ∧ rng (hPv p) (n - 1) KS KF g := by
  refine ⟨?_, fun i hi => ?_⟩
  · have := h 0 h0
    rw [show (p + 4 - 0) % 4 = p by omega] at this
    exact this
  · rw [hPv_e hp, show ((p + 3) % 4 + 4 - i) % 4 = (p + 4 - (i + 1)) % 4 by omega]
    refine agr_e (h (i + 1) (by omega)) (fun j hj => ?_)
    exact congrArg _ (by omega)
/-! what each call makes of the state -/
theorem q_k5 {c : Int32} (h : 0 ≤ c ∧ c ≤ 4) : ∃ k, k < 5 ∧ c = nI k ∧ nN c = k := by
  obtain ⟨k, hk, e⟩ := z_nat4 h
  exact ⟨k, hk, e, by rw [e]; exact nN_nI (by omega)⟩
theorem q_stp {st : Int32} (hS : ivS N S) (h : 0 ≤ st ∧ st ≤ S 0 - 1) : ∃ k, k < 16 ∧ st = nI k ∧ nN st = k ∧ (st.toInt < (S 0).toInt) := by
  have h0 := hS.1
  have a := p_le.mp h.1
  have b := p_le.mp h.2
  rw [p_0] at a
  have e1 : (S 0 - 1).toInt = (S 0).toInt - 1 := by rw [p_sub (by rw [p_1]; omega), p_1]
  exact ⟨st.toInt.toNat, by omega, (p_nI st a).symm, rfl, by omega⟩
theorem ivF_0 (h : ivF F) {g : Nat → Int32} (hg : trB g) : ivF (zU F 0 g) := by
  refine ⟨fun c hc => ?_, fun c hc => ?_⟩
  · have h1 := h.1 c hc
    unfold ivC at h1 ⊢; rw [zU_s, zU_o _ _ (by omega), zU_o _ _ (by omega), zU_o _ _ (by omega), zU_o _ _ (by omega)]
    exact ⟨hg c hc, h1.2⟩
  · unfold ivG; rw [zU_o _ _ (by omega), zU_o _ _ (by omega), zU_o _ _ (by omega)]; exact h.2 c hc
theorem ivF_t (h : ivF F) : trB (F 0) := fun c hc => (h.1 c hc).1
theorem s_setCam (h : agr N (S, F) f) {tr st th : Int32} (h1 : 0 ≤ tr ∧ tr ≤ 4) (h2 : 0 ≤ st ∧ st ≤ S 0 - 1) :
    agr N (S, zU F 0 (upd (F 0) (nN tr) (camPut (F 0 (nN tr)) st th))) (upd f (16 + nN tr) (rCam (f (16 + nN tr)) st th)) ∧
    rCamsN (upd f (16 + nN tr) (rCam (f (16 + nN tr)) st th)) (nN tr) 16 = jbc (camPut (F 0 (nN tr)) st th) := by
  obtain ⟨c, hc, -, ec⟩ := q_k5 h1
  obtain ⟨k, hk, ek, -, -⟩ := q_stp (S := S) h.2.1 h2
  rw [ec, q_put, ek, rlx_t h.1 c hc]
  have hv := put_v (h.2.2.1 c hc).1 k hk th
  exact ⟨⟨rlx_ut h.1 c hc _, h.2.1, ivF_0 h.2.2 (trB_u (ivF_t h.2.2) c hv)⟩, q_cams (upd_s _ _ _) hv⟩
theorem s_setPawl (h : agr N (S, F) f) {dw le : Int32} (h1 : 1 ≤ dw ∧ dw ≤ 20) : agr N (upd (upd S 3 dw) 4 le, F) (upd (upd f 3 dw) 4 le) ∧ f 3 = S 3 := by
  refine ⟨⟨?_, ?_, h.2.2⟩, agr_s h (by omega)⟩
  · show rlx (upd (upd S 3 dw) 4 le 9) _ _ _
    rw [upd_o _ _ (by omega), upd_o _ _ (by omega)]
    exact rlx_us (rlx_us h.1 3 (by omega) (by omega) dw) 4 (by omega) (by omega) le
  · have h2 : ivS N S := h.2.1
    have a := p_le.mp h1.1
    have b := p_le.mp h1.2
    rw [p_1] at a
    rw [show (20 : Int32).toInt = 20 from rfl] at b
    show ivS N (upd (upd S 3 dw) 4 le)
    unfold ivS at h2 ⊢; simp (disch := omega) only [upd_o, upd_s]; omega
theorem ivF_2 (h : ivF F) (c : Nat) {v : Int32} (hv : 1 ≤ v.toInt ∧ v.toInt ≤ 9) : ivF (zU F 2 (upd (F 2) c v)) := by
  refine ⟨fun d hd => ?_, fun d hd => ?_⟩
  · have h1 := h.1 d hd
    unfold ivC at h1 ⊢; rw [zU_o _ _ (by omega), zU_o _ _ (by omega), zU_s, zU_o _ _ (by omega), zU_o _ _ (by omega)]
    refine ⟨h1.1, h1.2.1, ?_, h1.2.2.2⟩
    by_cases e : d = c
    · rw [e, upd_s]; exact hv
    · rw [upd_o _ _ e]; exact h1.2.2.1
  · unfold ivG; rw [zU_o _ _ (by omega), zU_o _ _ (by omega), zU_o _ _ (by omega)]; exact h.2 d hd
theorem ivF_3 (h : ivF F) (c : Nat) {v : Int32} (hv : 1 ≤ v.toInt ∧ v.toInt ≤ 50) : ivF (zU F 3 (upd (F 3) c v)) := by
  refine ⟨fun d hd => ?_, fun d hd => ?_⟩
  · have h1 := h.1 d hd
    unfold ivC at h1 ⊢; rw [zU_o _ _ (by omega), zU_o _ _ (by omega), zU_o _ _ (by omega), zU_s, zU_o _ _ (by omega)]
    refine ⟨h1.1, h1.2.1, h1.2.2.1, ?_, h1.2.2.2.2⟩
    by_cases e : d = c
    · rw [e, upd_s]; exact hv
    · rw [upd_o _ _ e]; exact h1.2.2.2.1
  · unfold ivG; rw [zU_o _ _ (by omega), zU_o _ _ (by omega), zU_o _ _ (by omega)]; exact h.2 d hd
theorem ivF_4 (h : ivF F) (c : Nat) {v : Int32} (hv : 0 ≤ v.toInt ∧ v.toInt ≤ 20) : ivF (zU F 4 (upd (F 4) c v)) := by
  refine ⟨fun d hd => ?_, fun d hd => ?_⟩
  · have h1 := h.1 d hd
    unfold ivC at h1 ⊢; rw [zU_o _ _ (by omega), zU_o _ _ (by omega), zU_o _ _ (by omega), zU_o _ _ (by omega), zU_s]
    refine ⟨h1.1, h1.2.1, h1.2.2.1, h1.2.2.2.1, ?_⟩
    by_cases e : d = c
    · rw [e, upd_s]; exact hv
    · rw [upd_o _ _ e]; exact h1.2.2.2.2
  · unfold ivG; rw [zU_o _ _ (by omega), zU_o _ _ (by omega), zU_o _ _ (by omega)]; exact h.2 d hd
theorem q_rg {v a b : Int32} {m M : Int} (h : a ≤ v ∧ v ≤ b) (ea : a.toInt = m) (eb : b.toInt = M) : m ≤ v.toInt ∧ v.toInt ≤ M := by
  have h1 := p_le.mp h.1; have h2 := p_le.mp h.2; omega
theorem s_setCylinder (h : agr N (S, F) f) {cy sz sp lk : Int32} (h1 : 0 ≤ cy ∧ cy ≤ 4) (h2 : 1 ≤ sz ∧ sz ≤ 9) (h3 : 1 ≤ sp ∧ sp ≤ 50) (h4 : 0 ≤ lk ∧ lk ≤ 20) :
    agr N (S, zU (zU (zU F 2 (upd (F 2) (nN cy) sz)) 3 (upd (F 3) (nN cy) sp)) 4 (upd (F 4) (nN cy) lk)) (upd (upd (upd f (21 + 6 * nN cy + 1) sz) (21 + 6 * nN cy + 2) sp) (21 + 6 * nN cy + 3) lk) ∧
    upd (upd (upd f (21 + 6 * nN cy + 1) sz) (21 + 6 * nN cy + 2) sp) (21 + 6 * nN cy + 3) lk (21 + 6 * nN cy) = F 1 (nN cy) := by
  obtain ⟨c, hc, -, ec⟩ := q_k5 h1
  rw [ec]
  have r1 := rlx_uc1 h.1 hc sz
  have r2 := rlx_uc2 r1 hc sp
  have r3 := rlx_uc3 r2 hc lk
  refine ⟨⟨r3, h.2.1, ?_⟩, ?_⟩
  · exact ivF_4 (ivF_3 (ivF_2 h.2.2 c (q_rg h2 rfl rfl)) c (v := sp) (q_rg h3 rfl rfl)) c (v := lk) (q_rg h4 rfl rfl)
  · rw [upd_o _ _ (by omega), upd_o _ _ (by omega), upd_o _ _ (by omega)]; exact rlx_c0 h.1 hc
theorem s_setAir (h : agr N (S, F) f) {ca co : Int32} (h1 : 100 ≤ ca ∧ ca ≤ 9999) (h2 : 0 ≤ co ∧ co ≤ 500) :
    agr N (airOff (upd (upd S 6 ca) 7 co), F) (rOff (upd (upd f 6 ca) 7 co)) ∧ rOff (upd (upd f 6 ca) 7 co) 5 = airOff (upd (upd S 6 ca) 7 co) 5 := by
  have r := q_off (rlx_us (rlx_us h.1 6 (by omega) (by omega) ca) 7 (by omega) (by omega) co)
  have e9 : airOff (upd (upd S 6 ca) 7 co) 9 = S 9 := by
    unfold airOff; simp (disch := omega) only [upd_o]
  have ra : rl (airOff (upd (upd S 6 ca) 7 co)) F (rOff (upd (upd f 6 ca) 7 co)) := by unfold rl; rw [e9]; exact r
  refine ⟨⟨ra, ?_, h.2.2⟩, rl_s ra 5 (by omega)⟩
  have hS : ivS N S := h.2.1
  have g1 := q_rg (m := 100) (M := 9999) h1 rfl rfl
  have g2 := q_rg (m := 0) (M := 500) h2 rfl rfl
  have hS' := hS
  obtain ⟨-, -, -, -, k5, -⟩ := hS'
  have e56 : (S 5 - ca).toInt = (S 5).toInt - ca.toInt := p_sub (by omega)
  have eo : (aoff (S 5) ca).toInt = max ((S 5).toInt - ca.toInt) 0 := by unfold aoff; rw [p_max, e56, p_0]
  have e5o : (S 5 - aoff (S 5) ca).toInt = (S 5).toInt - max ((S 5).toInt - ca.toInt) 0 := by rw [p_sub (by omega), eo]
  show ivS N (airOff (upd (upd S 6 ca) 7 co))
  unfold airOff
  unfold ivS at hS ⊢
  simp (disch := omega) only [upd_o, upd_s]
  rw [e5o]
  omega
theorem s_turn (h : agr N (S, F) f) {st : Int32} (h2 : 0 ≤ st ∧ st ≤ S 0 - 1) : agr N (upd (upd S 1 st) 2 0, F) (upd (upd f 1 st) 2 0) ∧ f 1 = S 1 := by
  obtain ⟨k, hk, ek, -, hlt⟩ := q_stp (S := S) h.2.1 h2
  refine ⟨⟨?_, ?_, h.2.2⟩, agr_s h (by omega)⟩
  · show rlx (upd (upd S 1 st) 2 0 9) _ _ _
    rw [upd_o _ _ (by omega), upd_o _ _ (by omega)]
    exact rlx_us (rlx_us h.1 1 (by omega) (by omega) st) 2 (by omega) (by omega) 0
  · have hS : ivS N S := h.2.1
    have a := p_le.mp h2.1
    rw [p_0] at a
    show ivS N (upd (upd S 1 st) 2 0)
    unfold ivS at hS ⊢; simp (disch := omega) only [upd_o, upd_s]; rw [p_0]; omega
/-- a new guard: the count and the slot behind -/
theorem s_addGuard (h : agr N (S, F) f) {g o bd : Int32} {gn : Nat} (h8 : S 8 = nI gn) (h1 : 0 ≤ g ∧ g ≤ 4) (h2 : 0 ≤ o ∧ o ≤ 4) (h3 : 1 ≤ bd ∧ bd ≤ 99) (h4 : gn < 4) :
    agr N (upd S 8 (S 8 + 1), zU (zU (zU F 7 (upd (F 7) (S 8).toNatClampNeg g)) 8 (upd (F 8) (S 8).toNatClampNeg o)) 9 (upd (F 9) (S 8).toNatClampNeg bd)) (upd (upd (upd (upd f (51 + 3 * gn) g) (51 + 3 * gn + 1) o) (51 + 3 * gn + 2) bd) 8 (nI (gn + 1))) := by
  have ek : (S 8).toNatClampNeg = gn := by rw [h8]; exact nI_clamp (by omega)
  have e1 : S 8 + 1 = nI (gn + 1) := by rw [h8]; exact nI_add gn 1
  rw [ek, e1]
  have hr : rlx (S 9) S F f := h.1
  have hS : ivS N S := h.2.1
  refine ⟨⟨fun i hi h9i => ?_, ?_, fun j hj => ?_, fun j t hj ht => ?_, fun j t hj hj8 ht => ?_, fun i hi => ?_, fun i hi => ?_⟩, ?_, fun c hc => ?_, fun d hd => ?_⟩
  · show _ = upd S 8 (nI (gn + 1)) i
    by_cases e : i = 8
    · rw [e, upd_s, upd_s]
    · rw [upd_o _ _ e, upd_o _ _ (by omega), upd_o _ _ (by omega), upd_o _ _ (by omega), upd_o _ _ e]; exact hr.1 i hi h9i
  · show _ = upd S 8 (nI (gn + 1)) 9
    rw [upd_o _ _ (by omega), upd_o _ _ (by omega), upd_o _ _ (by omega), upd_o _ _ (by omega), upd_o _ _ (by omega)]; exact hr.2.1
  · rw [upd_o _ _ (by omega), upd_o _ _ (by omega), upd_o _ _ (by omega), upd_o _ _ (by omega)]; exact rlx_t hr j hj
  · rw [upd_o _ _ (by omega), upd_o _ _ (by omega), upd_o _ _ (by omega), upd_o _ _ (by omega)]
    show _ = zU (zU (zU F 7 (upd (F 7) gn g)) 8 (upd (F 8) gn o)) 9 (upd (F 9) gn bd) (1 + t) j
    rw [zU_o _ _ (by omega), zU_o _ _ (by omega), zU_o _ _ (by omega)]; exact rlx_c hr j t hj ht
  · have hj8' : j < gn + 1 := by
      have : nN (nI (gn + 1)) = gn + 1 := nN_nI (by omega)
      rw [← this]; exact hj8
    rw [upd_o _ _ (by omega)]
    show _ = zU (zU (zU F 7 (upd (F 7) gn g)) 8 (upd (F 8) gn o)) 9 (upd (F 9) gn bd) (7 + t) j
    by_cases ej : j = gn
    · subst ej
      have ht3 : t = 0 ∨ t = 1 ∨ t = 2 := by omega
      rcases ht3 with rfl | rfl | rfl
      · rw [upd_o _ _ (by omega), upd_o _ _ (by omega), zU_o _ _ (by omega), zU_o _ _ (by omega), zU_s]; show upd _ _ _ _ = _; rw [upd_s, Nat.add_zero, upd_s]
      · rw [upd_o _ _ (by omega), upd_s, zU_o _ _ (by omega), zU_s, upd_s]
      · rw [upd_s, zU_s, upd_s]
    · rw [upd_o _ _ (by omega), upd_o _ _ (by omega), upd_o _ _ (by omega)]
      have hold := rlx_g hr j t hj (by rw [h8, nN_nI (by omega)]; omega) ht
      rw [hold]
      have ht3 : t = 0 ∨ t = 1 ∨ t = 2 := by omega
      rcases ht3 with rfl | rfl | rfl
      · rw [zU_o _ _ (by omega), zU_o _ _ (by omega), zU_s, upd_o _ _ ej]
      · rw [zU_o _ _ (by omega), zU_s, upd_o _ _ ej]
      · rw [zU_s, upd_o _ _ ej]
  · rw [upd_o _ _ (by omega), upd_o _ _ (by omega), upd_o _ _ (by omega), upd_o _ _ (by omega)]
    show _ = zU (zU (zU F 7 (upd (F 7) gn g)) 8 (upd (F 8) gn o)) 9 (upd (F 9) gn bd) 10 i
    rw [zU_o _ _ (by omega), zU_o _ _ (by omega), zU_o _ _ (by omega)]; exact rlx_h hr i hi
  · rw [upd_o _ _ (by omega), upd_o _ _ (by omega), upd_o _ _ (by omega), upd_o _ _ (by omega)]
    show _ = zU (zU (zU F 7 (upd (F 7) gn g)) 8 (upd (F 8) gn o)) 9 (upd (F 9) gn bd) 11 i
    rw [zU_o _ _ (by omega), zU_o _ _ (by omega), zU_o _ _ (by omega)]; exact rlx_k hr i hi
  · show ivS N (upd S 8 (nI (gn + 1)))
    unfold ivS at hS ⊢; simp (disch := omega) only [upd_o, upd_s]; rw [nI_toInt (by omega)]; omega
  · have h5 := h.2.2.1 c hc
    show ivC (zU _ 9 _) c
    unfold ivC at h5 ⊢; simp (disch := omega) only [zU_o]; exact h5
  · have h5 := h.2.2.2 d hd
    show ivG (zU _ 9 _) d
    unfold ivG at h5 ⊢
    rw [zU_o _ _ (by omega : ¬ 7 = 9), zU_o _ _ (by omega : ¬ 7 = 8), zU_s, zU_o _ _ (by omega : ¬ 8 = 9), zU_s, zU_s]
    by_cases e : d = gn
    · rw [e, upd_s, upd_s, upd_s]
      have a1 := q_rg (m := 0) (M := 4) h1 rfl rfl
      have a2 := q_rg (m := 0) (M := 4) h2 rfl rfl
      have a3 := q_rg (m := 1) (M := 99) h3 rfl rfl
      omega
    · rw [upd_o _ _ e, upd_o _ _ e, upd_o _ _ e]; exact h5
/-- the slots behind a removed guard -/
theorem toF_v : ∀ (k g : Nat) (F : Nat → Nat → Int32) (r : Nat), r = 7 ∨ r = 8 ∨ r = 9 → ∀ j, toF k g F r j = if g ≤ j ∧ j < g + k then F r (j + 1) else F r j
  | 0, g, F, r, hr, j => by rw [if_neg (by omega)]; rfl
  | k + 1, g, F, r, hr, j => by
    have ih := toF_v k (g + 1) (toSh F g) r hr j
    have sh : ∀ j, toSh F g r j = if j = g then F r (g + 1) else F r j := by
      intro j
      unfold toSh
      rcases hr with rfl | rfl | rfl
      · rw [zU_o _ _ (by omega), zU_o _ _ (by omega), zU_s]; rfl
      · rw [zU_o _ _ (by omega), zU_s]; rfl
      · rw [zU_s]; rfl
    show toF k (g + 1) (toSh F g) r j = _
    rw [ih, sh, sh]
    by_cases h1 : j = g
    · rw [if_neg (by omega), if_pos h1, if_pos (by omega), h1]
    · by_cases h2 : g + 1 ≤ j ∧ j < g + 1 + k
      · rw [if_pos h2, if_neg (by omega), if_pos (by omega)]
      · rw [if_neg h2, if_neg h1, if_neg (by omega)]
theorem s_removeGuard (h : agr N (S, F) f) {g : Int32} {gn : Nat} (h8 : S 8 = nI gn) (hg4 : gn ≤ 4) (hk : nN g < gn) :
    agr N (upd S 8 (nI (gn - 1)), zU (zU (zU F 7 (toF (gn - 1 - nN g) (nN g) F 7)) 8 (toF (gn - 1 - nN g) (nN g) F 8)) 9 (toF (gn - 1 - nN g) (nN g) F 9)) (cpF (51 + 3 * (gn - 1)) (dnF (upd f 8 (nI (gn - 1))) (51 + 3 * nN g) (51 + 3 * (gn - 1))) (fun _ => 0) 3) := by
  generalize nN g = k at *
  have hr : rlx (S 9) S F f := h.1
  have hS : ivS N S := h.2.1
  have tv := fun r hr j => toF_v (gn - 1 - k) k F r hr j
  have same : ∀ i, ¬ (51 + 3 * k ≤ i ∧ i < 51 + 3 * gn) → cpF (51 + 3 * (gn - 1)) (dnF (upd f 8 (nI (gn - 1))) (51 + 3 * k) (51 + 3 * (gn - 1))) (fun _ => 0) 3 i = upd f 8 (nI (gn - 1)) i := by
    intro i hi
    unfold cpF dnF
    rw [if_neg (by omega), if_neg (by omega)]
  refine ⟨⟨fun i hi h9i => ?_, ?_, fun j hj => ?_, fun j t hj ht => ?_, fun j t hj hj8 ht => ?_, fun i hi => ?_, fun i hi => ?_⟩, ?_, fun c hc => ?_, fun d hd => ?_⟩
  · rw [same i (by omega)]
    show _ = upd S 8 (nI (gn - 1)) i
    by_cases e : i = 8
    · rw [e, upd_s, upd_s]
    · rw [upd_o _ _ e, upd_o _ _ e]; exact hr.1 i hi h9i
  · rw [same 9 (by omega)]
    show _ = upd S 8 (nI (gn - 1)) 9
    rw [upd_o _ _ (by omega), upd_o _ _ (by omega)]; exact hr.2.1
  · rw [same _ (by omega), upd_o _ _ (by omega)]; exact rlx_t hr j hj
  · rw [same _ (by omega), upd_o _ _ (by omega)]
    show _ = zU (zU (zU F 7 (toF (gn - 1 - k) k F 7)) 8 (toF (gn - 1 - k) k F 8)) 9 (toF (gn - 1 - k) k F 9) (1 + t) j
    rw [zU_o _ _ (by omega), zU_o _ _ (by omega), zU_o _ _ (by omega)]; exact rlx_c hr j t hj ht
  · have hj8' : j < gn - 1 := by
      have : nN (nI (gn - 1)) = gn - 1 := nN_nI (by omega)
      rw [← this]; exact hj8
    have eR : zU (zU (zU F 7 (toF (gn - 1 - k) k F 7)) 8 (toF (gn - 1 - k) k F 8)) 9 (toF (gn - 1 - k) k F 9) (7 + t) j = toF (gn - 1 - k) k F (7 + t) j := by
      have ht3 : t = 0 ∨ t = 1 ∨ t = 2 := by omega
      rcases ht3 with rfl | rfl | rfl
      · rw [zU_o _ _ (by omega), zU_o _ _ (by omega), zU_s]
      · rw [zU_o _ _ (by omega), zU_s]
      · rw [zU_s]
    show _ = zU (zU (zU F 7 (toF (gn - 1 - k) k F 7)) 8 (toF (gn - 1 - k) k F 8)) 9 (toF (gn - 1 - k) k F 9) (7 + t) j
    rw [eR, tv (7 + t) (by omega) j]
    by_cases e : k ≤ j ∧ j < k + (gn - 1 - k)
    · rw [if_pos e]
      unfold cpF dnF
      rw [if_neg (by omega), if_pos (by omega), upd_o _ _ (by omega), show 51 + 3 * j + t + 3 = 51 + 3 * (j + 1) + t by omega]
      exact rlx_g hr (j + 1) t (by omega) (by rw [h8, nN_nI (by omega)]; omega) ht
    · rw [if_neg e, same _ (by omega), upd_o _ _ (by omega)]
      exact rlx_g hr j t hj (by rw [h8, nN_nI (by omega)]; omega) ht
  · rw [same _ (by omega), upd_o _ _ (by omega)]
    show _ = zU (zU (zU F 7 (toF (gn - 1 - k) k F 7)) 8 (toF (gn - 1 - k) k F 8)) 9 (toF (gn - 1 - k) k F 9) 10 i
    rw [zU_o _ _ (by omega), zU_o _ _ (by omega), zU_o _ _ (by omega)]; exact rlx_h hr i hi
  · rw [same _ (by omega), upd_o _ _ (by omega)]
    show _ = zU (zU (zU F 7 (toF (gn - 1 - k) k F 7)) 8 (toF (gn - 1 - k) k F 8)) 9 (toF (gn - 1 - k) k F 9) 11 i
    rw [zU_o _ _ (by omega), zU_o _ _ (by omega), zU_o _ _ (by omega)]; exact rlx_k hr i hi
  · show ivS N (upd S 8 (nI (gn - 1)))
    unfold ivS at hS ⊢; simp (disch := omega) only [upd_o, upd_s]; rw [nI_toInt (by omega)]; omega
  · have h5 := h.2.2.1 c hc
    show ivC (zU _ 9 _) c
    unfold ivC at h5 ⊢; simp (disch := omega) only [zU_o]; exact h5
  · have h5 := h.2.2.2
    show ivG (zU _ 9 _) d
    unfold ivG
    rw [zU_o _ _ (by omega : ¬ 7 = 9), zU_o _ _ (by omega : ¬ 7 = 8), zU_s, zU_o _ _ (by omega : ¬ 8 = 9), zU_s, zU_s, tv 7 (by omega) d, tv 8 (by omega) d, tv 9 (by omega) d]
    by_cases e : k ≤ d ∧ d < k + (gn - 1 - k)
    · rw [if_pos e, if_pos e, if_pos e]; exact h5 (d + 1) (by omega)
    · rw [if_neg e, if_neg e, if_neg e]; exact h5 d hd
/-- what the text told -/
theorem s_parse (h : agr N (S, F) f) {t : Nat → Int32} {m : Nat} (ht : trB t) (hm : 2 ≤ m ∧ m ≤ 16) :
    agr N (upd (upd (upd S 0 (nI m)) 1 0) 2 0, zU (zU (zU F 0 t) 10 (fun _ => -1)) 11 (fun _ => 0)) (rpsF f t m) := by
  have hr : rlx (S 9) S F f := h.1
  have hS : ivS N S := h.2.1
  have val : ∀ i, i < 159 → rpsF f t m i = if 143 ≤ i then 0 else if 63 ≤ i then -1 else if i = 2 then 0 else if i = 1 then 0 else if i = 0 then nI m else if 16 ≤ i ∧ i < 21 then t (i - 16) else f i := by
    intro i hi
    unfold rpsF emF cpF
    by_cases a1 : 143 ≤ i
    · rw [if_pos (by omega), if_pos a1]
    · rw [if_neg (by omega), if_neg a1]
      by_cases a2 : 63 ≤ i
      · rw [if_pos (by omega), if_pos a2]
      · rw [if_neg (by omega), if_neg a2]; rfl
  refine ⟨⟨fun i hi h9i => ?_, ?_, fun j hj => ?_, fun j u hj hu => ?_, fun j u hj hj8 hu => ?_, fun i hi => ?_, fun i hi => ?_⟩, ?_, fun c hc => ?_, fun d hd => ?_⟩
  · rw [val i (by omega), if_neg (by omega), if_neg (by omega)]
    show _ = upd (upd (upd S 0 (nI m)) 1 0) 2 0 i
    unfold upd
    by_cases e2 : i = 2
    · rw [if_pos e2, if_pos e2]
    · rw [if_neg e2, if_neg e2]
      by_cases e1 : i = 1
      · rw [if_pos e1, if_pos e1]
      · rw [if_neg e1, if_neg e1]
        by_cases e0 : i = 0
        · rw [if_pos e0, if_pos e0]
        · rw [if_neg e0, if_neg e0, if_neg (by omega)]; exact hr.1 i hi h9i
  · rw [val 9 (by omega), if_neg (by omega), if_neg (by omega), if_neg (by omega), if_neg (by omega), if_neg (by omega), if_neg (by omega)]
    show f 9 = upd (upd (upd S 0 (nI m)) 1 0) 2 0 9
    rw [upd_o _ _ (by omega), upd_o _ _ (by omega), upd_o _ _ (by omega)]; exact hr.2.1
  · rw [val _ (by omega), if_neg (by omega), if_neg (by omega), if_neg (by omega), if_neg (by omega), if_neg (by omega), if_pos (by omega), show 16 + j - 16 = j by omega]
    show _ = zU (zU (zU F 0 t) 10 (fun _ => -1)) 11 (fun _ => 0) 0 j
    rw [zU_o _ _ (by omega), zU_o _ _ (by omega), zU_s]
  · rw [val _ (by omega), if_neg (by omega), if_neg (by omega), if_neg (by omega), if_neg (by omega), if_neg (by omega), if_neg (by omega)]
    show _ = zU (zU (zU F 0 t) 10 (fun _ => -1)) 11 (fun _ => 0) (1 + u) j
    rw [zU_o _ _ (by omega), zU_o _ _ (by omega), zU_o _ _ (by omega)]; exact rlx_c hr j u hj hu
  · rw [val _ (by omega), if_neg (by omega), if_neg (by omega), if_neg (by omega), if_neg (by omega), if_neg (by omega), if_neg (by omega)]
    show _ = zU (zU (zU F 0 t) 10 (fun _ => -1)) 11 (fun _ => 0) (7 + u) j
    rw [zU_o _ _ (by omega), zU_o _ _ (by omega), zU_o _ _ (by omega)]
    refine rlx_g hr j u hj ?_ hu
    have : upd (upd (upd S 0 (nI m)) 1 0) 2 0 8 = S 8 := by rw [upd_o _ _ (by omega), upd_o _ _ (by omega), upd_o _ _ (by omega)]
    rw [← this]; exact hj8
  · rw [val _ (by omega), if_neg (by omega), if_pos (by omega)]
    show _ = zU (zU (zU F 0 t) 10 (fun _ => -1)) 11 (fun _ => 0) 10 i
    rw [zU_o _ _ (by omega), zU_s]
  · rw [val _ (by omega), if_pos (by omega)]
    show _ = zU (zU (zU F 0 t) 10 (fun _ => -1)) 11 (fun _ => 0) 11 i
    rw [zU_s]
  · show ivS N (upd (upd (upd S 0 (nI m)) 1 0) 2 0)
    unfold ivS at hS ⊢; simp (disch := omega) only [upd_o, upd_s]; rw [p_0, nI_toInt (by omega)]; omega
  · have h5 := h.2.2.1 c hc
    show ivC (zU _ 11 _) c
    unfold ivC at h5 ⊢
    rw [zU_o _ _ (by omega : ¬ 0 = 11), zU_o _ _ (by omega : ¬ 0 = 10), zU_s]
    simp (disch := omega) only [zU_o]
    exact ⟨ht c hc, h5.2⟩
  · have h5 := h.2.2.2 d hd
    show ivG (zU _ 11 _) d
    unfold ivG at h5 ⊢; simp (disch := omega) only [zU_o]; exact h5
theorem s_jsum {t : Nat → Int32} (ht : trB t) : ∀ i, i ≤ 5 → jsR f t i = jsum t i
  | 0, _ => rfl
  | i + 1, hi => by
    show jsR f t i + rCamsN (cpF 16 f t (i + 1)) i 16 = jsum t i + jbc (t i)
    rw [s_jsum ht i (by omega)]
    congr 1
    refine q_cams ?_ (ht i (by omega))
    unfold cpF
    rw [if_pos (by omega)]; exact congrArg _ (by omega)
end STEP
section READS
variable {S : Nat → Int32} {F : Nat → Nat → Int32} {f : Nat → Int32} {N : Int}
theorem r_cyl (h : agr N (S, F) f) {c j : Nat} (hc : c < 5) (hj : j < 8) : rcyl f c j = cylN S F c j := by
  have hr : rlx (S 9) S F f := h.1
  have hS : ivS N S := h.2.1
  have hj' : j = 0 ∨ j = 1 ∨ j = 2 ∨ j = 3 ∨ j = 4 ∨ j = 5 ∨ j = 6 ∨ j = 7 := by omega
  rcases hj' with rfl | rfl | rfl | rfl | rfl | rfl | rfl | rfl
  · exact rlx_c0 hr hc
  · exact rlx_c1 hr hc
  · exact rlx_c2 hr hc
  · exact rlx_c3 hr hc
  · exact q_cams (rlx_t hr c hc) (h.2.2.1 c hc).1
  · exact q_may hr h.2.2 hS.2.2.2.2.2.2.2.1 hc
  · exact rlx_c4 hr hc
  · exact rlx_c5 hr hc
theorem r_grd (h : agr N (S, F) f) {g j : Nat} (hg : g < 4) (hg8 : g < nN (S 8)) (hj : j < 4) : rgrd f g j = grdN F g j := by
  have hr : rlx (S 9) S F f := h.1
  have hj' : j = 0 ∨ j = 1 ∨ j = 2 ∨ j = 3 := by omega
  rcases hj' with rfl | rfl | rfl | rfl
  · exact rlx_g0 hr hg hg8
  · exact rlx_g1 hr hg hg8
  · exact rlx_g2 hr hg hg8
  · have hh := q_holds hr h.2.2 hg hg8
    show bI (rHolds f g) = bI (gHolds F g)
    by_cases e : gHolds F g
    · rw [bI_t e, bI_t (hh.mpr e)]
    · rw [bI_f e, bI_f (fun z => e (hh.mp z))]
theorem r_chtN (h : agr N (S, F) f) {c s : Nat} (hc : c < 5) (hs : s < 16) : f (63 + 16 * c + s) = chtAt F (nI c) (nI s) := by
  have hr : rlx (S 9) S F f := h.1
  have e : nI c * 16 + nI s = nI (16 * c + s) := by
    have h16 : (16 : Int32).toInt = 16 := rfl
    have e1 : nI c * 16 = nI (16 * c) := p_eq.mpr (by rw [p_mul (by rw [nI_toInt (by omega), h16]; omega), nI_toInt (by omega), nI_toInt (by omega), h16]; omega)
    rw [e1, nI_add]
  unfold chtAt
  rw [e, nI_clamp (by omega), if_pos ⟨p_le.mpr (by rw [p_0, nI_toInt (by omega)]; omega), p_le.mpr (by rw [show (79 : Int32).toInt = 79 from rfl, nI_toInt (by omega)]; omega)⟩, Nat.add_assoc]
  exact rlx_h hr _ (by omega)
theorem r_skN (h : agr N (S, F) f) {s : Nat} (hs : s < 16) : f (143 + s) = chtSk F (nI s) := by
  have hr : rlx (S 9) S F f := h.1
  unfold chtSk
  rw [nI_clamp (by omega), if_pos ⟨p_le.mpr (by rw [p_0, nI_toInt (by omega)]; omega), p_le.mpr (by rw [show (15 : Int32).toInt = 15 from rfl, nI_toInt (by omega)]; omega)⟩]
  exact rlx_k hr s hs
theorem r_cht (h : agr N (S, F) f) {cy st : Int32} (h1 : 0 ≤ cy ∧ cy ≤ 4) (h2 : 0 ≤ st ∧ st ≤ S 0 - 1) : f (63 + 16 * nN cy + nN st) = chtAt F cy st := by
  obtain ⟨c, hc, e1, e2⟩ := q_k5 h1
  obtain ⟨s, hs, e3, e4, -⟩ := q_stp (S := S) h.2.1 h2
  rw [e2, e4, r_chtN h hc hs, ← e1, ← e3]
theorem r_sk (h : agr N (S, F) f) {st : Int32} (h2 : 0 ≤ st ∧ st ≤ S 0 - 1) : f (143 + nN st) = chtSk F st := by
  obtain ⟨s, hs, e3, e4, -⟩ := q_stp (S := S) h.2.1 h2
  rw [e4, r_skN h hs, ← e3]
theorem r_has (h : agr N (S, F) f) {c : Nat} (hc : c < 5) (st : Int32) : bI (rHas f c st) = bI (hasC F c st) := by
  have hr : rlx (S 9) S F f := h.1
  have e := q_has hr hc st
  by_cases e1 : hasC F c st
  · rw [bI_t e1, bI_t (by rw [e]; exact e1)]
  · rw [bI_f e1, bI_f (by rw [e]; exact e1)]
/-! the digest -/
theorem d_n (h : agr N (S, F) f) (x : Int64) : ∀ k, k ≤ 16 → dgN f x k = dgN S x k
  | 0, _ => rfl
  | k + 1, hk => by
    show hW (dgN f x k) (f k) = hW (dgN S x k) (S k)
    rw [d_n h x k (by omega), agr_s h (by omega)]
theorem d_c (h : agr N (S, F) f) (x : Int64) : ∀ c, c ≤ 5 → rdgC f x (8 * c) = hcO S F x c
  | 0, _ => rfl
  | c + 1, hc => by
    have ih := d_c h x c (by omega)
    have inner : ∀ j, j ≤ 8 → rdgC f x (8 * c + j) = hcI S F c (hcO S F x c) j := by
      intro j
      induction j with
      | zero => intro _; exact ih
      | succ j ihj =>
        intro hj
        show hW (rdgC f x (8 * c + j)) (rcyl f ((8 * c + j) / 8) ((8 * c + j) % 8)) = hW (hcI S F c (hcO S F x c) j) (cylN S F c j)
        rw [ihj (by omega), show (8 * c + j) / 8 = c by omega, show (8 * c + j) % 8 = j by omega, r_cyl h (by omega) (by omega)]
    rw [show 8 * (c + 1) = 8 * c + 8 by omega]
    exact inner 8 (by omega)
theorem d_g (h : agr N (S, F) f) (x : Int64) : ∀ g, g ≤ 4 → g ≤ nN (S 8) → rdgG f x (4 * g) = hgO F x g
  | 0, _, _ => rfl
  | g + 1, hg, hg8 => by
    have ih := d_g h x g (by omega) (by omega)
    have inner : ∀ j, j ≤ 4 → rdgG f x (4 * g + j) = hgI F g (hgO F x g) j := by
      intro j
      induction j with
      | zero => intro _; exact ih
      | succ j ihj =>
        intro hj
        show hW (rdgG f x (4 * g + j)) (rgrd f ((4 * g + j) / 4) ((4 * g + j) % 4)) = hW (hgI F g (hgO F x g) j) (grdN F g j)
        rw [ihj (by omega), show (4 * g + j) / 4 = g by omega, show (4 * g + j) % 4 = j by omega, r_grd h (by omega) (by omega) (by omega)]
    rw [show 4 * (g + 1) = 4 * g + 4 by omega]
    exact inner 4 (by omega)
theorem d_si (h : agr N (S, F) f) {st : Nat} (hs : st < 16) (x : Int64) : ∀ c, c ≤ 5 → rhsI f st x c = hsI F st x c
  | 0, _ => rfl
  | c + 1, hc => by
    show hW (hW (rhsI f st x c) (bI (rHas f c (nI st)))) (f (63 + 16 * c + st)) = hW (hW (hsI F st x c) (bI (hasC F c (nI st)))) (chtAt F (nI c) (nI st))
    rw [d_si h hs x c (by omega), r_has h (by omega), r_chtN h (by omega) hs]
theorem d_so (h : agr N (S, F) f) (x : Int64) : ∀ st, st ≤ 16 → rhsO f x st = hsO F x st
  | 0, _ => rfl
  | st + 1, hs => by
    show rhsI f st (hW (rhsO f x st) (f (143 + st))) 5 = hsI F st (hW (hsO F x st) (chtSk F (nI st))) 5
    rw [d_so h x st (by omega), r_skN h (by omega), d_si h (by omega) _ 5 (by omega)]
theorem d_all {q : zTq} {X HS V : Nat → Int32} {n0 gn : Nat} (h : agr N (S, F) q.1) (hN : N ≤ 1000000) (h16 : n0 ≤ 16) (h8 : S 8 = nI gn) (hg4 : gn ≤ 4) (hX : V 4 = X 0) (hH : V 0 = HS 1) :
    rdig q n0 gn (V 4) (V 0) = dgst S F X HS n0 := by
  unfold rdig dgst
  rw [hX, hH, ← q_tc h hN]
  have e8 : nN (S 8) = gn := by rw [h8]; exact nN_nI (by omega)
  have eb : rbgN (S 8) = gn := by
    show min (S 8).toInt.toNat 4 = gn
    rw [show (S 8).toInt.toNat = gn from e8]; omega
  have e0 : (107477 : Int64) + (X 0).toInt64 = hW 3467 (X 0) := rfl
  rw [eb, d_so h _ n0 h16, d_g h _ gn hg4 (by omega), show (40 : Nat) = 8 * 5 from rfl, d_c h _ 5 (by omega), d_n h _ 16 (by omega), e0]
theorem r_ok (h : agr N (S, F) f) : rOK f := by
  have hr : rlx (S 9) S F f := h.1
  have hS : ivS N S := h.2.1
  obtain ⟨h0, h1, -, -, -, -, -, h8, -⟩ := hS
  have v0 : f 0 = S 0 := agr_s h (by omega)
  have v1 : f 1 = S 1 := agr_s h (by omega)
  have v8 : f 8 = S 8 := agr_s h (by omega)
  refine ⟨⟨(S 0).toInt.toNat, by omega, by rw [v0]; exact (p_nI _ (by omega)).symm⟩, ⟨(S 1).toInt.toNat, by omega, by rw [v1]; exact (p_nI _ (by omega)).symm⟩, ⟨(S 8).toInt.toNat, by omega, by rw [v8]; exact (p_nI _ (by omega)).symm, fun j hj => ?_⟩, fun c hc => ?_⟩
  · have hg : 0 ≤ (F 8 j).toInt ∧ (F 8 j).toInt < 5 := (h.2.2.2 j (by omega)).2.1
    exact ⟨(F 8 j).toInt.toNat, by omega, by rw [rlx_g1 hr (by omega) hj]; exact (p_nI _ (by omega)).symm⟩
  · have hc2 : 1 ≤ (F 2 c).toInt ∧ (F 2 c).toInt ≤ 9 := (h.2.2.1 c hc).2.2.1
    rw [rlx_c1 hr hc]
    intro e
    rw [e, p_0] at hc2
    omega
/-- running -/
theorem s_run {q : zTq} (h : agr 100000 (S, F) q.1) {tk : Int32} (h1 : 1 ≤ tk ∧ tk ≤ 500) (h2 : S 9 + tk ≤ 100000) : agr 100000 (tkN (S, F) (nN tk)) (rTi q (nN tk)).1 ∧ (rTi q (nN tk)).1 10 - q.1 10 = (tkN (S, F) (nN tk)).1 10 - S 10 := by
  have hS : ivS 100000 S := h.2.1
  have hS' := hS
  obtain ⟨-, -, -, -, -, -, -, -, h9, -⟩ := hS'
  have g1 := q_rg (m := 1) (M := 500) h1 rfl rfl
  have e1 : (S 9 + tk).toInt = (S 9).toInt + tk.toInt := p_add (by omega)
  have g2 := p_le.mp h2
  rw [e1, show (100000 : Int32).toInt = 100000 from rfl] at g2
  have hk : (nN tk : Int) = tk.toInt := by show (tk.toInt.toNat : Int) = _; omega
  have h' : agr (S 9).toInt (S, F) q.1 := ⟨h.1, by show ivS _ S; unfold ivS at hS ⊢; omega, h.2.2⟩
  have r := q_ti (q := q) h' (nN tk) (by omega)
  have r2 := agr_w (M := 100000) r (by omega)
  refine ⟨r2, ?_⟩
  rw [agr_s r2 (by omega), agr_s h (by omega)]
/-! the first state -/
theorem s_new : agr 100000 (zS0, zF0) rF0 := by
  refine ⟨⟨?_, ?_, ?_, ?_, ?_, ?_, ?_⟩, ?_, ?_, ?_⟩
  · show ∀ k, k < 16 → ¬ k = 9 → rF0 k = zS0 k
    decide +kernel
  · show rF0 9 = zS0 9
    decide +kernel
  · show ∀ j, j < 5 → rF0 (16 + j) = zF0 0 j
    decide +kernel
  · show ∀ j t, j < 5 → t < 6 → rF0 (21 + 6 * j + t) = zF0 (1 + t) j
    have : ∀ j, j < 5 → ∀ t, t < 6 → rF0 (21 + 6 * j + t) = zF0 (1 + t) j := by decide +kernel
    exact fun j t hj ht => this j hj t ht
  · intro j t hj hj8 ht
    exact absurd (show j < 0 from hj8) (by omega)
  · show ∀ k, k < 80 → rF0 (63 + k) = zF0 10 k
    decide +kernel
  · show ∀ k, k < 16 → rF0 (143 + k) = zF0 11 k
    decide +kernel
  · show ivS 100000 zS0
    unfold ivS; decide +kernel
  · intro c hc
    show ivC zF0 c
    unfold ivC; revert hc; revert c; decide +kernel
  · intro g hg
    show ivG zF0 g
    unfold ivG; revert hg; revert g; decide +kernel
end READS
