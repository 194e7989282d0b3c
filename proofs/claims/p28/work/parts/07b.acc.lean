/-! the accounts of one drum -/
def sm (f : Nat → Int32) : Nat → Int32
  | 0 => 0
  | n + 1 => sm f n + f n
theorem sm_o {f g : Nat → Int32} : ∀ n, (∀ j, j < n → f j = g j) → sm f n = sm g n
  | 0, _ => rfl
  | n + 1, h => by
    show sm f n + f n = sm g n + g n
    rw [sm_o n (fun j hj => h j (by omega)), h n (by omega)]
theorem sm_u (f : Nat → Int32) (c : Nat) (x : Int32) : ∀ n, c < n → sm (upd f c (f c + x)) n = sm f n + x
  | 0, h => absurd h (by omega)
  | n + 1, h => by
    show sm (upd f c (f c + x)) n + upd f c (f c + x) n = sm f n + f n + x
    by_cases e : c = n
    · subst e
      rw [sm_o (g := f) c (fun j hj => upd_o _ _ (by omega)), upd_s, Int32.add_assoc]
    · rw [sm_u f c x n (by omega), upd_o _ _ (by omega), Int32.add_assoc, Int32.add_comm x, ← Int32.add_assoc]
def acI (S : Nat → Int32) : Prop := (S 12).toInt = (S 5).toInt + (S 13).toInt + (S 14).toInt + (S 15).toInt ∧ 0 ≤ (S 13).toInt ∧ 0 ≤ (S 14).toInt ∧ 0 ≤ (S 15).toInt ∧ (S 5).toInt ≤ (S 6).toInt
def acF (S : Nat → Int32) (F : Nat → Nat → Int32) : Prop := S 14 = sm (F 5) 5 ∧ S 15 = sm (F 6) 5 ∧ S 11 = sm (F 11) 8
def inv (N : Int) (p : zP) : Prop := ivS N p.1 ∧ ivF p.2 ∧ acI p.1 ∧ acF p.1 p.2 ∧ p.1 0 = 8
def mo (S S' : Nat → Int32) : Prop := ∀ k, 9 ≤ k → k < 16 → (S k).toInt ≤ (S' k).toInt
section ACC
variable {S S' S2 : Nat → Int32} {F : Nat → Nat → Int32} {N : Int}
theorem mo_r (S : Nat → Int32) : mo S S := fun _ _ _ => Int.le_refl _
theorem mo_t (h : mo S S') (h2 : mo S' S2) : mo S S2 := fun k a b => Int.le_trans (h k a b) (h2 k a b)
theorem mo_u (h : mo S S') (k : Nat) {v : Int32} (hv : (S k).toInt ≤ v.toInt) : mo S (upd S' k v) := fun j a b => by
  by_cases e : j = k
  · rw [e, upd_s]; exact hv
  · rw [upd_o _ _ e]; exact h j a b
theorem mo_o (h : mo S S') (k : Nat) (v : Int32) (hk : k < 9) : mo S (upd S' k v) := fun j a b => by
  rw [upd_o _ _ (by omega)]; exact h j a b
theorem tkA_13 (S : Nat → Int32) : tkA S 13 = S 13 + aoff (S 5 + S 7) (S 6) := by
  unfold tkA airCmp airOff
  rw [upd_s, upd_o _ _ (by omega : ¬ 13 = 12), upd_o _ _ (by omega : ¬ 13 = 5), upd_o _ _ (by omega : ¬ 13 = 9), upd_o _ _ (by omega : ¬ 5 = 12), upd_s, upd_o _ _ (by omega : ¬ 6 = 12), upd_o _ _ (by omega : ¬ 6 = 5), upd_o _ _ (by omega : ¬ 6 = 9), upd_o _ _ (by omega : ¬ 5 = 9), upd_o _ _ (by omega : ¬ 7 = 9)]
theorem ac_A (hS : ivS N S) (hN : N ≤ 2000000) (h : acI S) : acI (tkA S) ∧ mo S (tkA S) := by
  obtain ⟨h0, h1, h2, h3, h5, h6, h7, h8, h9, h10, h11, h12⟩ := hS
  obtain ⟨a1, a2, a3, a4, a5⟩ := h
  have e9 : (S 9 + 1).toInt = (S 9).toInt + 1 := by rw [p_add (by rw [p_1]; omega), p_1]
  have e12 : (S 12 + S 7).toInt = (S 12).toInt + (S 7).toInt := p_add (by omega)
  have e5 : (S 5 + S 7).toInt = (S 5).toInt + (S 7).toInt := p_add (by omega)
  have e56 : (S 5 + S 7 - S 6).toInt = (S 5).toInt + (S 7).toInt - (S 6).toInt := by rw [p_sub (by omega), e5]
  have eo : (aoff (S 5 + S 7) (S 6)).toInt = max ((S 5).toInt + (S 7).toInt - (S 6).toInt) 0 := by unfold aoff; rw [p_max, e56, p_0]
  have e5o : (S 5 + S 7 - aoff (S 5 + S 7) (S 6)).toInt = (S 5).toInt + (S 7).toInt - max ((S 5).toInt + (S 7).toInt - (S 6).toInt) 0 := by rw [p_sub (by omega), e5, eo]
  have e13 : (S 13 + aoff (S 5 + S 7) (S 6)).toInt = (S 13).toInt + max ((S 5).toInt + (S 7).toInt - (S 6).toInt) 0 := by rw [p_add (by omega), eo]
  have g14 : tkA S 14 = S 14 := tkA_v S (by omega) (by omega) (by omega) (by omega)
  have g15 : tkA S 15 = S 15 := tkA_v S (by omega) (by omega) (by omega) (by omega)
  have g6 : tkA S 6 = S 6 := tkA_v S (by omega) (by omega) (by omega) (by omega)
  have g10 : tkA S 10 = S 10 := tkA_v S (by omega) (by omega) (by omega) (by omega)
  have g11 : tkA S 11 = S 11 := tkA_v S (by omega) (by omega) (by omega) (by omega)
  refine ⟨?_, ?_⟩
  · unfold acI
    rw [tkA_5, tkA_12, tkA_13, g14, g15, g6, e12, e5o, e13]
    omega
  · intro k a b
    have hk : k = 9 ∨ k = 10 ∨ k = 11 ∨ k = 12 ∨ k = 13 ∨ k = 14 ∨ k = 15 := by omega
    rcases hk with rfl | rfl | rfl | rfl | rfl | rfl | rfl
    · rw [tkA_9, e9]; omega
    · rw [g10]; omega
    · rw [g11]; omega
    · rw [tkA_12, e12]; omega
    · rw [tkA_13, e13]; omega
    · rw [g14]; omega
    · rw [g15]; omega
theorem mdS_k (S : Nat → Int32) {k : Nat} (h1 : ¬ k = 1) (h2 : ¬ k = 2) (h10 : ¬ k = 10) (h11 : ¬ k = 11) : mdS S k = S k := by
  unfold mdS
  split
  · split
    · split
      · simp (disch := omega) only [upd_o]
      · simp (disch := omega) only [upd_o]
    · simp (disch := omega) only [upd_o]
  · simp (disch := omega) only [upd_o]
theorem mdF_k (S : Nat → Int32) (F : Nat → Nat → Int32) {r : Nat} (h : ¬ r = 11) : mdF S F r = F r := by
  unfold mdF chtCnt
  split
  · split
    · rfl
    · exact zU_o _ _ h
  · rfl
theorem cnt_e (F : Nat → Nat → Int32) {st : Nat} (h : st < 16) : chtCnt F (nI st) = zU F 11 (upd (F 11) st (F 11 st + 1)) := by
  unfold chtCnt chtCntR
  rw [if_pos ⟨p_le.mpr (by rw [p_0, nI_toInt (by omega)]; omega), p_le.mpr (by rw [show (15 : Int32).toInt = 15 from rfl, nI_toInt (by omega)]; omega)⟩, nI_clamp (by omega)]
theorem bI_i (P : Prop) [Decidable P] : 0 ≤ (bI P).toInt ∧ (bI P).toInt ≤ 1 := by
  by_cases h : P
  · rw [bI_t h]; decide
  · rw [bI_f h]; decide
theorem bI_a {x : Int32} (P : Prop) [Decidable P] (h : 0 ≤ x.toInt ∧ x.toInt ≤ 3000000) : x.toInt ≤ (x + bI P).toInt := by
  have := bI_i P
  rw [p_add (by omega)]; omega
theorem ac_D (hS : ivS N S) (hN : N ≤ 2000001) (h0 : S 0 = 8) (h : acI S) (hF : acF S F) : acI (mdS S) ∧ acF (mdS S) (mdF S F) ∧ mo S (mdS S) := by
  have h10 := hS.2.2.2.2.2.2.2.2.2.1
  have h11 := hS.2.2.2.2.2.2.2.2.2.2.1
  have h9 := hS.2.2.2.2.2.2.2.2.1
  have h1 := hS.2.1
  have e0 : (S 0).toInt = 8 := by rw [h0]; rfl
  refine ⟨?_, ⟨?_, ?_, ?_⟩, ?_⟩
  · unfold acI at h ⊢
    rw [mdS_k S (k := 12) (by omega) (by omega) (by omega) (by omega), mdS_k S (k := 5) (by omega) (by omega) (by omega) (by omega), mdS_k S (k := 13) (by omega) (by omega) (by omega) (by omega), mdS_k S (k := 14) (by omega) (by omega) (by omega) (by omega), mdS_k S (k := 15) (by omega) (by omega) (by omega) (by omega), mdS_k S (k := 6) (by omega) (by omega) (by omega) (by omega)]
    exact h
  · rw [mdS_k S (k := 14) (by omega) (by omega) (by omega) (by omega), mdF_k S F (by omega)]; exact hF.1
  · rw [mdS_k S (k := 15) (by omega) (by omega) (by omega) (by omega), mdF_k S F (by omega)]; exact hF.2.1
  · have hs : S 1 = nI (S 1).toInt.toNat := (p_nI _ h1.1).symm
    have hl : (S 1).toInt.toNat < 8 := by omega
    unfold mdS mdF
    by_cases c1 : S 3 ≤ S 2 + 1
    · rw [if_pos c1, if_pos c1]
      by_cases c2 : S 4 ≤ S 5
      · rw [if_pos c2, if_pos c2]
        by_cases c3 : nxt S ≤ 0
        · rw [if_pos c3, upd_o _ _ (by omega), upd_o _ _ (by omega), upd_o _ _ (by omega)]; exact hF.2.2
        · rw [if_neg c3, upd_o _ _ (by omega), upd_o _ _ (by omega)]; exact hF.2.2
      · rw [if_neg c2, if_neg c2, upd_s, hs, cnt_e F (by omega), zU_s, sm_u (F 11) _ 1 8 hl, ← hF.2.2]
    · rw [if_neg c1, if_neg c1, upd_o _ _ (by omega)]; exact hF.2.2
  · intro k a b
    have hk : k = 10 ∨ k = 11 ∨ (¬ k = 10 ∧ ¬ k = 11) := by omega
    rcases hk with rfl | rfl | ⟨u1, u2⟩
    · rw [md_10]; exact bI_a _ (by omega)
    · rw [md_11]; exact bI_a _ (by omega)
    · rw [mdS_k S (by omega) (by omega) u1 u2]; exact Int.le_refl _
theorem ac_M (hS : ivS N S) (hN : N ≤ 2000001) (hF : ivF F) (h : acI S) (hA : acF S F) {c : Nat} (hc : c < 5) : ivS N (mvP (S, F) c).1 ∧ ivF (mvP (S, F) c).2 ∧ acI (mvP (S, F) c).1 ∧ acF (mvP (S, F) c).1 (mvP (S, F) c).2 ∧ mo S (mvP (S, F) c).1 := by
  have h5 := hS.2.2.2.2.1
  have h12 := hS.2.2.2.2.2.2.2.2.2.2.2
  have h9 := hS.2.2.2.2.2.2.2.2.1
  have hcc := hF.1 c hc
  by_cases hh : hasC F c (S 1)
  · rw [show mvP (S, F) c = (moS S F c, moF S F c) from if_pos hh]
    obtain ⟨v0, v1, v2, v3, v4⟩ := far_v hF h5 hc
    unfold moS moF airUse
    have hx : 0 ≤ (F 2 c * moFar S F c).toInt ∧ (F 2 c * moFar S F c).toInt ≤ (S 5).toInt := by rw [v2]; omega
    clear v2 v3 v4
    generalize F 2 c * moFar S F c = x at *
    generalize moFar S F c = d at *
    obtain ⟨a1, a2, a3, a4, a5⟩ := h
    have e5 : (S 5 - x).toInt = (S 5).toInt - x.toInt := p_sub (by omega)
    have e14 : (S 14 + x).toInt = (S 14).toInt + x.toInt := p_add (by omega)
    have h11 := hcc.2.1
    refine ⟨ivS_u14 (ivS_u5 hS _ (by rw [e5]; omega)) _, ?_, ?_, ⟨?_, ?_, ?_⟩, ?_⟩
    · have hF5 := ivF_u hF (r := 5) (upd (F 5) c (F 5 c + x)) (by omega) (by omega) (by omega) (by omega) (by omega) (by omega) (by omega) (by omega)
      exact ivF_1 hF5 c (F 1 c + d) (by rw [p_add (by omega)]; omega)
    · unfold acI; simp (disch := omega) only [upd_o, upd_s]; rw [e5, e14]; omega
    · show upd (upd S 5 (S 5 - x)) 14 (S 14 + x) 14 = sm (zU (zU F 5 (upd (F 5) c (F 5 c + x))) 1 (upd (F 1) c (F 1 c + d)) 5) 5
      rw [upd_s, zU_o _ _ (by omega), zU_s, sm_u (F 5) c x 5 hc, ← hA.1]
    · show upd (upd S 5 (S 5 - x)) 14 (S 14 + x) 15 = sm (zU (zU F 5 (upd (F 5) c (F 5 c + x))) 1 (upd (F 1) c (F 1 c + d)) 6) 5
      rw [upd_o _ _ (by omega), upd_o _ _ (by omega), zU_o _ _ (by omega), zU_o _ _ (by omega)]; exact hA.2.1
    · show upd (upd S 5 (S 5 - x)) 14 (S 14 + x) 11 = sm (zU (zU F 5 (upd (F 5) c (F 5 c + x))) 1 (upd (F 1) c (F 1 c + d)) 11) 8
      rw [upd_o _ _ (by omega), upd_o _ _ (by omega), zU_o _ _ (by omega), zU_o _ _ (by omega)]; exact hA.2.2
    · refine mo_u (mo_o (mo_r S) 5 _ (by omega)) 14 ?_
      rw [e14]; omega
  · rw [show mvP (S, F) c = (S, miF F c) from if_neg hh]
    have h31 := hcc.2.2.2.1
    have h11 := hcc.2.1
    have hs3 : (F 1 c - F 3 c).toInt = (F 1 c).toInt - (F 3 c).toInt := p_sub (by omega)
    unfold miF
    refine ⟨hS, ivF_1 hF c _ (by rw [p_max, hs3, p_0]; omega), h, ⟨?_, ?_, ?_⟩, mo_r S⟩
    · show S 14 = sm (zU F 1 (upd (F 1) c (zmax (F 1 c - F 3 c) 0)) 5) 5; rw [zU_o _ _ (by omega)]; exact hA.1
    · show S 15 = sm (zU F 1 (upd (F 1) c (zmax (F 1 c - F 3 c) 0)) 6) 5; rw [zU_o _ _ (by omega)]; exact hA.2.1
    · show S 11 = sm (zU F 1 (upd (F 1) c (zmax (F 1 c - F 3 c) 0)) 11) 8; rw [zU_o _ _ (by omega)]; exact hA.2.2
theorem ac_L (hS : ivS N S) (hN : N ≤ 2000001) (hF : ivF F) (h : acI S) (hA : acF S F) {c : Nat} (hc : c < 5) : ivS N (lkS S F c) ∧ ivF (lkF S F c) ∧ acI (lkS S F c) ∧ acF (lkS S F c) (lkF S F c) ∧ mo S (lkS S F c) := by
  have h5 := hS.2.2.2.2.1
  have h12 := hS.2.2.2.2.2.2.2.2.2.2.2
  have h9 := hS.2.2.2.2.2.2.2.2.1
  have hcc := hF.1 c hc
  have h4 := hcc.2.2.2.2
  unfold lkS lkF
  by_cases hh : lkC S F c
  · rw [if_pos hh, if_pos hh]
    have ev := p_min (F 4 c) (S 5)
    unfold airLeak
    generalize zmin (F 4 c) (S 5) = d at *
    obtain ⟨a1, a2, a3, a4, a5⟩ := h
    have e5 : (S 5 - d).toInt = (S 5).toInt - d.toInt := p_sub (by omega)
    have e15 : (S 15 + d).toInt = (S 15).toInt + d.toInt := p_add (by omega)
    refine ⟨ivS_u15 (ivS_u5 hS _ (by rw [e5]; omega)) _, ivF_u hF (r := 6) _ (by omega) (by omega) (by omega) (by omega) (by omega) (by omega) (by omega) (by omega), ?_, ⟨?_, ?_, ?_⟩, ?_⟩
    · unfold acI; simp (disch := omega) only [upd_o, upd_s]; rw [e5, e15]; omega
    · rw [upd_o _ _ (by omega), upd_o _ _ (by omega), zU_o _ _ (by omega)]; exact hA.1
    · rw [upd_s, zU_s, sm_u (F 6) c d 5 hc, ← hA.2.1]
    · rw [upd_o _ _ (by omega), upd_o _ _ (by omega), zU_o _ _ (by omega)]; exact hA.2.2
    · refine mo_u (mo_o (mo_r S) 5 _ (by omega)) 15 ?_
      rw [e15]; omega
  · rw [if_neg hh, if_neg hh]
    exact ⟨hS, hF, h, hA, mo_r S⟩
theorem ac_mvN {p : zP} (hS : ivS N p.1) (hN : N ≤ 2000001) (hF : ivF p.2) (h : acI p.1) (hA : acF p.1 p.2) : ∀ c, c ≤ 5 → ivS N (mvN p c).1 ∧ ivF (mvN p c).2 ∧ acI (mvN p c).1 ∧ acF (mvN p c).1 (mvN p c).2 ∧ mo p.1 (mvN p c).1
  | 0, _ => ⟨hS, hF, h, hA, mo_r _⟩
  | c + 1, hc => by
    obtain ⟨i1, i2, i3, i4, i5⟩ := ac_mvN hS hN hF h hA c (by omega)
    obtain ⟨j1, j2, j3, j4, j5⟩ := ac_M (S := (mvN p c).1) (F := (mvN p c).2) i1 hN i2 i3 i4 (c := c) (by omega)
    exact ⟨j1, j2, j3, j4, mo_t i5 j5⟩
theorem ac_lkN {p : zP} (hS : ivS N p.1) (hN : N ≤ 2000001) (hF : ivF p.2) (h : acI p.1) (hA : acF p.1 p.2) : ∀ c, c ≤ 5 → ivS N (lkN p c).1 ∧ ivF (lkN p c).2 ∧ acI (lkN p c).1 ∧ acF (lkN p c).1 (lkN p c).2 ∧ mo p.1 (lkN p c).1
  | 0, _ => ⟨hS, hF, h, hA, mo_r _⟩
  | c + 1, hc => by
    obtain ⟨i1, i2, i3, i4, i5⟩ := ac_lkN hS hN hF h hA c (by omega)
    obtain ⟨j1, j2, j3, j4, j5⟩ := ac_L (S := (lkN p c).1) (F := (lkN p c).2) i1 hN i2 i3 i4 (c := c) (by omega)
    exact ⟨j1, j2, j3, j4, mo_t i5 j5⟩
theorem nt_r (p : zP) {r : Nat} (h : ¬ r = 10) : ∀ c, (ntN p c).2 r = p.2 r
  | 0 => rfl
  | c + 1 => by
    show chtNote (ntN p c).2 _ _ _ r = _
    unfold chtNote
    rw [zU_o _ _ h, nt_r p h c]
theorem nt_F {p : zP} (hF : ivF p.2) : ∀ c, ivF (ntN p c).2
  | 0 => hF
  | c + 1 => by
    show ivF (chtNote (ntN p c).2 _ _ _)
    unfold chtNote
    exact ivF_u (nt_F hF c) _ (by omega) (by omega) (by omega) (by omega) (by omega) (by omega) (by omega) (by omega)
/-- a tick keeps it -/
theorem inv_t {p : zP} (h : inv N p) (hN : N ≤ 2000000) : inv (N + 1) (tkP p) ∧ mo p.1 (tkP p).1 := by
  obtain ⟨hS, hF, hI, hA, h0⟩ := h
  have hSA := iv_A hS hN
  obtain ⟨i1, m1⟩ := ac_A hS hN hI
  have g9 := tkA_9 p.1
  have g10 : tkA p.1 10 = p.1 10 := tkA_v p.1 (by omega) (by omega) (by omega) (by omega)
  have g11 : tkA p.1 11 = p.1 11 := tkA_v p.1 (by omega) (by omega) (by omega) (by omega)
  have g14 : tkA p.1 14 = p.1 14 := tkA_v p.1 (by omega) (by omega) (by omega) (by omega)
  have g15 : tkA p.1 15 = p.1 15 := tkA_v p.1 (by omega) (by omega) (by omega) (by omega)
  have g0 : tkA p.1 0 = 8 := by rw [tkA_v p.1 (by omega) (by omega) (by omega) (by omega)]; exact h0
  have h9 := hS.2.2.2.2.2.2.2.2.1
  have h10 := hS.2.2.2.2.2.2.2.2.2.1
  have h11 := hS.2.2.2.2.2.2.2.2.2.2.1
  have e9 := q_1 (p.1 9) (by omega)
  have hAA : acF (tkA p.1) p.2 := ⟨by rw [g14]; exact hA.1, by rw [g15]; exact hA.2.1, by rw [g11]; exact hA.2.2⟩
  obtain ⟨i2, a2, m2⟩ := ac_D hSA (by omega) g0 i1 hAA
  have s2 := iv_md hSA (by rw [g9]; omega) (by rw [g9, g10]; omega) (by rw [g9, g11]; omega) hN
  have f2 := ivF_md (S := tkA p.1) hF
  obtain ⟨s3, f3, i3, a3, m3⟩ := ac_mvN (p := (mdS (tkA p.1), mdF (tkA p.1) p.2)) s2 (by omega) f2 i2 a2 5 (by omega)
  obtain ⟨s4, f4, i4, a4, m4⟩ := ac_lkN s3 (by omega) f3 i3 a3 5 (by omega)
  have et : (tkP p).1 = (lkN (mvN (mdS (tkA p.1), mdF (tkA p.1) p.2) 5) 5).1 := by unfold tkP; rw [ntN_1]; rfl
  have ef : ∀ r, ¬ r = 10 → (tkP p).2 r = (lkN (mvN (mdS (tkA p.1), mdF (tkA p.1) p.2) 5) 5).2 r := fun r hr => by unfold tkP; rw [nt_r _ hr]; rfl
  refine ⟨⟨by rw [et]; exact s4, by unfold tkP; exact nt_F f4 5, by rw [et]; exact i4, ⟨?_, ?_, ?_⟩, ?_⟩, ?_⟩
  · rw [et, ef 5 (by omega)]; exact a4.1
  · rw [et, ef 6 (by omega)]; exact a4.2.1
  · rw [et, ef 11 (by omega)]; exact a4.2.2
  · rw [tkP_k p (by omega) (by omega) (by omega), mdS_k _ (by omega) (by omega) (by omega) (by omega)]; exact g0
  · rw [et]; exact mo_t (mo_t m1 m2) (mo_t m3 m4)
theorem inv_w {p : zP} {M : Int} (h : inv N p) (hM : N ≤ M) : inv M p := ⟨ivS_w h.1 hM, h.2⟩
theorem inv_n {p : zP} (h : inv N p) : ∀ k : Nat, N + k ≤ 2000000 → inv (N + k) (tkN p k) ∧ mo p.1 (tkN p k).1
  | 0, _ => ⟨by rw [show N + ((0 : Nat) : Int) = N by omega]; exact h, mo_r _⟩
  | k + 1, hk => by
    obtain ⟨i1, m1⟩ := inv_n h k (by omega)
    obtain ⟨i2, m2⟩ := inv_t i1 (by omega)
    refine ⟨?_, mo_t m1 m2⟩
    rw [show N + ((k + 1 : Nat) : Int) = N + (k : Int) + 1 by omega]
    exact i2
end ACC
/-! the calls keep it -/
section OPS
variable {S : Nat → Int32} {F : Nat → Nat → Int32} {N : Int}
theorem ac_o {S' : Nat → Int32} {F' : Nat → Nat → Int32} (h : acF S F) (h14 : S' 14 = S 14) (h15 : S' 15 = S 15) (h11 : S' 11 = S 11) (f5 : F' 5 = F 5) (f6 : F' 6 = F 6) (f11 : F' 11 = F 11) : acF S' F' :=
  ⟨by rw [h14, f5]; exact h.1, by rw [h15, f6]; exact h.2.1, by rw [h11, f11]; exact h.2.2⟩
theorem i_setCam (h : inv N (S, F)) {c s : Nat} (hc : c < 5) (hs : s < 16) (th : Int32) : inv N (S, zU F 0 (upd (F 0) c (camPut (F 0 c) (nI s) th))) :=
  ⟨h.1, ivF_0 h.2.1 (trB_u (ivF_t h.2.1) c (put_v (h.2.1.1 c hc).1 s hs th)), h.2.2.1, ac_o h.2.2.2.1 rfl rfl rfl (zU_o (r := 0) (k := 5) F (upd (F 0) c (camPut (F 0 c) (nI s) th)) (by omega)) (zU_o (r := 0) (k := 6) F (upd (F 0) c (camPut (F 0 c) (nI s) th)) (by omega)) (zU_o (r := 0) (k := 11) F (upd (F 0) c (camPut (F 0 c) (nI s) th)) (by omega)), h.2.2.2.2⟩
theorem i_setPawl (h : inv N (S, F)) {dw le : Int32} (h1 : 1 ≤ dw ∧ dw ≤ 20) : inv N (upd (upd S 3 dw) 4 le, F) := by
  obtain ⟨hS, hF, hI, hA, h0⟩ := h
  have g := q_rg (m := 1) (M := 20) h1 rfl rfl
  refine ⟨?_, hF, ?_, ac_o hA (by show upd (upd S 3 dw) 4 le 14 = S 14; simp (disch := omega) only [upd_o]) (by show upd (upd S 3 dw) 4 le 15 = S 15; simp (disch := omega) only [upd_o]) (by show upd (upd S 3 dw) 4 le 11 = S 11; simp (disch := omega) only [upd_o]) rfl rfl rfl, ?_⟩
  · have hS : ivS N S := hS
    show ivS N (upd (upd S 3 dw) 4 le)
    unfold ivS at hS ⊢; simp (disch := omega) only [upd_o, upd_s]; omega
  · have hI : acI S := hI
    show acI (upd (upd S 3 dw) 4 le)
    unfold acI at hI ⊢; simp (disch := omega) only [upd_o]; exact hI
  · show upd (upd S 3 dw) 4 le 0 = 8
    rw [upd_o _ _ (by omega), upd_o _ _ (by omega)]; exact h0
theorem i_setCylinder (h : inv N (S, F)) {c : Nat} {sz sp lk : Int32} (h2 : 1 ≤ sz ∧ sz ≤ 9) (h3 : 1 ≤ sp ∧ sp ≤ 50) (h4 : 0 ≤ lk ∧ lk ≤ 20) : inv N (S, zU (zU (zU F 2 (upd (F 2) c sz)) 3 (upd (F 3) c sp)) 4 (upd (F 4) c lk)) :=
  ⟨h.1, ivF_4 (ivF_3 (ivF_2 h.2.1 c (q_rg h2 rfl rfl)) c (v := sp) (q_rg h3 rfl rfl)) c (v := lk) (q_rg h4 rfl rfl), h.2.2.1, ac_o h.2.2.2.1 rfl rfl rfl (by show zU (zU (zU F 2 (upd (F 2) c sz)) 3 (upd (F 3) c sp)) 4 (upd (F 4) c lk) 5 = F 5; simp (disch := omega) only [zU_o]) (by show zU (zU (zU F 2 (upd (F 2) c sz)) 3 (upd (F 3) c sp)) 4 (upd (F 4) c lk) 6 = F 6; simp (disch := omega) only [zU_o]) (by show zU (zU (zU F 2 (upd (F 2) c sz)) 3 (upd (F 3) c sp)) 4 (upd (F 4) c lk) 11 = F 11; simp (disch := omega) only [zU_o]), h.2.2.2.2⟩
theorem i_setAir (h : inv N (S, F)) (hN : N ≤ 2000000) {ca co : Int32} (h1 : 100 ≤ ca ∧ ca ≤ 9999) (h2 : 0 ≤ co ∧ co ≤ 500) : inv N (airOff (upd (upd S 6 ca) 7 co), F) ∧ mo S (airOff (upd (upd S 6 ca) 7 co)) := by
  obtain ⟨hS, hF, hI, hA, h0⟩ := h
  have hS : ivS N S := hS
  have hI : acI S := hI
  have h0 : S 0 = 8 := h0
  have g1 := q_rg (m := 100) (M := 9999) h1 rfl rfl
  have g2 := q_rg (m := 0) (M := 500) h2 rfl rfl
  have hS' := hS
  obtain ⟨-, -, -, -, k5, -, -, -, k9, -, -, k12⟩ := hS'
  have e56 : (S 5 - ca).toInt = (S 5).toInt - ca.toInt := p_sub (by omega)
  have eo : (aoff (S 5) ca).toInt = max ((S 5).toInt - ca.toInt) 0 := by unfold aoff; rw [p_max, e56, p_0]
  have e5o : (S 5 - aoff (S 5) ca).toInt = (S 5).toInt - max ((S 5).toInt - ca.toInt) 0 := by rw [p_sub (by omega), eo]
  obtain ⟨a1, a2, a3, a4, a5⟩ := hI
  have e13 : (S 13 + aoff (S 5) ca).toInt = (S 13).toInt + max ((S 5).toInt - ca.toInt) 0 := by rw [p_add (by omega), eo]
  refine ⟨⟨?_, hF, ?_, ac_o hA ?_ ?_ ?_ rfl rfl rfl, ?_⟩, ?_⟩
  · show ivS N (airOff (upd (upd S 6 ca) 7 co))
    unfold airOff
    unfold ivS at hS ⊢
    simp (disch := omega) only [upd_o, upd_s]
    rw [e5o]
    omega
  · show acI (airOff (upd (upd S 6 ca) 7 co))
    unfold airOff acI
    simp (disch := omega) only [upd_o, upd_s]
    rw [e5o, e13]
    omega
  · show airOff (upd (upd S 6 ca) 7 co) 14 = S 14
    unfold airOff; simp (disch := omega) only [upd_o]
  · show airOff (upd (upd S 6 ca) 7 co) 15 = S 15
    unfold airOff; simp (disch := omega) only [upd_o]
  · show airOff (upd (upd S 6 ca) 7 co) 11 = S 11
    unfold airOff; simp (disch := omega) only [upd_o]
  · show airOff (upd (upd S 6 ca) 7 co) 0 = 8
    unfold airOff; simp (disch := omega) only [upd_o]; exact h0
  · unfold airOff
    refine mo_u (mo_o (mo_o (mo_o (mo_r S) 6 _ (by omega)) 7 _ (by omega)) 5 _ (by omega)) 13 ?_
    simp (disch := omega) only [upd_o, upd_s]
    rw [e13]; omega
theorem i_turn (h : inv N (S, F)) {s : Nat} (hs : s < 8) : inv N (upd (upd S 1 (nI s)) 2 0, F) := by
  obtain ⟨hS, hF, hI, hA, h0⟩ := h
  have h0 : S 0 = 8 := h0
  have e0 : (S 0).toInt = 8 := by rw [h0]; rfl
  refine ⟨?_, hF, ?_, ac_o hA (by show upd (upd S 1 (nI s)) 2 0 14 = S 14; simp (disch := omega) only [upd_o]) (by show upd (upd S 1 (nI s)) 2 0 15 = S 15; simp (disch := omega) only [upd_o]) (by show upd (upd S 1 (nI s)) 2 0 11 = S 11; simp (disch := omega) only [upd_o]) rfl rfl rfl, ?_⟩
  · have hS : ivS N S := hS
    show ivS N (upd (upd S 1 (nI s)) 2 0)
    unfold ivS at hS ⊢; simp (disch := omega) only [upd_o, upd_s]; rw [p_0, nI_toInt (by omega)]; omega
  · have hI : acI S := hI
    show acI (upd (upd S 1 (nI s)) 2 0)
    unfold acI at hI ⊢; simp (disch := omega) only [upd_o]; exact hI
  · show upd (upd S 1 (nI s)) 2 0 0 = 8
    rw [upd_o _ _ (by omega), upd_o _ _ (by omega)]; exact h0
theorem inv_8 (h : inv N (S, F)) {G : Nat → Nat → Int32} {v : Int32} (hv : 0 ≤ v.toInt ∧ v.toInt ≤ 4) (hG : ivF G) (g5 : G 5 = F 5) (g6 : G 6 = F 6) (g11 : G 11 = F 11) : inv N (upd S 8 v, G) := by
  obtain ⟨hS, hF, hI, hA, h0⟩ := h
  have h0 : S 0 = 8 := h0
  refine ⟨?_, hG, ?_, ac_o hA (by show upd S 8 v 14 = S 14; simp (disch := omega) only [upd_o]) (by show upd S 8 v 15 = S 15; simp (disch := omega) only [upd_o]) (by show upd S 8 v 11 = S 11; simp (disch := omega) only [upd_o]) g5 g6 g11, ?_⟩
  · have hS : ivS N S := hS
    show ivS N (upd S 8 v)
    unfold ivS at hS ⊢; simp (disch := omega) only [upd_o, upd_s]; omega
  · have hI : acI S := hI
    show acI (upd S 8 v)
    unfold acI at hI ⊢; simp (disch := omega) only [upd_o]; exact hI
  · show upd S 8 v 0 = 8
    rw [upd_o _ _ (by omega)]; exact h0
theorem i_addGuard (h : inv N (S, F)) {g o bd : Int32} {gn : Nat} (h8 : S 8 = nI gn) (h1 : 0 ≤ g ∧ g ≤ 4) (h2 : 0 ≤ o ∧ o ≤ 4) (h3 : 1 ≤ bd ∧ bd ≤ 99) (h4 : gn < 4) :
    inv N (upd S 8 (S 8 + 1), zU (zU (zU F 7 (upd (F 7) (S 8).toNatClampNeg g)) 8 (upd (F 8) (S 8).toNatClampNeg o)) 9 (upd (F 9) (S 8).toNatClampNeg bd)) := by
  have ek : (S 8).toNatClampNeg = gn := by rw [h8]; exact nI_clamp (by omega)
  have e1 : S 8 + 1 = nI (gn + 1) := by rw [h8]; exact nI_add gn 1
  rw [ek, e1]
  refine inv_8 h (by rw [nI_toInt (by omega)]; omega) ⟨fun c hc => ?_, fun d hd => ?_⟩ ?_ ?_ ?_
  · have h5 := h.2.1.1 c hc
    show ivC (zU _ 9 _) c
    unfold ivC at h5 ⊢; simp (disch := omega) only [zU_o]; exact h5
  · have h5 := h.2.1.2 d hd
    show ivG (zU _ 9 _) d
    unfold ivG at h5 ⊢
    rw [zU_o _ _ (by omega : ¬ 7 = 9), zU_o _ _ (by omega : ¬ 7 = 8), zU_s, zU_o _ _ (by omega : ¬ 8 = 9), zU_s, zU_s]
    by_cases e : d = gn
    · rw [e, upd_s, upd_s, upd_s]
      have a1 := q_rg (m := 0) (M := 4) h1 rfl rfl
      have a2 := q_rg (m := 0) (M := 4) h2 rfl rfl
      have a3 := q_rg (m := 1) (M := 99) h3 rfl rfl
      omega
    · rw [upd_o _ _ e, upd_o _ _ e, upd_o _ _ e]; exact h5
  · simp (disch := omega) only [zU_o]
  · simp (disch := omega) only [zU_o]
  · simp (disch := omega) only [zU_o]
theorem i_removeGuard (h : inv N (S, F)) {k gn : Nat} (hg4 : gn ≤ 4) (hk : k < gn) :
    inv N (upd S 8 (nI (gn - 1)), zU (zU (zU F 7 (toF (gn - 1 - k) k F 7)) 8 (toF (gn - 1 - k) k F 8)) 9 (toF (gn - 1 - k) k F 9)) := by
  have tv := fun r hr j => toF_v (gn - 1 - k) k F r hr j
  refine inv_8 h (by rw [nI_toInt (by omega)]; omega) ⟨fun c hc => ?_, fun d hd => ?_⟩ ?_ ?_ ?_
  · have h5 := h.2.1.1 c hc
    show ivC (zU _ 9 _) c
    unfold ivC at h5 ⊢; simp (disch := omega) only [zU_o]; exact h5
  · have h5 := h.2.1.2
    show ivG (zU _ 9 _) d
    unfold ivG
    rw [zU_o _ _ (by omega : ¬ 7 = 9), zU_o _ _ (by omega : ¬ 7 = 8), zU_s, zU_o _ _ (by omega : ¬ 8 = 9), zU_s, zU_s, tv 7 (by omega) d, tv 8 (by omega) d, tv 9 (by omega) d]
    by_cases e : k ≤ d ∧ d < k + (gn - 1 - k)
    · rw [if_pos e, if_pos e, if_pos e]; exact h5 (d + 1) (by omega)
    · rw [if_neg e, if_neg e, if_neg e]; exact h5 d hd
  · simp (disch := omega) only [zU_o]
  · simp (disch := omega) only [zU_o]
  · simp (disch := omega) only [zU_o]
/-! the first state -/
theorem inv_0 : inv 0 (zS0, zF0) := by
  refine ⟨?_, ⟨?_, ?_⟩, ?_, ?_, ?_⟩
  · show ivS 0 zS0
    unfold ivS; decide +kernel
  · intro c hc
    show ivC zF0 c
    unfold ivC; revert hc; revert c; decide +kernel
  · intro g hg
    show ivG zF0 g
    unfold ivG; revert hg; revert g; decide +kernel
  · show acI zS0
    unfold acI; decide +kernel
  · show acF zS0 zF0
    unfold acF; decide +kernel
  · show zS0 0 = 8
    decide +kernel
end OPS
