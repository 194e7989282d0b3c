/-! what the law asks of one drum -/
section FCT
variable {S : Nat → Int32} {F : Nat → Nat → Int32} {N : Int}
theorem f_12 (h : inv N (S, F)) : 1000 ≤ (S 12).toInt := h.1.2.2.2.2.2.2.2.2.2.2.2.1
theorem f_hm (h : inv N (S, F)) : ¬ S 12 ≤ 0 := fun q => by
  have a := p_le.mp q
  have b := f_12 h
  rw [p_0] at a
  omega
theorem f_hz (h : inv N (S, F)) : vf_n64 (FP.ddiv (FP.i2d (S 14)) (FP.i2d (S 12))) := db_quo _ _ (by have := f_12 h; omega)
theorem f_ds (h : inv N (S, F)) : Op.cmpValue (FP.dcmp (FP.ddiv (FP.i2d (S 14)) (FP.i2d (S 12))) (FP.ddiv (FP.i2d (S 14)) (FP.i2d (S 12)))) .l = 0 := db_same _ _ (by have := f_12 h; omega)
theorem f_sum (h : inv N (S, F)) (hN : N ≤ 2000000) : S 12 = S 5 + S 13 + S 14 + S 15 := by
  have hS : ivS N S := h.1
  have hI : acI S := h.2.2.1
  obtain ⟨-, -, -, -, k5, -, -, -, k9, -, -, k12⟩ := hS
  obtain ⟨a1, a2, a3, a4, a5⟩ := hI
  have e1 : (S 5 + S 13).toInt = (S 5).toInt + (S 13).toInt := p_add (by omega)
  have e2 : (S 5 + S 13 + S 14).toInt = (S 5).toInt + (S 13).toInt + (S 14).toInt := by rw [p_add (by omega), e1]
  exact p_eq.mpr (by rw [p_add (by omega), e2]; omega)
theorem f_cap (h : inv N (S, F)) : S 5 ≤ S 6 := p_le.mpr h.2.2.1.2.2.2.2
theorem f_out (h : inv N (S, F)) {c : Nat} (hc : c < 5) : 0 ≤ F 1 c ∧ F 1 c ≤ 100 := by
  have h1 := (h.2.1.1 c hc).2.1
  exact ⟨p_le.mpr (by rw [p_0]; exact h1.1), p_le.mpr (by rw [show (100 : Int32).toInt = 100 from rfl]; exact h1.2)⟩
theorem f_room (h : inv N (S, F)) {c : Nat} (hc : c < 5) : 0 ≤ rbg S F c ∧ rbg S F c ≤ 100 - F 1 c := by
  have hr := rbg_v (S := S) (F := F) h.2.1 hc
  have h1 : 0 ≤ (F 1 c).toInt ∧ (F 1 c).toInt ≤ 100 := (h.2.1.1 c hc).2.1
  have h100 : (100 : Int32).toInt = 100 := rfl
  exact ⟨p_le.mpr (by rw [p_0]; exact hr.1), p_le.mpr (by rw [p_sub (by omega)]; omega)⟩
theorem f_14 (h : inv N (S, F)) : S 14 = sm (F 5) 5 := h.2.2.2.1.1
theorem f_15 (h : inv N (S, F)) : S 15 = sm (F 6) 5 := h.2.2.2.1.2.1
theorem f_11 (h : inv N (S, F)) : S 11 = sm (F 11) 8 := h.2.2.2.1.2.2
theorem f_0 (h : inv N (S, F)) : S 0 = 8 := h.2.2.2.2
theorem f_8 (h : inv N (S, F)) : ∃ g : Nat, g ≤ 4 ∧ S 8 = nI g := by
  have h8 : 0 ≤ (S 8).toInt ∧ (S 8).toInt ≤ 4 := h.1.2.2.2.2.2.2.2.1
  exact ⟨(S 8).toInt.toNat, by omega, (p_nI _ h8.1).symm⟩
theorem f_run (h : inv N (S, F)) {k : Nat} (hk : N + k ≤ 2000000) : ¬ (tkN (S, F) k).1 10 - S 10 < 0 := fun q => by
  obtain ⟨h1, m⟩ := inv_n h k hk
  have a := m 10 (by omega) (by omega)
  have b : 0 ≤ ((tkN (S, F) k).1 10).toInt ∧ ((tkN (S, F) k).1 10).toInt ≤ ((tkN (S, F) k).1 9).toInt := h1.1.2.2.2.2.2.2.2.2.2.1
  have c : 0 ≤ (S 10).toInt ∧ (S 10).toInt ≤ (S 9).toInt := h.1.2.2.2.2.2.2.2.2.2.1
  have a' : (S 10).toInt ≤ ((tkN (S, F) k).1 10).toInt := a
  have d := p_lt.mp q
  have u := Int32.toInt_lt ((tkN (S, F) k).1 10)
  rw [p_sub (by omega), p_0] at d
  omega
theorem f_tk (h : inv N (S, F)) {k : Nat} (hk : N + k ≤ 100000) : S 9 + nI k ≤ 100000 := by
  have h9 : 0 ≤ (S 9).toInt ∧ (S 9).toInt ≤ N := h.1.2.2.2.2.2.2.2.2.1
  have e := nI_toInt (n := k) (by omega)
  exact p_le.mpr (by rw [p_add (by omega), e, show (100000 : Int32).toInt = 100000 from rfl]; omega)
theorem tkN_9 : ∀ (k : Nat) (p : zP), (tkN p k).1 9 = p.1 9 + nI k
  | 0, p => by show p.1 9 = p.1 9 + nI 0; rw [nI_0, Int32.add_zero]
  | k + 1, p => by
    show (tkP (tkN p k)).1 9 = _
    rw [tk_9, tkN_9 k p, Int32.add_assoc, show nI k + 1 = nI (k + 1) from nI_add k 1]
/-! a cycle's end -/
theorem md_3 (hS : ivS N S) (h : mdR S = 3) : mdS S 1 = 0 ∧ mdS S 2 = 0 := by
  have hv := nxt_v hS
  unfold mdR at h
  unfold mdS
  by_cases c1 : S 3 ≤ S 2 + 1
  · rw [if_pos c1] at h ⊢
    by_cases c2 : S 4 ≤ S 5
    · rw [if_pos c2] at h ⊢
      by_cases c3 : nxt S ≤ 0
      · rw [if_pos c3]
        refine ⟨?_, ?_⟩
        · rw [upd_o _ _ (by omega), upd_o _ _ (by omega), upd_s]
          exact p_eq.mpr (by have := p_le.mp c3; rw [p_0] at *; omega)
        · rw [upd_o _ _ (by omega), upd_s]
      · rw [if_neg c3] at h; exact absurd h (by decide)
    · rw [if_neg c2] at h; exact absurd h (by decide)
  · rw [if_neg c1] at h; exact absurd h (by decide)
theorem cy_n : ∀ (k t : Nat) (p : zP) (N : Int), inv N p → N + k ≤ 2000000 → ¬ tuR k t p = -1 → ∃ j, j < k ∧ tuR k t p = nI (t + j) ∧ (tkN p (j + 1)).1 10 = p.1 10 + 1 ∧ (tkN p (j + 1)).1 1 = 0 ∧ (tkN p (j + 1)).1 2 = 0
  | 0, t, p, N, _, _, hn => absurd rfl hn
  | k + 1, t, p, N, h, hN, hn => by
    unfold tuR at hn ⊢
    by_cases c : tkR p = 3
    · rw [if_pos c]
      refine ⟨0, by omega, rfl, ?_, ?_⟩
      · show (tkP p).1 10 = _
        rw [tk_10, bI_t c]
      · show (tkP p).1 1 = 0 ∧ (tkP p).1 2 = 0
        rw [tkP_k p (k := 1) (by omega) (by omega) (by omega), tkP_k p (k := 2) (by omega) (by omega) (by omega)]
        exact md_3 (iv_A h.1 (by omega)) c
    · rw [if_neg c] at hn ⊢
      obtain ⟨j, h1, h2, h3, h4⟩ := cy_n k (t + 1) (tkP p) (N + 1) (inv_t h (by omega)).1 (by omega) hn
      refine ⟨j + 1, by omega, by rw [h2]; congr 1; omega, ?_, ?_⟩
      · rw [tkN_f] at h3
        rw [h3, tk_10, bI_f c, Int32.add_zero]
      · rw [tkN_f] at h4
        exact h4
end FCT
