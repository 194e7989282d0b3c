/-! pure rows of whole, that need no reference -/
section PUR
variable {x : Int32} {S : Nat → Int32} {F : Nat → Nat → Int32} {N : Int}
theorem p_add {x y : Int32} (h : -2147483648 ≤ x.toInt + y.toInt ∧ x.toInt + y.toInt ≤ 2147483647) : (x + y).toInt = x.toInt + y.toInt := by
  rw [Int32.toInt_add]; exact Int.bmod_eq_of_le (by omega) (by omega)
theorem p_sub {x y : Int32} (h : -2147483648 ≤ x.toInt - y.toInt ∧ x.toInt - y.toInt ≤ 2147483647) : (x - y).toInt = x.toInt - y.toInt := by
  rw [Int32.toInt_sub]; exact Int.bmod_eq_of_le (by omega) (by omega)
theorem p_mul {x y : Int32} (h : -2147483648 ≤ x.toInt * y.toInt ∧ x.toInt * y.toInt ≤ 2147483647) : (x * y).toInt = x.toInt * y.toInt := by
  rw [Int32.toInt_mul]; exact Int.bmod_eq_of_le (by omega) (by omega)
theorem p_div {x y : Int32} (h0 : 0 ≤ x.toInt) (h1 : 0 < y.toInt) : (x / y).toInt = x.toInt / y.toInt := by
  have h2 := Int32.toInt_lt x
  have h3 : x.toInt / y.toInt ≤ x.toInt := Int.ediv_le_self _ h0
  have h4 : 0 ≤ x.toInt / y.toInt := Int.ediv_nonneg h0 (by omega)
  rw [Int32.toInt_div, Int.tdiv_eq_ediv_of_nonneg h0]
  exact Int.bmod_eq_of_le (by omega) (by omega)
theorem p_le {x y : Int32} : x ≤ y ↔ x.toInt ≤ y.toInt := Int32.le_iff_toInt_le
theorem p_lt {x y : Int32} : x < y ↔ x.toInt < y.toInt := Int32.lt_iff_toInt_lt
theorem p_eq {x y : Int32} : x = y ↔ x.toInt = y.toInt := Int32.toInt_inj.symm
theorem p_max (x y : Int32) : (zmax x y).toInt = max x.toInt y.toInt := by
  unfold zmax
  by_cases h : x < y
  · rw [if_pos h]; have := p_lt.mp h; omega
  · rw [if_neg h]; have := mt p_lt.mpr h; omega
theorem p_min (x y : Int32) : (zmin x y).toInt = min x.toInt y.toInt := by
  unfold zmin
  by_cases h : y < x
  · rw [if_pos h]; have := p_lt.mp h; omega
  · rw [if_neg h]; have := mt p_lt.mpr h; omega
theorem p_clamp (x : Int32) : x.toNatClampNeg = x.toInt.toNat := rfl
theorem p_nI (x : Int32) (h : 0 ≤ x.toInt) : nI x.toInt.toNat = x := p_eq.mpr (by have := Int32.toInt_lt x; rw [nI_toInt (by omega)]; omega)
theorem p_nN (x : Int32) (h : 0 ≤ x.toInt) : nI (nN x) = x := p_nI x h
theorem p_0 : (0 : Int32).toInt = 0 := rfl
theorem p_1 : (1 : Int32).toInt = 1 := rfl
theorem upd_s (f : Nat → Int32) (k : Nat) (x : Int32) : upd f k x k = x := if_pos rfl
theorem upd_o (f : Nat → Int32) {k j : Nat} (x : Int32) (h : ¬ j = k) : upd f k x j = f j := if_neg h
theorem upd_cm (f : Nat → Int32) {i j : Nat} (x y : Int32) (h : ¬ i = j) : upd (upd f i x) j y = upd (upd f j y) i x := by
  funext k
  unfold upd
  by_cases h1 : k = i <;> by_cases h2 : k = j
  · omega
  · rw [if_neg h2, if_pos h1, if_pos h1]
  · rw [if_pos h2, if_neg h1, if_pos h2]
  · rw [if_neg h2, if_neg h1, if_neg h1, if_neg h2]
theorem upd_w (f : Nat → Int32) (i : Nat) (x y : Int32) : upd (upd f i x) i y = upd f i y := by
  funext k
  unfold upd
  by_cases h1 : k = i
  · rw [if_pos h1, if_pos h1]
  · rw [if_neg h1, if_neg h1, if_neg h1]
theorem upd_id (f : Nat → Int32) (i : Nat) : upd f i (f i) = f := by
  funext k
  unfold upd
  by_cases h1 : k = i
  · rw [if_pos h1, h1]
  · rw [if_neg h1]
theorem zU_s (F : Nat → Nat → Int32) (r : Nat) (g : Nat → Int32) : zU F r g r = g := if_pos rfl
theorem zU_o (F : Nat → Nat → Int32) {r k : Nat} (g : Nat → Int32) (h : ¬ k = r) : zU F r g k = F k := if_neg h
theorem zU_cm (F : Nat → Nat → Int32) {i j : Nat} (x y : Nat → Int32) (h : ¬ i = j) : zU (zU F i x) j y = zU (zU F j y) i x := by
  funext k
  unfold zU
  by_cases h1 : k = i <;> by_cases h2 : k = j
  · omega
  · rw [if_neg h2, if_pos h1, if_pos h1]
  · rw [if_pos h2, if_neg h1, if_pos h2]
  · rw [if_neg h2, if_neg h1, if_neg h1, if_neg h2]
def ivS (N : Int) (S : Nat → Int32) : Prop :=
  (2 ≤ (S 0).toInt ∧ (S 0).toInt ≤ 16) ∧ (0 ≤ (S 1).toInt ∧ (S 1).toInt < (S 0).toInt) ∧ (0 ≤ (S 2).toInt ∧ (S 2).toInt ≤ 19) ∧ (1 ≤ (S 3).toInt ∧ (S 3).toInt ≤ 20) ∧ (0 ≤ (S 5).toInt ∧ (S 5).toInt ≤ 9999) ∧ (100 ≤ (S 6).toInt ∧ (S 6).toInt ≤ 9999) ∧ (0 ≤ (S 7).toInt ∧ (S 7).toInt ≤ 500) ∧ (0 ≤ (S 8).toInt ∧ (S 8).toInt ≤ 4) ∧ (0 ≤ (S 9).toInt ∧ (S 9).toInt ≤ N) ∧ (0 ≤ (S 10).toInt ∧ (S 10).toInt ≤ (S 9).toInt) ∧ (0 ≤ (S 11).toInt ∧ (S 11).toInt ≤ (S 9).toInt) ∧ (1000 ≤ (S 12).toInt ∧ (S 12).toInt ≤ 1000 + 500 * (S 9).toInt)
def ivC (F : Nat → Nat → Int32) (c : Nat) : Prop := (0 ≤ (F 0 c).toInt ∧ (F 0 c).toInt < 65536) ∧ (0 ≤ (F 1 c).toInt ∧ (F 1 c).toInt ≤ 100) ∧ (1 ≤ (F 2 c).toInt ∧ (F 2 c).toInt ≤ 9) ∧ (1 ≤ (F 3 c).toInt ∧ (F 3 c).toInt ≤ 50) ∧ (0 ≤ (F 4 c).toInt ∧ (F 4 c).toInt ≤ 20)
def ivG (F : Nat → Nat → Int32) (g : Nat) : Prop := (0 ≤ (F 7 g).toInt ∧ (F 7 g).toInt < 5) ∧ (0 ≤ (F 8 g).toInt ∧ (F 8 g).toInt < 5) ∧ (0 ≤ (F 9 g).toInt ∧ (F 9 g).toInt ≤ 99)
def ivF (F : Nat → Nat → Int32) : Prop := (∀ c, c < 5 → ivC F c) ∧ (∀ g, g < 4 → ivG F g)
theorem ivF_u {F : Nat → Nat → Int32} (h : ivF F) {r : Nat} (g : Nat → Int32) (h0 : ¬ r = 0) (h1 : ¬ r = 1) (h2 : ¬ r = 2) (h3 : ¬ r = 3) (h4 : ¬ r = 4) (h7 : ¬ r = 7) (h8 : ¬ r = 8) (h9 : ¬ r = 9) : ivF (zU F r g) := by
  refine ⟨fun c hc => ?_, fun c hc => ?_⟩
  · unfold ivC; rw [zU_o _ _ (Ne.symm h0), zU_o _ _ (Ne.symm h1), zU_o _ _ (Ne.symm h2), zU_o _ _ (Ne.symm h3), zU_o _ _ (Ne.symm h4)]; exact h.1 c hc
  · unfold ivG; rw [zU_o _ _ (Ne.symm h7), zU_o _ _ (Ne.symm h8), zU_o _ _ (Ne.symm h9)]; exact h.2 c hc
theorem ivF_1 {F : Nat → Nat → Int32} (h : ivF F) (c : Nat) (v : Int32) (hv : 0 ≤ v.toInt ∧ v.toInt ≤ 100) : ivF (zU F 1 (upd (F 1) c v)) := by
  refine ⟨fun d hd => ?_, fun d hd => ?_⟩
  · have h1 := h.1 d hd
    unfold ivC at h1 ⊢; rw [zU_o _ _ (by omega), zU_s, zU_o _ _ (by omega), zU_o _ _ (by omega), zU_o _ _ (by omega)]
    refine ⟨h1.1, ?_, h1.2.2⟩
    unfold upd; by_cases e : d = c
    · rw [if_pos e]; exact hv
    · rw [if_neg e]; exact h1.2.1
  · unfold ivG; rw [zU_o _ _ (by omega), zU_o _ _ (by omega), zU_o _ _ (by omega)]; exact h.2 d hd
abbrev tkA (S : Nat → Int32) : Nat → Int32 := airCmp (upd S 9 (S 9 + 1))
theorem tkA_v {k : Nat} (S : Nat → Int32) (h5 : ¬ k = 5) (h9 : ¬ k = 9) (h12 : ¬ k = 12) (h13 : ¬ k = 13) : tkA S k = S k := by
  unfold tkA airCmp airOff; rw [upd_o _ _ h13, upd_o _ _ h5, upd_o _ _ h12, upd_o _ _ h5, upd_o _ _ h9]
theorem tkA_9 (S : Nat → Int32) : tkA S 9 = S 9 + 1 := by
  unfold tkA airCmp airOff; rw [upd_o _ _ (by omega), upd_o _ _ (by omega), upd_o _ _ (by omega), upd_o _ _ (by omega), upd_s]
theorem tkA_12 (S : Nat → Int32) : tkA S 12 = S 12 + S 7 := by
  unfold tkA airCmp airOff; rw [upd_o _ _ (by omega), upd_o _ _ (by omega), upd_s, upd_o _ _ (by omega), upd_o _ _ (by omega)]
theorem tkA_5 (S : Nat → Int32) : tkA S 5 = S 5 + S 7 - aoff (S 5 + S 7) (S 6) := by
  unfold tkA airCmp airOff
  rw [upd_o _ _ (by omega), upd_s, upd_o _ _ (by omega : ¬ 5 = 12), upd_s, upd_o _ _ (by omega : ¬ 6 = 12), upd_o _ _ (by omega : ¬ 6 = 5), upd_o _ _ (by omega : ¬ 6 = 9), upd_o _ _ (by omega : ¬ 5 = 9), upd_o _ _ (by omega : ¬ 7 = 9)]
theorem iv_A (hS : ivS N S) (hN : N ≤ 2000000) : ivS (N + 1) (tkA S) := by
  unfold ivS at hS ⊢
  rw [tkA_5, tkA_9, tkA_12, tkA_v S (k := 0) (by omega) (by omega) (by omega) (by omega), tkA_v S (k := 1) (by omega) (by omega) (by omega) (by omega), tkA_v S (k := 2) (by omega) (by omega) (by omega) (by omega), tkA_v S (k := 3) (by omega) (by omega) (by omega) (by omega), tkA_v S (k := 6) (by omega) (by omega) (by omega) (by omega), tkA_v S (k := 7) (by omega) (by omega) (by omega) (by omega), tkA_v S (k := 8) (by omega) (by omega) (by omega) (by omega), tkA_v S (k := 10) (by omega) (by omega) (by omega) (by omega), tkA_v S (k := 11) (by omega) (by omega) (by omega) (by omega)]
  obtain ⟨h0, h1, h2, h3, h5, h6, h7, h8, h9, h10, h11, h12⟩ := hS
  have e9 : (S 9 + 1).toInt = (S 9).toInt + 1 := by rw [p_add (by rw [p_1]; omega), p_1]
  have e12 : (S 12 + S 7).toInt = (S 12).toInt + (S 7).toInt := p_add (by omega)
  have e5 : (S 5 + S 7).toInt = (S 5).toInt + (S 7).toInt := p_add (by omega)
  have e56 : (S 5 + S 7 - S 6).toInt = (S 5).toInt + (S 7).toInt - (S 6).toInt := by rw [p_sub (by omega), e5]
  have eo : (aoff (S 5 + S 7) (S 6)).toInt = max ((S 5).toInt + (S 7).toInt - (S 6).toInt) 0 := by unfold aoff; rw [p_max, e56, p_0]
  have e5o : (S 5 + S 7 - aoff (S 5 + S 7) (S 6)).toInt = (S 5).toInt + (S 7).toInt - max ((S 5).toInt + (S 7).toInt - (S 6).toInt) 0 := by rw [p_sub (by omega), e5, eo]
  rw [e9, e12, e5o]
  omega
theorem q_1 (x : Int32) (h : -2147483648 ≤ x.toInt ∧ x.toInt < 2147483647) : (x + 1).toInt = x.toInt + 1 := by
  rw [p_add (by rw [p_1]; omega), p_1]
theorem nxt_v (hS : ivS N S) : 0 ≤ (nxt S).toInt ∧ (nxt S).toInt < (S 0).toInt := by
  obtain ⟨h0, h1, -⟩ := hS
  have e1 := q_1 (S 1) (by omega)
  unfold nxt
  by_cases h : S 0 ≤ S 1 + 1
  · rw [if_pos h, p_0]; omega
  · rw [if_neg h]; have h' := mt p_le.mpr h; omega
theorem iv_md (hS : ivS (N + 1) S) (h9 : 1 ≤ (S 9).toInt) (h10 : (S 10).toInt < (S 9).toInt) (h11 : (S 11).toInt < (S 9).toInt) (hN : N ≤ 2000000) : ivS (N + 1) (mdS S) := by
  have hv := nxt_v hS
  unfold mdS
  have hS' := hS
  obtain ⟨h0, h1, h2, h3, h5, h6, h7, h8, h9', h10', h11', h12⟩ := hS
  have e2 := q_1 (S 2) (by omega)
  have e10 := q_1 (S 10) (by omega)
  have e11 := q_1 (S 11) (by omega)
  by_cases c1 : S 3 ≤ S 2 + 1
  · rw [if_pos c1]
    by_cases c2 : S 4 ≤ S 5
    · rw [if_pos c2]
      by_cases c3 : nxt S ≤ 0
      · rw [if_pos c3]
        unfold ivS
        simp (disch := omega) only [upd_s, upd_o]
        rw [p_0, e10]; omega
      · rw [if_neg c3]
        unfold ivS
        simp (disch := omega) only [upd_s, upd_o]
        rw [p_0]; omega
    · rw [if_neg c2]
      unfold ivS
      simp (disch := omega) only [upd_s, upd_o]
      rw [p_0, e11]; omega
  · rw [if_neg c1]
    have := mt p_le.mpr c1
    unfold ivS
    simp (disch := omega) only [upd_s, upd_o]
    rw [e2]; omega
theorem ivF_md (hF : ivF F) : ivF (mdF S F) := by
  unfold mdF chtCnt
  split
  · split
    · exact hF
    · exact ivF_u hF _ (by omega) (by omega) (by omega) (by omega) (by omega) (by omega) (by omega) (by omega)
  · exact hF
theorem md_9 (S : Nat → Int32) : mdS S 9 = S 9 := by
  unfold mdS
  split
  · split
    · split
      · simp (disch := omega) only [upd_o]
      · simp (disch := omega) only [upd_o]
    · simp (disch := omega) only [upd_o]
  · simp (disch := omega) only [upd_o]
theorem md_10 (S : Nat → Int32) : mdS S 10 = S 10 + bI (mdR S = 3) := by
  unfold mdS mdR
  split
  · split
    · split
      · rw [upd_s, bI_t rfl]
      · simp (disch := omega) only [upd_o]; rw [bI_f (by decide), Int32.add_zero]
    · simp (disch := omega) only [upd_o]; rw [bI_f (by decide), Int32.add_zero]
  · simp (disch := omega) only [upd_o]; rw [bI_f (by decide), Int32.add_zero]
theorem md_11 (S : Nat → Int32) : mdS S 11 = S 11 + bI (mdR S = 1) := by
  unfold mdS mdR
  split
  · split
    · split
      · simp (disch := omega) only [upd_o]; rw [bI_f (by decide), Int32.add_zero]
      · simp (disch := omega) only [upd_o]; rw [bI_f (by decide), Int32.add_zero]
    · rw [upd_s, bI_t rfl]
  · simp (disch := omega) only [upd_o]; rw [bI_f (by decide), Int32.add_zero]
theorem rbgL_le (hF : ivF F) {c : Nat} (hc : c < 5) : ∀ g, g ≤ 4 → (rbgL F c g).toInt ≤ 100 - (F 1 c).toInt ∧ -100 ≤ (rbgL F c g).toInt
  | 0, _ => by
    have h1 := (hF.1 c hc).2.1
    have h100 : (100 : Int32).toInt = 100 := rfl
    show (100 - F 1 c).toInt ≤ _ ∧ _ ≤ (100 - F 1 c).toInt
    rw [p_sub (by omega)]; omega
  | g + 1, hg => by
    have ih := rbgL_le hF hc g (by omega)
    have h1 := (hF.1 c hc).2.1
    have h9 := (hF.2 g (by omega)).2.2
    unfold rbgL
    split
    · rw [p_min, p_sub (by omega)]; omega
    · exact ih
theorem rbg_v (hF : ivF F) {c : Nat} (hc : c < 5) : 0 ≤ (rbg S F c).toInt ∧ (rbg S F c).toInt ≤ 100 - (F 1 c).toInt := by
  unfold rbg
  have h1 := (hF.1 c hc).2.1
  have hl := rbgL_le hF hc (rbgN (S 8)) (by show min _ 4 ≤ 4; omega)
  rw [p_max, p_0]; omega
theorem far_v (hF : ivF F) (h5 : 0 ≤ (S 5).toInt ∧ (S 5).toInt ≤ 9999) {c : Nat} (hc : c < 5) : 0 ≤ (moFar S F c).toInt ∧ (moFar S F c).toInt ≤ 100 - (F 1 c).toInt ∧ (F 2 c * moFar S F c).toInt = (F 2 c).toInt * (moFar S F c).toInt ∧ 0 ≤ (F 2 c).toInt * (moFar S F c).toInt ∧ (F 2 c).toInt * (moFar S F c).toInt ≤ (S 5).toInt := by
  have hb := rbg_v (S := S) hF hc
  have hcc := hF.1 c hc
  have h2 := hcc.2.2.1
  have h3 := hcc.2.2.2.1
  have ha : (airEnough (S 5) (F 2 c)).toInt = (S 5).toInt / (F 2 c).toInt := by
    unfold airEnough
    rw [if_neg (fun q => absurd (p_le.mp q) (by rw [p_0]; omega)), p_div h5.1 (by omega)]
  have hq : 0 ≤ (S 5).toInt / (F 2 c).toInt := Int.ediv_nonneg h5.1 (by omega)
  have hm : (moFar S F c).toInt = min (min (F 3 c).toInt (rbg S F c).toInt) ((S 5).toInt / (F 2 c).toInt) := by
    unfold moFar; rw [p_min, p_min, ha]
  have h0 : 0 ≤ (moFar S F c).toInt := by omega
  have hle : (moFar S F c).toInt ≤ (S 5).toInt / (F 2 c).toInt := by omega
  have hmul : (F 2 c).toInt * (moFar S F c).toInt ≤ (S 5).toInt := by
    have h9 : (F 2 c).toInt * (moFar S F c).toInt ≤ (F 2 c).toInt * ((S 5).toInt / (F 2 c).toInt) := Int.mul_le_mul_of_nonneg_left hle (by omega)
    have h10 : (F 2 c).toInt * ((S 5).toInt / (F 2 c).toInt) ≤ (S 5).toInt := Int.mul_ediv_self_le (by omega)
    omega
  have hn : 0 ≤ (F 2 c).toInt * (moFar S F c).toInt := Int.mul_nonneg (by omega) h0
  exact ⟨h0, by omega, p_mul (by omega), hn, hmul⟩
theorem ivS_u14 (h : ivS N S) (v : Int32) : ivS N (upd S 14 v) := by
  unfold ivS at h ⊢; simp (disch := omega) only [upd_o]; exact h
theorem ivS_u15 (h : ivS N S) (v : Int32) : ivS N (upd S 15 v) := by
  unfold ivS at h ⊢; simp (disch := omega) only [upd_o]; exact h
theorem ivS_u5 (h : ivS N S) (v : Int32) (hv : 0 ≤ v.toInt ∧ v.toInt ≤ 9999) : ivS N (upd S 5 v) := by
  unfold ivS at h ⊢; simp (disch := omega) only [upd_o, upd_s]; obtain ⟨h0, h1, h2, h3, h5, h6⟩ := h; exact ⟨h0, h1, h2, h3, hv, h6⟩
theorem mvP_k (p : zP) (c : Nat) {k : Nat} (h5 : ¬ k = 5) (h14 : ¬ k = 14) : (mvP p c).1 k = p.1 k := by
  unfold mvP
  split
  · show moS p.1 p.2 c k = _
    unfold moS airUse; rw [upd_o _ _ h14, upd_o _ _ h5]
  · rfl
theorem mvN_k (p : zP) {k : Nat} (h5 : ¬ k = 5) (h14 : ¬ k = 14) : ∀ c, (mvN p c).1 k = p.1 k
  | 0 => rfl
  | c + 1 => by show (mvP (mvN p c) c).1 k = _; rw [mvP_k _ _ h5 h14, mvN_k p h5 h14 c]
theorem lkN_k (p : zP) {k : Nat} (h5 : ¬ k = 5) (h15 : ¬ k = 15) : ∀ c, (lkN p c).1 k = p.1 k
  | 0 => rfl
  | c + 1 => by
    show lkS (lkN p c).1 (lkN p c).2 c k = _
    unfold lkS
    split
    · unfold airLeak; rw [upd_o _ _ h15, upd_o _ _ h5, lkN_k p h5 h15 c]
    · exact lkN_k p h5 h15 c
theorem ntN_1 (p : zP) : ∀ c, (ntN p c).1 = p.1
  | 0 => rfl
  | c + 1 => ntN_1 p c
theorem tkP_k (p : zP) {k : Nat} (h5 : ¬ k = 5) (h14 : ¬ k = 14) (h15 : ¬ k = 15) : (tkP p).1 k = mdS (tkA p.1) k := by
  unfold tkP
  rw [ntN_1, lkN_k _ h5 h15, mvN_k _ h5 h14]
  rfl
theorem tk_9 (p : zP) : (tkP p).1 9 = p.1 9 + 1 := by
  rw [tkP_k p (by omega) (by omega) (by omega), md_9, tkA_9]
theorem tk_10 (p : zP) : (tkP p).1 10 = p.1 10 + bI (tkR p = 3) := by
  rw [tkP_k p (by omega) (by omega) (by omega), md_10, tkA_v p.1 (by omega) (by omega) (by omega) (by omega)]; rfl
theorem tk_11 (p : zP) : (tkP p).1 11 = p.1 11 + bI (tkR p = 1) := by
  rw [tkP_k p (by omega) (by omega) (by omega), md_11, tkA_v p.1 (by omega) (by omega) (by omega) (by omega)]; rfl
theorem ivS_w {M : Int} (h : ivS N S) (hM : N ≤ M) : ivS M S := by
  unfold ivS at h ⊢; omega
theorem q_n1 {k : Nat} (h : k < 2 ^ 31) : ¬ nI k = -1 := fun e => by
  have e1 := p_eq.mp e
  rw [nI_toInt h, show ((-1 : Int32)).toInt = -1 from rfl] at e1
  omega
theorem tkN_f (p : zP) : ∀ k, tkN (tkP p) k = tkN p (k + 1)
  | 0 => rfl
  | k + 1 => by show tkP (tkN (tkP p) k) = tkP (tkN p (k + 1)); rw [tkN_f p k]
theorem b_or (a b : Nat) : nI a ||| nI b = nI (a ||| b) := by
  apply Int32.toBitVec_inj.mp
  show BitVec.ofNat 32 a ||| BitVec.ofNat 32 b = BitVec.ofNat 32 (a ||| b)
  exact (BitVec.ofNat_or).symm
theorem b_and (a : Nat) (y : Int32) (ha : a < 2 ^ 31) : nI a &&& y = nI (a &&& y.toBitVec.toNat) := by
  apply Int32.toBitVec_inj.mp
  show BitVec.ofNat 32 a &&& y.toBitVec = BitVec.ofNat 32 (a &&& y.toBitVec.toNat)
  apply BitVec.eq_of_toNat_eq
  have h1 : a &&& y.toBitVec.toNat ≤ a := Nat.and_le_left
  rw [BitVec.toNat_and, BitVec.toNat_ofNat, BitVec.toNat_ofNat, Nat.mod_eq_of_lt (by omega), Nat.mod_eq_of_lt (by omega)]
theorem b_sh : ∀ i : Nat, i < 16 → (1 : Int32) <<< (nI i &&& 31) = nI (2 ^ i) := by decide
theorem b_of {x : Int32} (h : 0 ≤ x.toInt ∧ x.toInt < 65536) : ∃ a, a < 65536 ∧ x = nI a := ⟨x.toInt.toNat, by omega, (p_nI x h.1).symm⟩
theorem b_to {a : Nat} (h : a < 65536) : 0 ≤ (nI a).toInt ∧ (nI a).toInt < 65536 := by rw [nI_toInt (by omega)]; omega
def trB (t : Nat → Int32) : Prop := ∀ c, c < 5 → 0 ≤ (t c).toInt ∧ (t c).toInt < 65536
theorem trB_u {t : Nat → Int32} (h : trB t) (k : Nat) {v : Int32} (hv : 0 ≤ v.toInt ∧ v.toInt < 65536) : trB (upd t k v) := by
  intro c hc
  by_cases e : c = k
  · rw [e, upd_s]; exact hv
  · rw [upd_o _ _ e]; exact h c hc
def nB (a s : Nat) : Nat := (a >>> s) &&& 1
def jN1 (x : Nat) : Nat := x - ((x >>> 1) &&& 1431655765)
def jN2 (x : Nat) : Nat := (x &&& 858993459) + ((x >>> 2) &&& 858993459)
def jN3 (x : Nat) : Nat := (x + (x >>> 4)) &&& 252645135
def jN4 (x : Nat) : Nat := x + (x >>> 8)
def jN5 (x : Nat) : Nat := x + (x >>> 16)
def jN (x : Nat) : Nat := jN5 (jN4 (jN3 (jN2 (jN1 x)))) &&& 63
def frc (x : Nat) (k : Nat → Bool) : Bool := Nat.rec (motive := fun _ => Bool) (k 0) (fun n _ => k (Nat.succ n)) x
def jall (n : Nat) (p : Nat → Bool) : Bool := Nat.rec (motive := fun _ => Bool) true (fun n r => cond (p n) r false) n
theorem frc_e (x : Nat) (k : Nat → Bool) : frc x k = k x := by cases x <;> rfl
theorem jall_e {p : Nat → Bool} : ∀ n, jall n p = true → ∀ i, i < n → p i = true
  | 0, _, i, h => absurd h (by omega)
  | n + 1, h, i, hi => by
    have h' : cond (p n) (jall n p) false = true := h
    cases e : p n with
    | false => rw [e] at h'; exact absurd (show false = true from h') (by decide)
    | true =>
      rw [e] at h'
      by_cases ei : i = n
      · rw [ei]; exact e
      · exact jall_e n h' i (by omega)
theorem b_us (a k : Nat) (ha : a < 2 ^ 31) (c : UInt32) (hc : c.toNat % 32 = k) : ((nI a).toUInt32 >>> c).toInt32 = nI (a >>> k) := by
  apply Int32.toBitVec_inj.mp
  apply BitVec.eq_of_toNat_eq
  show ((nI a).toUInt32 >>> c).toNat = (BitVec.ofNat 32 (a >>> k)).toNat
  have hle : a >>> k ≤ a := Nat.shiftRight_le a k
  have e : (nI a).toUInt32.toNat = a := by
    show (BitVec.ofNat 32 a).toNat = a
    rw [BitVec.toNat_ofNat, Nat.mod_eq_of_lt (by omega)]
  rw [UInt32.toNat_shiftRight, hc, e, BitVec.toNat_ofNat, Nat.mod_eq_of_lt (by omega)]
theorem nI_sb {a b : Nat} (h : b ≤ a) (ha : a < 2 ^ 31) : nI a - nI b = nI (a - b) := p_eq.mpr (by
  have e1 := nI_toInt ha
  have e2 := nI_toInt (n := b) (by omega)
  rw [p_sub (by omega), e1, e2, nI_toInt (by omega)]; omega)
theorem jbc_N {a : Nat} (ha : a < 65536) : jbc (nI a) = nI (jN a) := by
  have l1 : jN1 a ≤ a := Nat.sub_le _ _
  have e1 : jb1 (nI a) = nI (jN1 a) := by
    unfold jb1 jN1
    rw [b_us a 1 (by omega) _ (by decide), b_and _ _ (by have := Nat.shiftRight_le a 1; omega)]
    exact nI_sb (Nat.le_trans Nat.and_le_left (Nat.shiftRight_le a 1)) (by omega)
  have l2 : jN2 (jN1 a) ≤ 1717986918 := by
    unfold jN2
    have x1 : jN1 a &&& 858993459 ≤ 858993459 := Nat.and_le_right
    have x2 : jN1 a >>> 2 &&& 858993459 ≤ 858993459 := Nat.and_le_right
    omega
  have e2 : jb2 (nI (jN1 a)) = nI (jN2 (jN1 a)) := by
    unfold jb2 jN2
    rw [b_us _ 2 (by omega) _ (by decide), b_and _ _ (by omega), b_and _ _ (by have := Nat.shiftRight_le (jN1 a) 2; omega), nI_add]
    rfl
  have l3 : jN3 (jN2 (jN1 a)) ≤ 252645135 := Nat.and_le_right
  have e3 : jb3 (nI (jN2 (jN1 a))) = nI (jN3 (jN2 (jN1 a))) := by
    unfold jb3 jN3
    have hs : jN2 (jN1 a) >>> 4 = jN2 (jN1 a) / 16 := Nat.shiftRight_eq_div_pow _ 4
    rw [b_us _ 4 (by omega) _ (by decide), nI_add, b_and _ _ (by rw [hs]; omega)]
    rfl
  have l4 : jN4 (jN3 (jN2 (jN1 a))) ≤ 505290270 := by
    unfold jN4
    have := Nat.shiftRight_le (jN3 (jN2 (jN1 a))) 8
    omega
  have e4 : jb4 (nI (jN3 (jN2 (jN1 a)))) = nI (jN4 (jN3 (jN2 (jN1 a)))) := by
    unfold jb4
    rw [b_us _ 8 (by omega) _ (by decide), nI_add]
    rfl
  have e5 : jb5 (nI (jN4 (jN3 (jN2 (jN1 a))))) = nI (jN5 (jN4 (jN3 (jN2 (jN1 a))))) := by
    unfold jb5
    rw [b_us _ 16 (by omega) _ (by decide), nI_add]
    rfl
  unfold jbc
  rw [e1, e2, e3, e4, e5]
  have l5 : jN5 (jN4 (jN3 (jN2 (jN1 a)))) ≤ 1010580540 := by
    unfold jN5
    have := Nat.shiftRight_le (jN4 (jN3 (jN2 (jN1 a)))) 16
    omega
  rw [b_and _ _ (by omega)]
  rfl
theorem b_sm : ∀ s : Nat, s < 16 → ((nI s &&& 31).toBitVec.smod 32).toNat = s := by decide
theorem b_ss (a s : Nat) (ha : a < 65536) (hs : s < 16) : nI a >>> (nI s &&& 31) = nI (a >>> s) := by
  apply Int32.toBitVec_inj.mp
  show BitVec.sshiftRight' (nI a).toBitVec ((nI s &&& 31).toBitVec.smod 32) = BitVec.ofNat 32 (a >>> s)
  show BitVec.sshiftRight (BitVec.ofNat 32 a) ((nI s &&& 31).toBitVec.smod 32).toNat = _
  have hm : (BitVec.ofNat 32 a).msb = false := by
    rw [BitVec.msb_eq_false_iff_two_mul_lt, BitVec.toNat_ofNat, Nat.mod_eq_of_lt (by omega)]; omega
  rw [b_sm s hs, BitVec.sshiftRight_eq_of_msb_false hm]
  apply BitVec.eq_of_toNat_eq
  have hle : a >>> s ≤ a := Nat.shiftRight_le a s
  rw [BitVec.toNat_ushiftRight, BitVec.toNat_ofNat, BitVec.toNat_ofNat, Nat.mod_eq_of_lt (by omega), Nat.mod_eq_of_lt (by omega)]
theorem b_has (a s : Nat) (ha : a < 65536) (hs : s < 16) : (nI a >>> (nI s &&& 31)) &&& 1 = nI (nB a s) := by
  rw [b_ss a s ha hs, b_and _ _ (by have := Nat.shiftRight_le a s; omega)]
  rfl
theorem nB_01 (a s : Nat) : nB a s = 0 ∨ nB a s = 1 := by
  unfold nB; rw [Nat.and_one_is_mod]; omega
theorem put_v {t : Int32} (ht : 0 ≤ t.toInt ∧ t.toInt < 65536) (s : Nat) (hs : s < 16) (th : Int32) : 0 ≤ (camPut t (nI s) th).toInt ∧ (camPut t (nI s) th).toInt < 65536 := by
  obtain ⟨a, ha, rfl⟩ := b_of ht
  unfold camPut
  split
  · rw [b_and _ _ (by omega)]
    exact b_to (Nat.lt_of_le_of_lt Nat.and_le_left ha)
  · rw [b_sh s hs, b_or]
    exact b_to (Nat.or_lt_two_pow (n := 16) ha (Nat.pow_lt_pow_right (by omega) (by omega)))
theorem hNx_e {p : Nat} (hp : p < 4) : hNx p = (p + 1) % 4 := by
  unfold hNx
  by_cases h : p + 1 < 4
  · rw [if_pos h]; omega
  · rw [if_neg h]; omega
theorem hPv_e {p : Nat} (hp : p < 4) : hPv p = (p + 3) % 4 := by
  unfold hPv
  by_cases h : p = 0
  · rw [if_pos h]; omega
  · rw [if_neg h]; omega
theorem kup_s {α : Type} (K : Nat → α) (p : Nat) (x : α) : kup K p x p = x := if_pos rfl
theorem kup_o {α : Type} (K : Nat → α) {p i : Nat} (x : α) (h : ¬ i = p) : kup K p x i = K i := if_neg h
theorem q_k5 {c : Int32} (h : 0 ≤ c ∧ c ≤ 4) : ∃ k, k < 5 ∧ c = nI k ∧ nN c = k := by
  obtain ⟨k, hk, e⟩ := z_nat4 h
  exact ⟨k, hk, e, by rw [e]; exact nN_nI (by omega)⟩
theorem q_stp {st : Int32} (hS : ivS N S) (h : 0 ≤ st ∧ st ≤ S 0 - 1) : ∃ k, k < 16 ∧ st = nI k ∧ nN st = k ∧ (st.toInt < (S 0).toInt) := by
  have h0 := hS.1
  have a := p_le.mp h.1
  have b := p_le.mp h.2
  rw [p_0] at a
  have e1 : (S 0 - 1).toInt = (S 0).toInt - 1 := by rw [p_sub (by rw [p_1]; omega), p_1]
  exact ⟨st.toInt.toNat, by omega, (p_nI st a).symm, rfl, by omega⟩
theorem ivF_0 (h : ivF F) {g : Nat → Int32} (hg : trB g) : ivF (zU F 0 g) := by
  refine ⟨fun c hc => ?_, fun c hc => ?_⟩
  · have h1 := h.1 c hc
    unfold ivC at h1 ⊢; rw [zU_s, zU_o _ _ (by omega), zU_o _ _ (by omega), zU_o _ _ (by omega), zU_o _ _ (by omega)]
    exact ⟨hg c hc, h1.2⟩
  · unfold ivG; rw [zU_o _ _ (by omega), zU_o _ _ (by omega), zU_o _ _ (by omega)]; exact h.2 c hc
theorem ivF_t (h : ivF F) : trB (F 0) := fun c hc => (h.1 c hc).1
theorem ivF_2 (h : ivF F) (c : Nat) {v : Int32} (hv : 1 ≤ v.toInt ∧ v.toInt ≤ 9) : ivF (zU F 2 (upd (F 2) c v)) := by
  refine ⟨fun d hd => ?_, fun d hd => ?_⟩
  · have h1 := h.1 d hd
    unfold ivC at h1 ⊢; rw [zU_o _ _ (by omega), zU_o _ _ (by omega), zU_s, zU_o _ _ (by omega), zU_o _ _ (by omega)]
    refine ⟨h1.1, h1.2.1, ?_, h1.2.2.2⟩
    by_cases e : d = c
    · rw [e, upd_s]; exact hv
    · rw [upd_o _ _ e]; exact h1.2.2.1
  · unfold ivG; rw [zU_o _ _ (by omega), zU_o _ _ (by omega), zU_o _ _ (by omega)]; exact h.2 d hd
theorem ivF_3 (h : ivF F) (c : Nat) {v : Int32} (hv : 1 ≤ v.toInt ∧ v.toInt ≤ 50) : ivF (zU F 3 (upd (F 3) c v)) := by
  refine ⟨fun d hd => ?_, fun d hd => ?_⟩
  · have h1 := h.1 d hd
    unfold ivC at h1 ⊢; rw [zU_o _ _ (by omega), zU_o _ _ (by omega), zU_o _ _ (by omega), zU_s, zU_o _ _ (by omega)]
    refine ⟨h1.1, h1.2.1, h1.2.2.1, ?_, h1.2.2.2.2⟩
    by_cases e : d = c
    · rw [e, upd_s]; exact hv
    · rw [upd_o _ _ e]; exact h1.2.2.2.1
  · unfold ivG; rw [zU_o _ _ (by omega), zU_o _ _ (by omega), zU_o _ _ (by omega)]; exact h.2 d hd
theorem ivF_4 (h : ivF F) (c : Nat) {v : Int32} (hv : 0 ≤ v.toInt ∧ v.toInt ≤ 20) : ivF (zU F 4 (upd (F 4) c v)) := by
  refine ⟨fun d hd => ?_, fun d hd => ?_⟩
  · have h1 := h.1 d hd
    unfold ivC at h1 ⊢; rw [zU_o _ _ (by omega), zU_o _ _ (by omega), zU_o _ _ (by omega), zU_o _ _ (by omega), zU_s]
    refine ⟨h1.1, h1.2.1, h1.2.2.1, h1.2.2.2.1, ?_⟩
    by_cases e : d = c
    · rw [e, upd_s]; exact hv
    · rw [upd_o _ _ e]; exact h1.2.2.2.2
  · unfold ivG; rw [zU_o _ _ (by omega), zU_o _ _ (by omega), zU_o _ _ (by omega)]; exact h.2 d hd
theorem q_rg {v a b : Int32} {m M : Int} (h : a ≤ v ∧ v ≤ b) (ea : a.toInt = m) (eb : b.toInt = M) : m ≤ v.toInt ∧ v.toInt ≤ M := by
  have h1 := p_le.mp h.1; have h2 := p_le.mp h.2; omega
theorem toF_v : ∀ (k g : Nat) (F : Nat → Nat → Int32) (r : Nat), r = 7 ∨ r = 8 ∨ r = 9 → ∀ j, toF k g F r j = if g ≤ j ∧ j < g + k then F r (j + 1) else F r j
  | 0, g, F, r, hr, j => by rw [if_neg (by omega)]; rfl
  | k + 1, g, F, r, hr, j => by
    have ih := toF_v k (g + 1) (toSh F g) r hr j
    have sh : ∀ j, toSh F g r j = if j = g then F r (g + 1) else F r j := by
      intro j
      unfold toSh
      rcases hr with rfl | rfl | rfl
      · rw [zU_o _ _ (by omega), zU_o _ _ (by omega), zU_s]; rfl
      · rw [zU_o _ _ (by omega), zU_s]; rfl
      · rw [zU_s]; rfl
    show toF k (g + 1) (toSh F g) r j = _
    rw [ih, sh, sh]
    by_cases h1 : j = g
    · rw [if_neg (by omega), if_pos h1, if_pos (by omega), h1]
    · by_cases h2 : g + 1 ≤ j ∧ j < g + 1 + k
      · rw [if_pos h2, if_neg (by omega), if_pos (by omega)]
      · rw [if_neg h2, if_neg h1, if_neg (by omega)]
end PUR
