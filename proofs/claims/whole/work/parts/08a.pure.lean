/-! numbers without overflow -/
theorem p_add {x y : Int32} (h : -2147483648 ≤ x.toInt + y.toInt ∧ x.toInt + y.toInt ≤ 2147483647) : (x + y).toInt = x.toInt + y.toInt := by
  rw [Int32.toInt_add]; exact Int.bmod_eq_of_le (by omega) (by omega)
theorem p_sub {x y : Int32} (h : -2147483648 ≤ x.toInt - y.toInt ∧ x.toInt - y.toInt ≤ 2147483647) : (x - y).toInt = x.toInt - y.toInt := by
  rw [Int32.toInt_sub]; exact Int.bmod_eq_of_le (by omega) (by omega)
theorem p_mul {x y : Int32} (h : -2147483648 ≤ x.toInt * y.toInt ∧ x.toInt * y.toInt ≤ 2147483647) : (x * y).toInt = x.toInt * y.toInt := by
  rw [Int32.toInt_mul]; exact Int.bmod_eq_of_le (by omega) (by omega)
theorem p_div {x y : Int32} (h0 : 0 ≤ x.toInt) (h1 : 0 < y.toInt) : (x / y).toInt = x.toInt / y.toInt := by
  have h2 := Int32.toInt_lt x
  have h3 : x.toInt / y.toInt ≤ x.toInt := Int.ediv_le_self _ h0
  have h4 : 0 ≤ x.toInt / y.toInt := Int.ediv_nonneg h0 (by omega)
  rw [Int32.toInt_div, Int.tdiv_eq_ediv_of_nonneg h0]
  exact Int.bmod_eq_of_le (by omega) (by omega)
theorem p_le {x y : Int32} : x ≤ y ↔ x.toInt ≤ y.toInt := Int32.le_iff_toInt_le
theorem p_lt {x y : Int32} : x < y ↔ x.toInt < y.toInt := Int32.lt_iff_toInt_lt
theorem p_eq {x y : Int32} : x = y ↔ x.toInt = y.toInt := Int32.toInt_inj.symm
theorem p_max (x y : Int32) : (zmax x y).toInt = max x.toInt y.toInt := by
  unfold zmax
  by_cases h : x < y
  · rw [if_pos h]; have := p_lt.mp h; omega
  · rw [if_neg h]; have := mt p_lt.mpr h; omega
theorem p_min (x y : Int32) : (zmin x y).toInt = min x.toInt y.toInt := by
  unfold zmin
  by_cases h : y < x
  · rw [if_pos h]; have := p_lt.mp h; omega
  · rw [if_neg h]; have := mt p_lt.mpr h; omega
theorem p_rmn (x y : Int32) : (rmn x y).toInt = min x.toInt y.toInt := by
  unfold rmn
  by_cases h : y ≤ x
  · rw [if_pos h]; have := p_le.mp h; omega
  · rw [if_neg h]; have := mt p_le.mpr h; omega
theorem p_rpos (x : Int32) : (rpos x).toInt = max x.toInt 0 := by
  unfold rpos
  by_cases h : 0 ≤ x
  · rw [if_pos h]; have := p_le.mp h; have h0 : (0 : Int32).toInt = 0 := rfl; omega
  · rw [if_neg h]; have := mt p_le.mpr h; have h0 : (0 : Int32).toInt = 0 := rfl; omega
theorem p_rz (x y : Int32) : rmn x y = zmin x y := p_eq.mpr (by rw [p_rmn, p_min])
theorem p_clamp (x : Int32) : x.toNatClampNeg = x.toInt.toNat := rfl
theorem p_nI (x : Int32) (h : 0 ≤ x.toInt) : nI x.toInt.toNat = x := p_eq.mpr (by have := Int32.toInt_lt x; rw [nI_toInt (by omega)]; omega)
theorem p_nN (x : Int32) (h : 0 ≤ x.toInt) : nI (nN x) = x := p_nI x h
theorem p_0 : (0 : Int32).toInt = 0 := rfl
theorem p_1 : (1 : Int32).toInt = 1 := rfl
theorem upd_s (f : Nat → Int32) (k : Nat) (x : Int32) : upd f k x k = x := if_pos rfl
theorem upd_o (f : Nat → Int32) {k j : Nat} (x : Int32) (h : ¬ j = k) : upd f k x j = f j := if_neg h
theorem upd_cm (f : Nat → Int32) {i j : Nat} (x y : Int32) (h : ¬ i = j) : upd (upd f i x) j y = upd (upd f j y) i x := by
  funext k
  unfold upd
  by_cases h1 : k = i <;> by_cases h2 : k = j
  · omega
  · rw [if_neg h2, if_pos h1, if_pos h1]
  · rw [if_pos h2, if_neg h1, if_pos h2]
  · rw [if_neg h2, if_neg h1, if_neg h1, if_neg h2]
theorem upd_w (f : Nat → Int32) (i : Nat) (x y : Int32) : upd (upd f i x) i y = upd f i y := by
  funext k
  unfold upd
  by_cases h1 : k = i
  · rw [if_pos h1, if_pos h1]
  · rw [if_neg h1, if_neg h1, if_neg h1]
theorem upd_id (f : Nat → Int32) (i : Nat) : upd f i (f i) = f := by
  funext k
  unfold upd
  by_cases h1 : k = i
  · rw [if_pos h1, h1]
  · rw [if_neg h1]
theorem zU_s (F : Nat → Nat → Int32) (r : Nat) (g : Nat → Int32) : zU F r g r = g := if_pos rfl
theorem zU_o (F : Nat → Nat → Int32) {r k : Nat} (g : Nat → Int32) (h : ¬ k = r) : zU F r g k = F k := if_neg h
theorem zU_cm (F : Nat → Nat → Int32) {i j : Nat} (x y : Nat → Int32) (h : ¬ i = j) : zU (zU F i x) j y = zU (zU F j y) i x := by
  funext k
  unfold zU
  by_cases h1 : k = i <;> by_cases h2 : k = j
  · omega
  · rw [if_neg h2, if_pos h1, if_pos h1]
  · rw [if_pos h2, if_neg h1, if_pos h2]
  · rw [if_neg h2, if_neg h1, if_neg h1, if_neg h2]
/-! what the machine and the reference's row have in common; x: the ticks of the row -/
def rlx (x : Int32) (S : Nat → Int32) (F : Nat → Nat → Int32) (f : Nat → Int32) : Prop :=
  (∀ k, k < 16 → ¬ k = 9 → f k = S k) ∧ f 9 = x ∧ (∀ j, j < 5 → f (16 + j) = F 0 j) ∧ (∀ j t, j < 5 → t < 6 → f (21 + 6 * j + t) = F (1 + t) j) ∧ (∀ j t, j < 4 → j < nN (S 8) → t < 3 → f (51 + 3 * j + t) = F (7 + t) j) ∧ (∀ k, k < 80 → f (63 + k) = F 10 k) ∧ (∀ k, k < 16 → f (143 + k) = F 11 k)
abbrev rl (S : Nat → Int32) (F : Nat → Nat → Int32) (f : Nat → Int32) : Prop := rlx (S 9) S F f
section RLX
variable {x : Int32} {S : Nat → Int32} {F : Nat → Nat → Int32} {f : Nat → Int32}
theorem rlx_s (h : rlx x S F f) (k : Nat) (hk : k < 16) (h9 : ¬ k = 9) : f k = S k := h.1 k hk h9
theorem rlx_t (h : rlx x S F f) (j : Nat) (hj : j < 5) : f (16 + j) = F 0 j := h.2.2.1 j hj
theorem rlx_c (h : rlx x S F f) (j t : Nat) (hj : j < 5) (ht : t < 6) : f (21 + 6 * j + t) = F (1 + t) j := h.2.2.2.1 j t hj ht
theorem rlx_g (h : rlx x S F f) (j t : Nat) (hj : j < 4) (hj8 : j < nN (S 8)) (ht : t < 3) : f (51 + 3 * j + t) = F (7 + t) j := h.2.2.2.2.1 j t hj hj8 ht
theorem rlx_h (h : rlx x S F f) (k : Nat) (hk : k < 80) : f (63 + k) = F 10 k := h.2.2.2.2.2.1 k hk
theorem rlx_k (h : rlx x S F f) (k : Nat) (hk : k < 16) : f (143 + k) = F 11 k := h.2.2.2.2.2.2 k hk
theorem rl_s (h : rl S F f) (k : Nat) (hk : k < 16) : f k = S k := by
  by_cases h9 : k = 9
  · subst h9; exact h.2.1
  · exact h.1 k hk h9
theorem rlx_us (h : rlx x S F f) (k : Nat) (hk : k < 16) (h9 : ¬ (k = 9 ∨ k = 8)) (v : Int32) : rlx x (upd S k v) F (upd f k v) := by
  refine ⟨fun i hi h9i => ?_, ?_, fun j hj => ?_, fun j t hj ht => ?_, fun j t hj hj8 ht => ?_, fun i hi => ?_, fun i hi => ?_⟩
  · unfold upd; by_cases e : i = k
    · rw [if_pos e, if_pos e]
    · rw [if_neg e, if_neg e]; exact h.1 i hi h9i
  · rw [upd_o _ _ (by omega)]; exact h.2.1
  · rw [upd_o _ _ (by omega)]; exact rlx_t h j hj
  · rw [upd_o _ _ (by omega)]; exact rlx_c h j t hj ht
  · rw [upd_o S _ (by omega)] at hj8; rw [upd_o _ _ (by omega)]; exact rlx_g h j t hj hj8 ht
  · rw [upd_o _ _ (by omega)]; exact rlx_h h i hi
  · rw [upd_o _ _ (by omega)]; exact rlx_k h i hi
/-- the ticks of the row alone -/
theorem rlx_u9 (h : rlx x S F f) (v : Int32) : rlx v S F (upd f 9 v) := by
  refine ⟨fun i hi h9i => ?_, ?_, fun j hj => ?_, fun j t hj ht => ?_, fun j t hj hj8 ht => ?_, fun i hi => ?_, fun i hi => ?_⟩
  · rw [upd_o _ _ h9i]; exact h.1 i hi h9i
  · exact upd_s _ _ _
  · rw [upd_o _ _ (by omega)]; exact rlx_t h j hj
  · rw [upd_o _ _ (by omega)]; exact rlx_c h j t hj ht
  · rw [upd_o _ _ (by omega)]; exact rlx_g h j t hj hj8 ht
  · rw [upd_o _ _ (by omega)]; exact rlx_h h i hi
  · rw [upd_o _ _ (by omega)]; exact rlx_k h i hi
/-- the ticks of the machine alone -/
theorem rlx_v9 (h : rlx x S F f) (v : Int32) : rlx x (upd S 9 v) F f :=
  ⟨fun i hi h9i => by rw [upd_o _ _ h9i]; exact h.1 i hi h9i, h.2⟩
theorem rlx_ut (h : rlx x S F f) (c : Nat) (hc : c < 5) (v : Int32) : rlx x S (zU F 0 (upd (F 0) c v)) (upd f (16 + c) v) := by
  refine ⟨fun i hi h9i => ?_, ?_, fun j hj => ?_, fun j t hj ht => ?_, fun j t hj hj8 ht => ?_, fun i hi => ?_, fun i hi => ?_⟩
  · rw [upd_o _ _ (by omega)]; exact h.1 i hi h9i
  · rw [upd_o _ _ (by omega)]; exact h.2.1
  · rw [zU_s]; unfold upd; by_cases e : j = c
    · rw [if_pos e, if_pos (by omega)]
    · rw [if_neg e, if_neg (by omega)]; exact rlx_t h j hj
  · rw [upd_o _ _ (by omega), zU_o _ _ (by omega)]; exact rlx_c h j t hj ht
  · rw [upd_o _ _ (by omega), zU_o _ _ (by omega)]; exact rlx_g h j t hj hj8 ht
  · rw [upd_o _ _ (by omega), zU_o _ _ (by omega)]; exact rlx_h h i hi
  · rw [upd_o _ _ (by omega), zU_o _ _ (by omega)]; exact rlx_k h i hi
theorem rlx_uc (h : rlx x S F f) (c u : Nat) (hc : c < 5) (hu : u < 6) (v : Int32) : rlx x S (zU F (1 + u) (upd (F (1 + u)) c v)) (upd f (21 + 6 * c + u) v) := by
  refine ⟨fun i hi h9i => ?_, ?_, fun j hj => ?_, fun j t hj ht => ?_, fun j t hj hj8 ht => ?_, fun i hi => ?_, fun i hi => ?_⟩
  · rw [upd_o _ _ (by omega)]; exact h.1 i hi h9i
  · rw [upd_o _ _ (by omega)]; exact h.2.1
  · rw [upd_o _ _ (by omega), zU_o _ _ (by omega)]; exact rlx_t h j hj
  · by_cases e : t = u
    · subst e; rw [zU_s]; unfold upd; by_cases e : j = c
      · rw [if_pos e, if_pos (by omega)]
      · rw [if_neg e, if_neg (by omega)]; exact rlx_c h j t hj ht
    · rw [upd_o _ _ (by omega), zU_o _ _ (by omega)]; exact rlx_c h j t hj ht
  · rw [upd_o _ _ (by omega), zU_o _ _ (by omega)]; exact rlx_g h j t hj hj8 ht
  · rw [upd_o _ _ (by omega), zU_o _ _ (by omega)]; exact rlx_h h i hi
  · rw [upd_o _ _ (by omega), zU_o _ _ (by omega)]; exact rlx_k h i hi
theorem rlx_ug (h : rlx x S F f) (c u : Nat) (hc : c < 4) (hu : u < 3) (v : Int32) : rlx x S (zU F (7 + u) (upd (F (7 + u)) c v)) (upd f (51 + 3 * c + u) v) := by
  refine ⟨fun i hi h9i => ?_, ?_, fun j hj => ?_, fun j t hj ht => ?_, fun j t hj hj8 ht => ?_, fun i hi => ?_, fun i hi => ?_⟩
  · rw [upd_o _ _ (by omega)]; exact h.1 i hi h9i
  · rw [upd_o _ _ (by omega)]; exact h.2.1
  · rw [upd_o _ _ (by omega), zU_o _ _ (by omega)]; exact rlx_t h j hj
  · rw [upd_o _ _ (by omega), zU_o _ _ (by omega)]; exact rlx_c h j t hj ht
  · by_cases e : t = u
    · subst e; rw [zU_s]; unfold upd; by_cases e : j = c
      · rw [if_pos e, if_pos (by omega)]
      · rw [if_neg e, if_neg (by omega)]; exact rlx_g h j t hj hj8 ht
    · rw [upd_o _ _ (by omega), zU_o _ _ (by omega)]; exact rlx_g h j t hj hj8 ht
  · rw [upd_o _ _ (by omega), zU_o _ _ (by omega)]; exact rlx_h h i hi
  · rw [upd_o _ _ (by omega), zU_o _ _ (by omega)]; exact rlx_k h i hi
theorem rlx_uh (h : rlx x S F f) (c : Nat) (hc : c < 80) (v : Int32) : rlx x S (zU F 10 (upd (F 10) c v)) (upd f (63 + c) v) := by
  refine ⟨fun i hi h9i => ?_, ?_, fun j hj => ?_, fun j t hj ht => ?_, fun j t hj hj8 ht => ?_, fun i hi => ?_, fun i hi => ?_⟩
  · rw [upd_o _ _ (by omega)]; exact h.1 i hi h9i
  · rw [upd_o _ _ (by omega)]; exact h.2.1
  · rw [upd_o _ _ (by omega), zU_o _ _ (by omega)]; exact rlx_t h j hj
  · rw [upd_o _ _ (by omega), zU_o _ _ (by omega)]; exact rlx_c h j t hj ht
  · rw [upd_o _ _ (by omega), zU_o _ _ (by omega)]; exact rlx_g h j t hj hj8 ht
  · rw [zU_s]; unfold upd; by_cases e : i = c
    · rw [if_pos e, if_pos (by omega)]
    · rw [if_neg e, if_neg (by omega)]; exact rlx_h h i hi
  · rw [upd_o _ _ (by omega), zU_o _ _ (by omega)]; exact rlx_k h i hi
theorem rlx_uk (h : rlx x S F f) (c : Nat) (hc : c < 16) (v : Int32) : rlx x S (zU F 11 (upd (F 11) c v)) (upd f (143 + c) v) := by
  refine ⟨fun i hi h9i => ?_, ?_, fun j hj => ?_, fun j t hj ht => ?_, fun j t hj hj8 ht => ?_, fun i hi => ?_, fun i hi => ?_⟩
  · rw [upd_o _ _ (by omega)]; exact h.1 i hi h9i
  · rw [upd_o _ _ (by omega)]; exact h.2.1
  · rw [upd_o _ _ (by omega), zU_o _ _ (by omega)]; exact rlx_t h j hj
  · rw [upd_o _ _ (by omega), zU_o _ _ (by omega)]; exact rlx_c h j t hj ht
  · rw [upd_o _ _ (by omega), zU_o _ _ (by omega)]; exact rlx_g h j t hj hj8 ht
  · rw [upd_o _ _ (by omega), zU_o _ _ (by omega)]; exact rlx_h h i hi
  · rw [zU_s]; unfold upd; by_cases e : i = c
    · rw [if_pos e, if_pos (by omega)]
    · rw [if_neg e, if_neg (by omega)]; exact rlx_k h i hi
end RLX
/-! what every machine keeps to -/
def ivS (N : Int) (S : Nat → Int32) : Prop :=
  (2 ≤ (S 0).toInt ∧ (S 0).toInt ≤ 16) ∧ (0 ≤ (S 1).toInt ∧ (S 1).toInt < (S 0).toInt) ∧ (0 ≤ (S 2).toInt ∧ (S 2).toInt ≤ 19) ∧ (1 ≤ (S 3).toInt ∧ (S 3).toInt ≤ 20) ∧ (0 ≤ (S 5).toInt ∧ (S 5).toInt ≤ 9999) ∧ (100 ≤ (S 6).toInt ∧ (S 6).toInt ≤ 9999) ∧ (0 ≤ (S 7).toInt ∧ (S 7).toInt ≤ 500) ∧ (0 ≤ (S 8).toInt ∧ (S 8).toInt ≤ 4) ∧ (0 ≤ (S 9).toInt ∧ (S 9).toInt ≤ N) ∧ (0 ≤ (S 10).toInt ∧ (S 10).toInt ≤ (S 9).toInt) ∧ (0 ≤ (S 11).toInt ∧ (S 11).toInt ≤ (S 9).toInt) ∧ (1000 ≤ (S 12).toInt ∧ (S 12).toInt ≤ 1000 + 500 * (S 9).toInt)
def ivC (F : Nat → Nat → Int32) (c : Nat) : Prop := (0 ≤ (F 0 c).toInt ∧ (F 0 c).toInt < 65536) ∧ (0 ≤ (F 1 c).toInt ∧ (F 1 c).toInt ≤ 100) ∧ (1 ≤ (F 2 c).toInt ∧ (F 2 c).toInt ≤ 9) ∧ (1 ≤ (F 3 c).toInt ∧ (F 3 c).toInt ≤ 50) ∧ (0 ≤ (F 4 c).toInt ∧ (F 4 c).toInt ≤ 20)
def ivG (F : Nat → Nat → Int32) (g : Nat) : Prop := (0 ≤ (F 7 g).toInt ∧ (F 7 g).toInt < 5) ∧ (0 ≤ (F 8 g).toInt ∧ (F 8 g).toInt < 5) ∧ (0 ≤ (F 9 g).toInt ∧ (F 9 g).toInt ≤ 99)
def ivF (F : Nat → Nat → Int32) : Prop := (∀ c, c < 5 → ivC F c) ∧ (∀ g, g < 4 → ivG F g)
section TICK
variable {x : Int32} {S : Nat → Int32} {F : Nat → Nat → Int32} {f : Nat → Int32} {N : Int}
theorem ivF_u {F : Nat → Nat → Int32} (h : ivF F) {r : Nat} (g : Nat → Int32) (h0 : ¬ r = 0) (h1 : ¬ r = 1) (h2 : ¬ r = 2) (h3 : ¬ r = 3) (h4 : ¬ r = 4) (h7 : ¬ r = 7) (h8 : ¬ r = 8) (h9 : ¬ r = 9) : ivF (zU F r g) := by
  refine ⟨fun c hc => ?_, fun c hc => ?_⟩
  · unfold ivC; rw [zU_o _ _ (Ne.symm h0), zU_o _ _ (Ne.symm h1), zU_o _ _ (Ne.symm h2), zU_o _ _ (Ne.symm h3), zU_o _ _ (Ne.symm h4)]; exact h.1 c hc
  · unfold ivG; rw [zU_o _ _ (Ne.symm h7), zU_o _ _ (Ne.symm h8), zU_o _ _ (Ne.symm h9)]; exact h.2 c hc
theorem ivF_1 {F : Nat → Nat → Int32} (h : ivF F) (c : Nat) (v : Int32) (hv : 0 ≤ v.toInt ∧ v.toInt ≤ 100) : ivF (zU F 1 (upd (F 1) c v)) := by
  refine ⟨fun d hd => ?_, fun d hd => ?_⟩
  · have h1 := h.1 d hd
    unfold ivC at h1 ⊢; rw [zU_o _ _ (by omega), zU_s, zU_o _ _ (by omega), zU_o _ _ (by omega), zU_o _ _ (by omega)]
    refine ⟨h1.1, ?_, h1.2.2⟩
    unfold upd; by_cases e : d = c
    · rw [if_pos e]; exact hv
    · rw [if_neg e]; exact h1.2.1
  · unfold ivG; rw [zU_o _ _ (by omega), zU_o _ _ (by omega), zU_o _ _ (by omega)]; exact h.2 d hd
theorem ao_0 {t c : Int32} (h : t - c ≤ 0) : aoff t c = 0 := by
  unfold aoff zmax
  by_cases h1 : t - c < 0
  · rw [if_pos h1]
  · rw [if_neg h1]; have := p_le.mp h; have := mt p_lt.mpr h1; rw [p_0] at *; exact p_eq.mpr (by rw [p_0]; omega)
theorem ao_1 {t c : Int32} (h : ¬ t - c ≤ 0) : aoff t c = t - c := by
  unfold aoff zmax
  rw [if_neg (fun q => h (p_le.mpr (by have := p_lt.mp q; omega)))]
/-- letting off -/
theorem q_off (h : rlx x S F f) : rlx x (airOff S) F (rOff f) := by
  unfold rOff airOff
  have e5 := rlx_s h 5 (by omega) (by omega); have e6 := rlx_s h 6 (by omega) (by omega); have e13 := rlx_s h 13 (by omega) (by omega)
  rw [e5, e6, e13]
  by_cases h1 : S 5 - S 6 ≤ 0
  · rw [if_pos h1, ao_0 h1, Int32.sub_zero, Int32.add_zero, upd_id, upd_id]; exact h
  · rw [if_neg h1, ao_1 h1]
    exact rlx_us (rlx_us h 5 (by omega) (by omega) _) 13 (by omega) (by omega) _
/-- the machine when the compressor has worked -/
abbrev tkA (S : Nat → Int32) : Nat → Int32 := airCmp (upd S 9 (S 9 + 1))
theorem q_T0 (h : rlx x S F f) : rlx x (upd (tkA S) 2 (tkA S 2 + 1)) F (rT0 f) := by
  unfold rT0 rA3 rA2 rA1
  have hA := rlx_v9 h (S 9 + 1)
  have e5 := rlx_s hA 5 (by omega) (by omega); have e7 := rlx_s hA 7 (by omega) (by omega); have e12 := rlx_s hA 12 (by omega) (by omega)
  have h1 := rlx_us hA 12 (by omega) (by omega) (f 12 + f 7)
  have h2 := rlx_us h1 5 (by omega) (by omega) (upd f 12 (f 12 + f 7) 5 + upd f 12 (f 12 + f 7) 7)
  have h3 := q_off h2
  have h4 := rlx_us h3 2 (by omega) (by omega) (rOff (upd (upd f 12 (f 12 + f 7)) 5 (upd f 12 (f 12 + f 7) 5 + upd f 12 (f 12 + f 7) 7)) 2 + 1)
  rw [rlx_s h3 2 (by omega) (by omega)] at h4
  rw [rlx_s h3 2 (by omega) (by omega)]
  have e : airOff (upd (upd (upd S 9 (S 9 + 1)) 12 (f 12 + f 7)) 5 (upd f 12 (f 12 + f 7) 5 + upd f 12 (f 12 + f 7) 7)) = tkA S := by
    unfold tkA airCmp
    rw [upd_cm _ _ _ (by omega), upd_o f _ (by omega), upd_o f _ (by omega), e5, e7, e12]
  rw [e] at h4 ⊢
  exact h4
theorem tkA_v {k : Nat} (S : Nat → Int32) (h5 : ¬ k = 5) (h9 : ¬ k = 9) (h12 : ¬ k = 12) (h13 : ¬ k = 13) : tkA S k = S k := by
  unfold tkA airCmp airOff; rw [upd_o _ _ h13, upd_o _ _ h5, upd_o _ _ h12, upd_o _ _ h5, upd_o _ _ h9]
theorem tkA_9 (S : Nat → Int32) : tkA S 9 = S 9 + 1 := by
  unfold tkA airCmp airOff; rw [upd_o _ _ (by omega), upd_o _ _ (by omega), upd_o _ _ (by omega), upd_o _ _ (by omega), upd_s]
theorem tkA_12 (S : Nat → Int32) : tkA S 12 = S 12 + S 7 := by
  unfold tkA airCmp airOff; rw [upd_o _ _ (by omega), upd_o _ _ (by omega), upd_s, upd_o _ _ (by omega), upd_o _ _ (by omega)]
theorem tkA_5 (S : Nat → Int32) : tkA S 5 = S 5 + S 7 - aoff (S 5 + S 7) (S 6) := by
  unfold tkA airCmp airOff
  rw [upd_o _ _ (by omega), upd_s, upd_o _ _ (by omega : ¬ 5 = 12), upd_s, upd_o _ _ (by omega : ¬ 6 = 12), upd_o _ _ (by omega : ¬ 6 = 5), upd_o _ _ (by omega : ¬ 6 = 9), upd_o _ _ (by omega : ¬ 5 = 9), upd_o _ _ (by omega : ¬ 7 = 9)]
theorem iv_A (hS : ivS N S) (hN : N ≤ 2000000) : ivS (N + 1) (tkA S) := by
  unfold ivS at hS ⊢
  rw [tkA_5, tkA_9, tkA_12, tkA_v S (k := 0) (by omega) (by omega) (by omega) (by omega), tkA_v S (k := 1) (by omega) (by omega) (by omega) (by omega), tkA_v S (k := 2) (by omega) (by omega) (by omega) (by omega), tkA_v S (k := 3) (by omega) (by omega) (by omega) (by omega), tkA_v S (k := 6) (by omega) (by omega) (by omega) (by omega), tkA_v S (k := 7) (by omega) (by omega) (by omega) (by omega), tkA_v S (k := 8) (by omega) (by omega) (by omega) (by omega), tkA_v S (k := 10) (by omega) (by omega) (by omega) (by omega), tkA_v S (k := 11) (by omega) (by omega) (by omega) (by omega)]
  obtain ⟨h0, h1, h2, h3, h5, h6, h7, h8, h9, h10, h11, h12⟩ := hS
  have e9 : (S 9 + 1).toInt = (S 9).toInt + 1 := by rw [p_add (by rw [p_1]; omega), p_1]
  have e12 : (S 12 + S 7).toInt = (S 12).toInt + (S 7).toInt := p_add (by omega)
  have e5 : (S 5 + S 7).toInt = (S 5).toInt + (S 7).toInt := p_add (by omega)
  have e56 : (S 5 + S 7 - S 6).toInt = (S 5).toInt + (S 7).toInt - (S 6).toInt := by rw [p_sub (by omega), e5]
  have eo : (aoff (S 5 + S 7) (S 6)).toInt = max ((S 5).toInt + (S 7).toInt - (S 6).toInt) 0 := by unfold aoff; rw [p_max, e56, p_0]
  have e5o : (S 5 + S 7 - aoff (S 5 + S 7) (S 6)).toInt = (S 5).toInt + (S 7).toInt - max ((S 5).toInt + (S 7).toInt - (S 6).toInt) 0 := by rw [p_sub (by omega), e5, eo]
  rw [e9, e12, e5o]
  omega
end TICK
section DRUM
variable {x : Int32} {S : Nat → Int32} {F : Nat → Nat → Int32} {f : Nat → Int32} {N : Int}
theorem q_1 (x : Int32) (h : -2147483648 ≤ x.toInt ∧ x.toInt < 2147483647) : (x + 1).toInt = x.toInt + 1 := by
  rw [p_add (by rw [p_1]; omega), p_1]
theorem q_nxt (hS : ivS N S) : S 1 + 1 - (S 1 + 1) / S 0 * S 0 = nxt S := by
  obtain ⟨h0, h1, -⟩ := hS
  have e1 := q_1 (S 1) (by omega)
  have ed : ((S 1 + 1) / S 0).toInt = ((S 1).toInt + 1) / (S 0).toInt := by rw [p_div (by omega) (by omega), e1]
  unfold nxt
  by_cases h : S 0 ≤ S 1 + 1
  · rw [if_pos h]
    have h' := p_le.mp h
    have hd : (S 1).toInt + 1 = (S 0).toInt := by omega
    have hd1 : ((S 1).toInt + 1) / (S 0).toInt = 1 := by rw [hd]; exact Int.ediv_self (by omega)
    have em : ((S 1 + 1) / S 0 * S 0).toInt = (S 0).toInt := by rw [p_mul (by rw [ed, hd1]; omega), ed, hd1]; omega
    exact p_eq.mpr (by rw [p_sub (by omega), em, p_0]; omega)
  · rw [if_neg h]
    have h' := mt p_le.mpr h
    have hd1 : ((S 1).toInt + 1) / (S 0).toInt = 0 := Int.ediv_eq_zero_of_lt (by omega) (by omega)
    have em : ((S 1 + 1) / S 0 * S 0).toInt = 0 := by rw [p_mul (by rw [ed, hd1]; omega), ed, hd1]; omega
    exact p_eq.mpr (by rw [p_sub (by omega), em]; omega)
theorem nxt_v (hS : ivS N S) : 0 ≤ (nxt S).toInt ∧ (nxt S).toInt < (S 0).toInt := by
  obtain ⟨h0, h1, -⟩ := hS
  have e1 := q_1 (S 1) (by omega)
  unfold nxt
  by_cases h : S 0 ≤ S 1 + 1
  · rw [if_pos h, p_0]; omega
  · rw [if_neg h]; have h' := mt p_le.mpr h; omega
/-- the drum's part of a tick -/
theorem q_md (h : rlx x (upd S 2 (S 2 + 1)) F f) (hS : ivS N S) : rlx x (mdS S) (mdF S F) (rDr f) := by
  have e0 := rlx_s h 0 (by omega) (by omega); have e1 := rlx_s h 1 (by omega) (by omega); have e2 := rlx_s h 2 (by omega) (by omega); have e3 := rlx_s h 3 (by omega) (by omega); have e4 := rlx_s h 4 (by omega) (by omega); have e5 := rlx_s h 5 (by omega) (by omega); have e10 := rlx_s h 10 (by omega) (by omega); have e11 := rlx_s h 11 (by omega) (by omega)
  rw [upd_o _ _ (by omega)] at e0 e1 e3 e4 e5 e10 e11
  rw [upd_s] at e2
  have hn := q_nxt hS
  have hv := nxt_v hS
  have h2v : (S 2 + 1).toInt = (S 2).toInt + 1 := by obtain ⟨-, -, h2, -⟩ := hS; exact q_1 _ (by omega)
  unfold rDr mdS mdF
  by_cases c1 : S 3 ≤ S 2 + 1
  · rw [if_pos c1, if_pos c1]
    have c1' : f 3 ≤ f 2 := by rw [e3, e2]; exact c1
    by_cases c2 : S 4 ≤ S 5
    · rw [if_pos c2, if_pos c2, if_pos (show rWent f from ⟨c1', by rw [e4, e5]; exact c2⟩)]
      unfold rD1 rD2 rH
      rw [e0, e1, hn]
      have r1 := rlx_us h 1 (by omega) (by omega) (nxt S)
      have r2 := rlx_us r1 10 (by omega) (by omega) (upd f 1 (nxt S) 10 + bI (upd f 1 (nxt S) 1 = 0))
      have r3 := rlx_us r2 2 (by omega) (by omega) 0
      rw [upd_o (upd f 1 (nxt S)) _ (by omega : ¬ 2 = 10), upd_o f _ (by omega : ¬ 2 = 1), e2, upd_o (upd f 1 (nxt S)) _ (by omega : ¬ 3 = 10), upd_o f _ (by omega : ¬ 3 = 1), e3, if_neg (fun q => absurd (p_lt.mp q) (by have := p_le.mp c1; omega))]
      rw [upd_o _ _ (by omega : ¬ 10 = 1), upd_s, e10] at r3 ⊢
      by_cases c3 : nxt S ≤ 0
      · have ez : nxt S = 0 := p_eq.mpr (by have := p_le.mp c3; rw [p_0] at *; omega)
        rw [if_pos c3, ez]
        rw [ez] at r3
        rw [bI_t rfl] at r3 ⊢
        rw [show upd (upd (upd S 1 0) 2 0) 10 (S 10 + 1) = upd (upd (upd (upd S 2 (S 2 + 1)) 1 0) 10 (S 10 + 1)) 2 0 by
          rw [upd_cm S _ _ (by omega : ¬ 2 = 1), upd_cm (upd (upd S 1 0) 2 (S 2 + 1)) _ _ (by omega : ¬ 10 = 2), upd_w]]
        exact r3
      · have ez : ¬ nxt S = 0 := fun q => c3 (by rw [q]; exact p_le.mpr (Int.le_refl _))
        rw [if_neg c3]
        rw [bI_f ez, Int32.add_zero] at r3 ⊢
        rw [show upd (upd S 1 (nxt S)) 2 0 = upd (upd (upd (upd S 2 (S 2 + 1)) 1 (nxt S)) 10 (S 10)) 2 0 by
          rw [upd_cm S _ _ (by omega : ¬ 2 = 1), upd_cm (upd (upd S 1 (nxt S)) 2 (S 2 + 1)) _ _ (by omega : ¬ 10 = 2), upd_w, show S 10 = upd (upd S 1 (nxt S)) 2 0 10 by rw [upd_o _ _ (by omega), upd_o _ _ (by omega)], upd_id]]
        exact r3
    · rw [if_neg c2, if_neg c2, if_neg (show ¬ rWent f from fun q => c2 (by rw [← e4, ← e5]; exact q.2)), if_pos c1']
      unfold rS1 rS2 rH
      have hg1 := hS.2.1
      have hg0 := hS.1
      have hk : nN (S 1) < 16 := by show (S 1).toInt.toNat < 16; omega
      rw [e11, e1, upd_o (upd f 11 (S 11 + 1)) _ (by omega : ¬ 2 = 143 + nN (S 1)), upd_o f _ (by omega : ¬ 2 = 11), e2, upd_o (upd f 11 (S 11 + 1)) _ (by omega : ¬ 3 = 143 + nN (S 1)), upd_o f _ (by omega : ¬ 3 = 11), e3, if_neg (fun q => absurd (p_lt.mp q) (by have := p_le.mp c1; omega))]
      have r1 := rlx_us h 11 (by omega) (by omega) (S 11 + 1)
      have r2 := rlx_uk r1 (nN (S 1)) hk (upd f 11 (S 11 + 1) (143 + nN (S 1)) + 1)
      have r3 := rlx_us r2 2 (by omega) (by omega) 0
      rw [upd_o f _ (by omega : ¬ 143 + nN (S 1) = 11), rlx_k h _ hk] at r3 ⊢
      unfold chtCnt chtCntR
      rw [if_pos ⟨p_le.mpr (by rw [p_0]; omega), p_le.mpr (by rw [show (15 : Int32).toInt = 15 from rfl]; omega)⟩]
      rw [show upd (upd S 2 0) 11 (S 11 + 1) = upd (upd (upd S 2 (S 2 + 1)) 11 (S 11 + 1)) 2 0 by rw [upd_cm (upd S 2 (S 2 + 1)) _ _ (by omega : ¬ 11 = 2), upd_w]]
      exact r3
  · have c1' : ¬ f 3 ≤ f 2 := by rw [e3, e2]; exact c1
    rw [if_neg c1, if_neg c1, if_neg (show ¬ rWent f from fun q => c1' q.1), if_neg c1']
    unfold rH
    rw [e2, e3, if_pos (p_lt.mpr (by have := mt p_le.mpr c1; omega))]
    have r := rlx_us h 2 (by omega) (by omega) (S 2 + 1)
    rw [upd_w] at r
    exact r
theorem iv_md (hS : ivS (N + 1) S) (h9 : 1 ≤ (S 9).toInt) (h10 : (S 10).toInt < (S 9).toInt) (h11 : (S 11).toInt < (S 9).toInt) (hN : N ≤ 2000000) : ivS (N + 1) (mdS S) := by
  have hv := nxt_v hS
  unfold mdS
  have hS' := hS
  obtain ⟨h0, h1, h2, h3, h5, h6, h7, h8, h9', h10', h11', h12⟩ := hS
  have e2 := q_1 (S 2) (by omega)
  have e10 := q_1 (S 10) (by omega)
  have e11 := q_1 (S 11) (by omega)
  by_cases c1 : S 3 ≤ S 2 + 1
  · rw [if_pos c1]
    by_cases c2 : S 4 ≤ S 5
    · rw [if_pos c2]
      by_cases c3 : nxt S ≤ 0
      · rw [if_pos c3]
        unfold ivS
        simp (disch := omega) only [upd_s, upd_o]
        rw [p_0, e10]; omega
      · rw [if_neg c3]
        unfold ivS
        simp (disch := omega) only [upd_s, upd_o]
        rw [p_0]; omega
    · rw [if_neg c2]
      unfold ivS
      simp (disch := omega) only [upd_s, upd_o]
      rw [p_0, e11]; omega
  · rw [if_neg c1]
    have := mt p_le.mpr c1
    unfold ivS
    simp (disch := omega) only [upd_s, upd_o]
    rw [e2]; omega
theorem ivF_md (hF : ivF F) : ivF (mdF S F) := by
  unfold mdF chtCnt
  split
  · split
    · exact hF
    · exact ivF_u hF _ (by omega) (by omega) (by omega) (by omega) (by omega) (by omega) (by omega) (by omega)
  · exact hF
theorem md_9 (S : Nat → Int32) : mdS S 9 = S 9 := by
  unfold mdS
  split
  · split
    · split
      · simp (disch := omega) only [upd_o]
      · simp (disch := omega) only [upd_o]
    · simp (disch := omega) only [upd_o]
  · simp (disch := omega) only [upd_o]
theorem md_10 (S : Nat → Int32) : mdS S 10 = S 10 + bI (mdR S = 3) := by
  unfold mdS mdR
  split
  · split
    · split
      · rw [upd_s, bI_t rfl]
      · simp (disch := omega) only [upd_o]; rw [bI_f (by decide), Int32.add_zero]
    · simp (disch := omega) only [upd_o]; rw [bI_f (by decide), Int32.add_zero]
  · simp (disch := omega) only [upd_o]; rw [bI_f (by decide), Int32.add_zero]
theorem md_11 (S : Nat → Int32) : mdS S 11 = S 11 + bI (mdR S = 1) := by
  unfold mdS mdR
  split
  · split
    · split
      · simp (disch := omega) only [upd_o]; rw [bI_f (by decide), Int32.add_zero]
      · simp (disch := omega) only [upd_o]; rw [bI_f (by decide), Int32.add_zero]
    · rw [upd_s, bI_t rfl]
  · simp (disch := omega) only [upd_o]; rw [bI_f (by decide), Int32.add_zero]
theorem q_went (h : rlx x (upd S 2 (S 2 + 1)) F f) : rWent f ↔ ¬ mdR S < 2 := by
  have e2 := rlx_s h 2 (by omega) (by omega); have e3 := rlx_s h 3 (by omega) (by omega); have e4 := rlx_s h 4 (by omega) (by omega); have e5 := rlx_s h 5 (by omega) (by omega)
  rw [upd_o _ _ (by omega)] at e3 e4 e5
  rw [upd_s] at e2
  unfold rWent mdR
  rw [e2, e3, e4, e5]
  by_cases c1 : S 3 ≤ S 2 + 1
  · rw [if_pos c1]
    by_cases c2 : S 4 ≤ S 5
    · rw [if_pos c2]
      by_cases c3 : nxt S ≤ 0
      · rw [if_pos c3]; exact ⟨fun _ => by decide, fun _ => ⟨c1, c2⟩⟩
      · rw [if_neg c3]; exact ⟨fun _ => by decide, fun _ => ⟨c1, c2⟩⟩
    · rw [if_neg c2]; exact ⟨fun q => absurd q.2 c2, fun q => absurd (by decide) q⟩
  · rw [if_neg c1]; exact ⟨fun q => absurd q.1 c1, fun q => absurd (by decide) q⟩
end DRUM
section MOVE
variable {x : Int32} {S : Nat → Int32} {F : Nat → Nat → Int32} {f : Nat → Int32} {N : Int}
theorem rlx_c0 (h : rlx x S F f) {c : Nat} (hc : c < 5) : f (21 + 6 * c) = F 1 c := rlx_c h c 0 hc (by omega)
theorem rlx_c1 (h : rlx x S F f) {c : Nat} (hc : c < 5) : f (21 + 6 * c + 1) = F 2 c := rlx_c h c 1 hc (by omega)
theorem rlx_c2 (h : rlx x S F f) {c : Nat} (hc : c < 5) : f (21 + 6 * c + 2) = F 3 c := rlx_c h c 2 hc (by omega)
theorem rlx_c3 (h : rlx x S F f) {c : Nat} (hc : c < 5) : f (21 + 6 * c + 3) = F 4 c := rlx_c h c 3 hc (by omega)
theorem rlx_c4 (h : rlx x S F f) {c : Nat} (hc : c < 5) : f (21 + 6 * c + 4) = F 5 c := rlx_c h c 4 hc (by omega)
theorem rlx_c5 (h : rlx x S F f) {c : Nat} (hc : c < 5) : f (21 + 6 * c + 5) = F 6 c := rlx_c h c 5 hc (by omega)
theorem rlx_g0 (h : rlx x S F f) {g : Nat} (hg : g < 4) (hg8 : g < nN (S 8)) : f (51 + 3 * g) = F 7 g := rlx_g h g 0 hg hg8 (by omega)
theorem rlx_g1 (h : rlx x S F f) {g : Nat} (hg : g < 4) (hg8 : g < nN (S 8)) : f (51 + 3 * g + 1) = F 8 g := rlx_g h g 1 hg hg8 (by omega)
theorem rlx_g2 (h : rlx x S F f) {g : Nat} (hg : g < 4) (hg8 : g < nN (S 8)) : f (51 + 3 * g + 2) = F 9 g := rlx_g h g 2 hg hg8 (by omega)
theorem rlx_uc0 (h : rlx x S F f) {c : Nat} (hc : c < 5) (v : Int32) : rlx x S (zU F 1 (upd (F 1) c v)) (upd f (21 + 6 * c) v) := rlx_uc h c 0 hc (by omega) v
theorem rlx_uc1 (h : rlx x S F f) {c : Nat} (hc : c < 5) (v : Int32) : rlx x S (zU F 2 (upd (F 2) c v)) (upd f (21 + 6 * c + 1) v) := rlx_uc h c 1 hc (by omega) v
theorem rlx_uc2 (h : rlx x S F f) {c : Nat} (hc : c < 5) (v : Int32) : rlx x S (zU F 3 (upd (F 3) c v)) (upd f (21 + 6 * c + 2) v) := rlx_uc h c 2 hc (by omega) v
theorem rlx_uc3 (h : rlx x S F f) {c : Nat} (hc : c < 5) (v : Int32) : rlx x S (zU F 4 (upd (F 4) c v)) (upd f (21 + 6 * c + 3) v) := rlx_uc h c 3 hc (by omega) v
theorem rlx_uc4 (h : rlx x S F f) {c : Nat} (hc : c < 5) (v : Int32) : rlx x S (zU F 5 (upd (F 5) c v)) (upd f (21 + 6 * c + 4) v) := rlx_uc h c 4 hc (by omega) v
theorem rlx_uc5 (h : rlx x S F f) {c : Nat} (hc : c < 5) (v : Int32) : rlx x S (zU F 6 (upd (F 6) c v)) (upd f (21 + 6 * c + 5) v) := rlx_uc h c 5 hc (by omega) v
theorem rlx_ug0 (h : rlx x S F f) {c : Nat} (hc : c < 4) (v : Int32) : rlx x S (zU F 7 (upd (F 7) c v)) (upd f (51 + 3 * c) v) := rlx_ug h c 0 hc (by omega) v
theorem rlx_ug1 (h : rlx x S F f) {c : Nat} (hc : c < 4) (v : Int32) : rlx x S (zU F 8 (upd (F 8) c v)) (upd f (51 + 3 * c + 1) v) := rlx_ug h c 1 hc (by omega) v
theorem rlx_ug2 (h : rlx x S F f) {c : Nat} (hc : c < 4) (v : Int32) : rlx x S (zU F 9 (upd (F 9) c v)) (upd f (51 + 3 * c + 2) v) := rlx_ug h c 2 hc (by omega) v
theorem q_has (h : rlx x S F f) {c : Nat} (hc : c < 5) (st : Int32) : rHas f c st = hasC F c st := by
  unfold rHas hasC; rw [rlx_t h c hc]
theorem q_holds (h : rlx x S F f) (hF : ivF F) {g : Nat} (hg : g < 4) (hg8 : g < nN (S 8)) : rHolds f g ↔ gHolds F g := by
  have h8 := (hF.2 g hg).2.1
  have e1 := rlx_g1 h hg hg8
  have e2 := rlx_g2 h hg hg8
  unfold rHolds gHolds
  rw [e1, e2]
  have hk : nN (F 8 g) < 5 := by show (F 8 g).toInt.toNat < 5; omega
  have ec := rlx_c0 h hk
  rw [ec]
  exact ⟨fun q => ⟨p_le.mpr (by rw [p_0]; omega), p_lt.mpr (by rw [show (5 : Int32).toInt = 5 from rfl]; omega), q⟩, fun q => q.2.2⟩
theorem rbgL_le (hF : ivF F) {c : Nat} (hc : c < 5) : ∀ g, g ≤ 4 → (rbgL F c g).toInt ≤ 100 - (F 1 c).toInt ∧ -100 ≤ (rbgL F c g).toInt
  | 0, _ => by
    have h1 := (hF.1 c hc).2.1
    have h100 : (100 : Int32).toInt = 100 := rfl
    show (100 - F 1 c).toInt ≤ _ ∧ _ ≤ (100 - F 1 c).toInt
    rw [p_sub (by omega)]; omega
  | g + 1, hg => by
    have ih := rbgL_le hF hc g (by omega)
    have h1 := (hF.1 c hc).2.1
    have h9 := (hF.2 g (by omega)).2.2
    unfold rbgL
    split
    · rw [p_min, p_sub (by omega)]; omega
    · exact ih
theorem q_mayL (h : rlx x S F f) (hF : ivF F) {c : Nat} (hc : c < 5) : ∀ g, g ≤ 4 → g ≤ nN (S 8) → rMayL f c g = zmax (rbgL F c g) 0
  | 0, _, _ => by
    have e := rlx_c0 h hc
    have h1 := (hF.1 c hc).2.1
    have h100 : (100 : Int32).toInt = 100 := rfl
    show 100 - f (21 + 6 * c) = zmax (100 - F 1 c) 0
    rw [e]
    exact p_eq.mpr (by rw [p_max, p_sub (by omega), p_0]; omega)
  | g + 1, hg, hg8 => by
    have ih := q_mayL h hF hc g (by omega) (by omega)
    have e := rlx_c0 h hc
    have e0 := rlx_g0 h (g := g) (by omega) (by omega)
    have e2 := rlx_g2 h (g := g) (by omega) (by omega)
    have hh := q_holds h hF (g := g) (by omega) (by omega)
    unfold rMayL rbgL
    by_cases hq : F 7 g = nI c ∧ gHolds F g
    · rw [if_pos hq, if_pos ⟨by rw [e0]; exact hq.1, hh.mpr hq.2⟩, e2, e, ih]
      exact p_eq.mpr (by rw [p_rmn, p_rpos, p_max, p_max, p_min, p_0]; omega)
    · rw [if_neg hq, if_neg (fun q => hq ⟨by rw [← e0]; exact q.1, hh.mp q.2⟩), ih]
theorem q_may (h : rlx x S F f) (hF : ivF F) (h8 : 0 ≤ (S 8).toInt ∧ (S 8).toInt ≤ 4) {c : Nat} (hc : c < 5) : rMay f c = rbg S F c := by
  unfold rMay rbg
  rw [rlx_s h 8 (by omega) (by omega)]
  have e : rbgN (S 8) = nN (S 8) := by
    show min (S 8).toInt.toNat 4 = (S 8).toInt.toNat
    omega
  rw [e]
  exact q_mayL h hF hc _ (by show (S 8).toInt.toNat ≤ 4; omega) (Nat.le_refl _)
theorem rbg_v (hF : ivF F) {c : Nat} (hc : c < 5) : 0 ≤ (rbg S F c).toInt ∧ (rbg S F c).toInt ≤ 100 - (F 1 c).toInt := by
  unfold rbg
  have h1 := (hF.1 c hc).2.1
  have hl := rbgL_le hF hc (rbgN (S 8)) (by show min _ 4 ≤ 4; omega)
  rw [p_max, p_0]; omega
theorem q_far (h : rlx x S F f) (hF : ivF F) (h8 : 0 ≤ (S 8).toInt ∧ (S 8).toInt ≤ 4) {c : Nat} (hc : c < 5) : rMd f c = moFar S F c := by
  unfold rMd moFar airEnough
  have h2 := (hF.1 c hc).2.2.1
  rw [rlx_c2 h hc, rlx_c1 h hc, q_may h hF h8 hc, p_rz, p_rz, rlx_s h 5 (by omega) (by omega), if_neg (fun q => absurd (p_le.mp q) (by rw [p_0]; omega))]
theorem far_v (hF : ivF F) (h5 : 0 ≤ (S 5).toInt ∧ (S 5).toInt ≤ 9999) {c : Nat} (hc : c < 5) : 0 ≤ (moFar S F c).toInt ∧ (moFar S F c).toInt ≤ 100 - (F 1 c).toInt ∧ (F 2 c * moFar S F c).toInt = (F 2 c).toInt * (moFar S F c).toInt ∧ 0 ≤ (F 2 c).toInt * (moFar S F c).toInt ∧ (F 2 c).toInt * (moFar S F c).toInt ≤ (S 5).toInt := by
  have hb := rbg_v (S := S) hF hc
  have hcc := hF.1 c hc
  have h2 := hcc.2.2.1
  have h3 := hcc.2.2.2.1
  have ha : (airEnough (S 5) (F 2 c)).toInt = (S 5).toInt / (F 2 c).toInt := by
    unfold airEnough
    rw [if_neg (fun q => absurd (p_le.mp q) (by rw [p_0]; omega)), p_div h5.1 (by omega)]
  have hq : 0 ≤ (S 5).toInt / (F 2 c).toInt := Int.ediv_nonneg h5.1 (by omega)
  have hm : (moFar S F c).toInt = min (min (F 3 c).toInt (rbg S F c).toInt) ((S 5).toInt / (F 2 c).toInt) := by
    unfold moFar; rw [p_min, p_min, ha]
  have h0 : 0 ≤ (moFar S F c).toInt := by omega
  have hle : (moFar S F c).toInt ≤ (S 5).toInt / (F 2 c).toInt := by omega
  have hmul : (F 2 c).toInt * (moFar S F c).toInt ≤ (S 5).toInt := by
    have h9 : (F 2 c).toInt * (moFar S F c).toInt ≤ (F 2 c).toInt * ((S 5).toInt / (F 2 c).toInt) := Int.mul_le_mul_of_nonneg_left hle (by omega)
    have h10 : (F 2 c).toInt * ((S 5).toInt / (F 2 c).toInt) ≤ (S 5).toInt := Int.mul_ediv_self_le (by omega)
    omega
  have hn : 0 ≤ (F 2 c).toInt * (moFar S F c).toInt := Int.mul_nonneg (by omega) h0
  exact ⟨h0, by omega, p_mul (by omega), hn, hmul⟩
theorem ivS_u14 (h : ivS N S) (v : Int32) : ivS N (upd S 14 v) := by
  unfold ivS at h ⊢; simp (disch := omega) only [upd_o]; exact h
theorem ivS_u15 (h : ivS N S) (v : Int32) : ivS N (upd S 15 v) := by
  unfold ivS at h ⊢; simp (disch := omega) only [upd_o]; exact h
theorem ivS_u5 (h : ivS N S) (v : Int32) (hv : 0 ≤ v.toInt ∧ v.toInt ≤ 9999) : ivS N (upd S 5 v) := by
  unfold ivS at h ⊢; simp (disch := omega) only [upd_o, upd_s]; obtain ⟨h0, h1, h2, h3, h5, h6⟩ := h; exact ⟨h0, h1, h2, h3, hv, h6⟩
theorem q_mv (h : rlx x S F f) (hS : ivS N S) (hF : ivF F) {c : Nat} (hc : c < 5) : rlx x (mvP (S, F) c).1 (mvP (S, F) c).2 (rMv f c) ∧ ivS N (mvP (S, F) c).1 ∧ ivF (mvP (S, F) c).2 := by
  have h8 := hS.2.2.2.2.2.2.2.1
  have h5 := hS.2.2.2.2.1
  unfold mvP rMv
  show rlx x (if hasC F c (S 1) then _ else _ : zP).1 _ _ ∧ _
  have e1 := rlx_s h 1 (by omega) (by omega)
  have hcc := hF.1 c hc
  have ec0 := rlx_c0 h hc
  by_cases hh : hasC F c (S 1)
  · rw [if_pos hh, if_pos (show rHas f c (f 1) by rw [e1, q_has h hc]; exact hh)]
    rw [q_far h hF h8 hc]
    obtain ⟨v0, v1, v2, v3, v4⟩ := far_v hF h5 hc
    generalize hd : moFar S F c = d at *
    show rlx x (moS S F c) (moF S F c) _ ∧ ivS N (moS S F c) ∧ ivF (moF S F c)
    unfold moS moF rM4 rM3 rM2 rM1 airUse
    rw [hd]
    have r1 := rlx_uc0 h hc (f (21 + 6 * c) + d)
    have r2 := rlx_uc4 r1 hc (upd f (21 + 6 * c) (f (21 + 6 * c) + d) (21 + 6 * c + 4) + upd f (21 + 6 * c) (f (21 + 6 * c) + d) (21 + 6 * c + 1) * d)
    rw [rlx_c4 r1 hc, rlx_c1 r1 hc, zU_o F _ (by omega : ¬ 5 = 1), zU_o F _ (by omega : ¬ 2 = 1)] at r2 ⊢
    have r3 := rlx_us r2 5 (by omega) (by omega) (upd (upd f (21 + 6 * c) (f (21 + 6 * c) + d)) (21 + 6 * c + 4) (F 5 c + F 2 c * d) 5 - upd (upd f (21 + 6 * c) (f (21 + 6 * c) + d)) (21 + 6 * c + 4) (F 5 c + F 2 c * d) (21 + 6 * c + 1) * d)
    rw [rlx_s r2 5 (by omega) (by omega), rlx_c1 r2 hc, zU_o _ _ (by omega : ¬ 2 = 5), zU_o F _ (by omega : ¬ 2 = 1)] at r3 ⊢
    have r4 := rlx_us r3 14 (by omega) (by omega) (upd (upd (upd f (21 + 6 * c) (f (21 + 6 * c) + d)) (21 + 6 * c + 4) (F 5 c + F 2 c * d)) 5 (S 5 - F 2 c * d) 14 + upd (upd (upd f (21 + 6 * c) (f (21 + 6 * c) + d)) (21 + 6 * c + 4) (F 5 c + F 2 c * d)) 5 (S 5 - F 2 c * d) (21 + 6 * c + 1) * d)
    rw [rlx_s r3 14 (by omega) (by omega), rlx_c1 r3 hc, zU_o _ _ (by omega : ¬ 2 = 5), zU_o F _ (by omega : ¬ 2 = 1), upd_o S _ (by omega : ¬ 14 = 5)] at r4 ⊢
    rw [zU_cm F _ _ (by omega : ¬ 1 = 5), ec0] at r4
    rw [ec0]
    refine ⟨r4, ivS_u14 (ivS_u5 hS _ ?_) _, ?_⟩
    · rw [p_sub (by omega), v2]; omega
    · have hF5 := ivF_u hF (r := 5) (upd (F 5) c (F 5 c + F 2 c * d)) (by omega) (by omega) (by omega) (by omega) (by omega) (by omega) (by omega) (by omega)
      have h11 := hcc.2.1
      exact ivF_1 hF5 c (F 1 c + d) (by rw [p_add (by omega)]; omega)
  · rw [if_neg hh, if_neg (show ¬ rHas f c (f 1) by rw [e1, q_has h hc]; exact hh)]
    show rlx x S (miF F c) _ ∧ ivS N S ∧ ivF (miF F c)
    unfold miF
    rw [rlx_c2 h hc, ec0]
    have h31 := hcc.2.2.2.1
    have h11 := hcc.2.1
    have hs3 : (F 1 c - F 3 c).toInt = (F 1 c).toInt - (F 3 c).toInt := p_sub (by omega)
    have e : F 1 c - rmn (F 3 c) (F 1 c) = zmax (F 1 c - F 3 c) 0 := p_eq.mpr (by
      have hm := p_rmn (F 3 c) (F 1 c)
      rw [p_sub (by omega), hm, p_max, hs3, p_0]; omega)
    rw [e]
    have r1 := rlx_uc0 h hc (zmax (F 1 c - F 3 c) 0)
    refine ⟨r1, hS, ivF_1 hF c _ (by rw [p_max, hs3, p_0]; omega)⟩
theorem q_lk (h : rlx x S F f) (hS : ivS N S) (hF : ivF F) {c : Nat} (hc : c < 5) : rlx x (lkS S F c) (lkF S F c) (rLk f c) ∧ ivS N (lkS S F c) ∧ ivF (lkF S F c) := by
  have h5 := hS.2.2.2.2.1
  have e1 := rlx_s h 1 (by omega) (by omega)
  have e5 := rlx_s h 5 (by omega) (by omega)
  have hcc := hF.1 c hc
  have h4 := hcc.2.2.2.2
  have ec0 := rlx_c0 h hc
  have hiff : (rHas f c (f 1) ∧ ¬ f (21 + 6 * c) ≤ 0) ↔ lkC S F c := by
    unfold lkC; rw [e1, q_has h hc, ec0]
  unfold lkS lkF rLk
  by_cases hh : lkC S F c
  · rw [if_pos hh, if_pos hh, if_pos (hiff.mpr hh)]
    have ex : rLx f c = zmin (F 4 c) (S 5) := by unfold rLx; rw [rlx_c3 h hc, e5, p_rz]
    rw [ex]
    have ev := p_min (F 4 c) (S 5)
    unfold airLeak
    generalize hd : zmin (F 4 c) (S 5) = d at *
    unfold rL3 rL2 rL1
    have r1 := rlx_us h 5 (by omega) (by omega) (f 5 - d)
    have r2 := rlx_uc5 r1 hc (upd f 5 (f 5 - d) (21 + 6 * c + 5) + d)
    rw [rlx_c5 r1 hc] at r2 ⊢
    have r3 := rlx_us r2 15 (by omega) (by omega) (upd (upd f 5 (f 5 - d)) (21 + 6 * c + 5) (F 6 c + d) 15 + d)
    rw [rlx_s r2 15 (by omega) (by omega), upd_o S _ (by omega : ¬ 15 = 5), e5] at r3 ⊢
    refine ⟨r3, ivS_u15 (ivS_u5 hS _ (by rw [p_sub (by omega)]; omega)) _, ?_⟩
    exact ivF_u hF (r := 6) _ (by omega) (by omega) (by omega) (by omega) (by omega) (by omega) (by omega) (by omega)
  · rw [if_neg hh, if_neg hh, if_neg (fun q => hh (hiff.mp q))]
    exact ⟨h, hS, hF⟩
theorem q_nt (h : rlx x S F f) (hS : ivS N S) (hF : ivF F) {c : Nat} (hc : c < 5) : rlx x S (chtNote F (nI c) (S 1) (F 1 c)) (upd f (63 + 16 * c + nN (S 1)) (f (21 + 6 * c))) ∧ ivF (chtNote F (nI c) (S 1) (F 1 c)) := by
  have h0 := hS.1
  have h1 := hS.2.1
  have ec0 := rlx_c0 h hc
  rw [ec0]
  unfold chtNote chtNoteR
  have ek : nI c * 16 + S 1 = nI (16 * c + nN (S 1)) := by
    rw [← nI_add, p_nN _ h1.1]
    congr 1
    have h16 : (16 : Int32).toInt = 16 := rfl
    exact p_eq.mpr (by rw [p_mul (by rw [nI_toInt (by omega), h16]; omega), nI_toInt (by omega), nI_toInt (by omega), h16]; omega)
  have hk : nN (S 1) < 16 := by show (S 1).toInt.toNat < 16; omega
  rw [ek, nI_clamp (by omega), if_pos ⟨p_le.mpr (by rw [p_0, nI_toInt (by omega)]; omega), p_le.mpr (by rw [show (79 : Int32).toInt = 79 from rfl, nI_toInt (by omega)]; omega)⟩]
  have r := rlx_uh h (16 * c + nN (S 1)) (by omega) (F 1 c)
  rw [← Nat.add_assoc] at r
  exact ⟨r, ivF_u hF _ (by omega) (by omega) (by omega) (by omega) (by omega) (by omega) (by omega) (by omega)⟩
end MOVE
section TICKS
variable {x : Int32} {S : Nat → Int32} {F : Nat → Nat → Int32} {f : Nat → Int32} {N : Int}
theorem mvP_k (p : zP) (c : Nat) {k : Nat} (h5 : ¬ k = 5) (h14 : ¬ k = 14) : (mvP p c).1 k = p.1 k := by
  unfold mvP
  split
  · show moS p.1 p.2 c k = _
    unfold moS airUse; rw [upd_o _ _ h14, upd_o _ _ h5]
  · rfl
theorem mvN_k (p : zP) {k : Nat} (h5 : ¬ k = 5) (h14 : ¬ k = 14) : ∀ c, (mvN p c).1 k = p.1 k
  | 0 => rfl
  | c + 1 => by show (mvP (mvN p c) c).1 k = _; rw [mvP_k _ _ h5 h14, mvN_k p h5 h14 c]
theorem lkN_k (p : zP) {k : Nat} (h5 : ¬ k = 5) (h15 : ¬ k = 15) : ∀ c, (lkN p c).1 k = p.1 k
  | 0 => rfl
  | c + 1 => by
    show lkS (lkN p c).1 (lkN p c).2 c k = _
    unfold lkS
    split
    · unfold airLeak; rw [upd_o _ _ h15, upd_o _ _ h5, lkN_k p h5 h15 c]
    · exact lkN_k p h5 h15 c
theorem ntN_1 (p : zP) : ∀ c, (ntN p c).1 = p.1
  | 0 => rfl
  | c + 1 => ntN_1 p c
theorem q_mvN {p : zP} (h : rlx x p.1 p.2 f) (hS : ivS N p.1) (hF : ivF p.2) : ∀ c, c ≤ 5 → rlx x (mvN p c).1 (mvN p c).2 (rMvN f c) ∧ ivS N (mvN p c).1 ∧ ivF (mvN p c).2
  | 0, _ => ⟨h, hS, hF⟩
  | c + 1, hc => by
    obtain ⟨i1, i2, i3⟩ := q_mvN h hS hF c (by omega)
    exact q_mv i1 i2 i3 (by omega)
theorem q_lkN {p : zP} (h : rlx x p.1 p.2 f) (hS : ivS N p.1) (hF : ivF p.2) : ∀ c, c ≤ 5 → rlx x (lkN p c).1 (lkN p c).2 (rLkN f c) ∧ ivS N (lkN p c).1 ∧ ivF (lkN p c).2
  | 0, _ => ⟨h, hS, hF⟩
  | c + 1, hc => by
    obtain ⟨i1, i2, i3⟩ := q_lkN h hS hF c (by omega)
    exact q_lk i1 i2 i3 (by omega)
theorem q_ntN {p : zP} (h : rlx x p.1 p.2 f) (hS : ivS N p.1) (hF : ivF p.2) : ∀ c, c ≤ 5 → rlx x p.1 (ntN p c).2 (rNtN f (nN (p.1 1)) c) ∧ ivF (ntN p c).2
  | 0, _ => ⟨h, hF⟩
  | c + 1, hc => by
    obtain ⟨i1, i2⟩ := q_ntN h hS hF c (by omega)
    have r := q_nt i1 hS i2 (c := c) (by omega)
    show rlx x p.1 (chtNote (ntN p c).2 (nI c) ((ntN p c).1 1) ((ntN p c).2 1 c)) (upd (rNtN f (nN (p.1 1)) c) (63 + 16 * c + nN (p.1 1)) (rNtN f (nN (p.1 1)) c (21 + 6 * c))) ∧ ivF (chtNote (ntN p c).2 (nI c) ((ntN p c).1 1) ((ntN p c).2 1 c))
    rw [ntN_1]
    exact r
theorem tkP_k (p : zP) {k : Nat} (h5 : ¬ k = 5) (h14 : ¬ k = 14) (h15 : ¬ k = 15) : (tkP p).1 k = mdS (tkA p.1) k := by
  unfold tkP
  rw [ntN_1, lkN_k _ h5 h15, mvN_k _ h5 h14]
  rfl
theorem tk_9 (p : zP) : (tkP p).1 9 = p.1 9 + 1 := by
  rw [tkP_k p (by omega) (by omega) (by omega), md_9, tkA_9]
theorem tk_10 (p : zP) : (tkP p).1 10 = p.1 10 + bI (tkR p = 3) := by
  rw [tkP_k p (by omega) (by omega) (by omega), md_10, tkA_v p.1 (by omega) (by omega) (by omega) (by omega)]; rfl
theorem tk_11 (p : zP) : (tkP p).1 11 = p.1 11 + bI (tkR p = 1) := by
  rw [tkP_k p (by omega) (by omega) (by omega), md_11, tkA_v p.1 (by omega) (by omega) (by omega) (by omega)]; rfl
/-- a tick -/
theorem q_tick {p : zP} (h : rl p.1 p.2 f) (hS : ivS N p.1) (hF : ivF p.2) (hN : N ≤ 2000000) : rl (tkP p).1 (tkP p).2 (rTk f) ∧ ivS (N + 1) (tkP p).1 ∧ ivF (tkP p).2 := by
  have hA := iv_A hS hN
  have g9 := tkA_9 p.1
  have g10 : tkA p.1 10 = p.1 10 := tkA_v p.1 (by omega) (by omega) (by omega) (by omega)
  have g11 : tkA p.1 11 = p.1 11 := tkA_v p.1 (by omega) (by omega) (by omega) (by omega)
  have h9 := hS.2.2.2.2.2.2.2.2.1
  have h10 := hS.2.2.2.2.2.2.2.2.2.1
  have h11 := hS.2.2.2.2.2.2.2.2.2.2.1
  have e9 := q_1 (p.1 9) (by omega)
  have r0 := q_T0 h
  have r1 := q_md r0 hA
  have i1 := iv_md hA (by rw [g9]; omega) (by rw [g9, g10]; omega) (by rw [g9, g11]; omega) hN
  have j1 := ivF_md (S := tkA p.1) hF
  obtain ⟨r2, i2, j2⟩ := q_mvN (p := (mdS (tkA p.1), mdF (tkA p.1) p.2)) r1 i1 j1 5 (by omega)
  obtain ⟨r3, i3, j3⟩ := q_lkN r2 i2 j2 5 (by omega)
  obtain ⟨r4, j4⟩ := q_ntN r3 i3 j3 5 (by omega)
  have r5 := rlx_u9 r4 (p.1 9 + 1)
  have et : (tkP p).1 = (lkN (mvN (mdS (tkA p.1), mdF (tkA p.1) p.2) 5) 5).1 := by unfold tkP; rw [ntN_1]; rfl
  refine ⟨?_, by rw [et]; exact i3, j4⟩
  unfold rl
  rw [tk_9, et]
  have e1 := rlx_s r3 1 (by omega) (by omega)
  unfold rTk rT9 rN5
  rw [e1, r4.2.1]
  exact r5
theorem q_went' {p : zP} (h : rl p.1 p.2 f) : rWent (rT0 f) ↔ ¬ tkR p < 2 := q_went (q_T0 h)
theorem q_all {p : zP} (h : rl p.1 p.2 f) (hF : ivF p.2) : rAllN (rT0 f) 5 ↔ aoAll p.1 p.2 := by
  have r0 := q_T0 h
  have e1 := rlx_s r0 1 (by omega) (by omega)
  rw [upd_o _ _ (by omega : ¬ 1 = 2), tkA_v p.1 (by omega) (by omega) (by omega) (by omega)] at e1
  unfold rAllN aoAll aoC
  have step : ∀ c, c < 5 → ((¬ rHas (rT0 f) c (rT0 f 1) ∨ rT0 f (21 + 6 * c) = 100) ↔ ¬ (hasC p.2 c (p.1 1) ∧ ¬ 100 ≤ p.2 1 c)) := by
    intro c hc
    rw [e1, q_has r0 hc, rlx_c0 r0 hc]
    have hc1 := (hF.1 c hc).2.1
    have h100 : (100 : Int32).toInt = 100 := rfl
    constructor
    · intro q hq
      rcases q with q | q
      · exact q hq.1
      · exact hq.2 (by rw [q]; exact p_le.mpr (Int.le_refl _))
    · intro q
      by_cases h1 : hasC p.2 c (p.1 1)
      · right
        by_cases h2 : 100 ≤ p.2 1 c
        · exact p_eq.mpr (by have := p_le.mp h2; omega)
        · exact absurd ⟨h1, h2⟩ q
      · exact Or.inl h1
  exact ⟨fun q c hc => (step c hc).mp (q c hc), fun q c hc => (step c hc).mpr (q c hc)⟩
end TICKS
