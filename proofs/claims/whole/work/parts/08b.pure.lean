section ASKS
variable {F : Nat → Nat → Int32} {S : Nat → Int32} {f : Nat → Int32} {N : Int}
theorem ivS_w {M : Int} (h : ivS N S) (hM : N ≤ M) : ivS M S := by
  unfold ivS at h ⊢; omega
/-- the two states agree and keep to their ranges -/
def agr (N : Int) (p : zP) (f : Nat → Int32) : Prop := rl p.1 p.2 f ∧ ivS N p.1 ∧ ivF p.2
theorem agr_w {p : zP} {M : Int} (h : agr N p f) (hM : N ≤ M) : agr M p f := ⟨h.1, ivS_w h.2.1 hM, h.2.2⟩
theorem agr_t {p : zP} (h : agr N p f) (hN : N ≤ 2000000) : agr (N + 1) (tkP p) (rTk f) := q_tick h.1 h.2.1 h.2.2 hN
theorem agr_s {p : zP} (h : agr N p f) {k : Nat} (hk : k < 16) : f k = p.1 k := rl_s h.1 k hk
theorem agr_o {p : zP} (h : agr N p f) {c : Nat} (hc : c < 5) : f (21 + 6 * c) = p.2 1 c := rlx_c0 h.1 hc
theorem q_to {c : Nat} (hc : c < 5) : ∀ (k t : Nat) (p : zP) (q : zTq) (N : Int), agr N p q.1 → N + k ≤ 2000000 → toR c (k + 1) t p = rtoA c (rtoT c k t q)
  | 0, t, p, q, N, h, _ => by
    show (if p.2 1 c = 100 then nI t else (-1 : Int32)) = if q.1 (21 + 6 * c) = 100 then nI t else -1
    rw [agr_o h hc]
  | k + 1, t, p, q, N, h, hN => by
    have e := agr_o h hc
    have hv := (h.2.2.1 c hc).2.1
    have h100 : (100 : Int32).toInt = 100 := rfl
    by_cases hq : p.2 1 c = 100
    · have e1 : rtoT c (k + 1) t q = (t, q) := by unfold rtoT; rw [if_pos (by rw [e, hq]; exact p_le.mpr (Int.le_refl _))]
      rw [e1]
      unfold toR rtoA
      rw [if_pos hq, if_pos (by show q.1 (21 + 6 * c) = 100; rw [e, hq])]
    · have e1 : rtoT c (k + 1) t q = rtoT c k (t + 1) (rTq q) := by
        rw [rtoT, if_neg (fun z => hq (p_eq.mpr (by have := p_le.mp z; rw [e] at this; omega)))]
      rw [e1, toR, if_neg hq]
      exact q_to hc k (t + 1) (tkP p) (rTq q) (N + 1) (agr_t h (by omega)) (by omega)
theorem q_ne1 (x : Int32) : ¬ x + 1 = x := by
  intro h
  have h1 : x + 1 - x = x - x := by rw [h]
  rw [Int32.sub_self, Int32.add_comm, Int32.add_sub_cancel] at h1
  exact absurd h1 (by decide)
theorem q_ps (c0 : Int32) : ∀ (k t : Nat) (p : zP) (q : zTq) (N : Int), agr N p q.1 → N + k ≤ 2000000 → p.1 10 = c0 →
    agr (N + k) (tuP k p) (rpsT c0 k t q).2.1 ∧ ((tuR k (t + 1) p = -1 ∧ (rpsT c0 k t q).2.1 10 = c0 ∧ (rpsT c0 k t q).1 = t + k) ∨ (tuR k (t + 1) p = nI (rpsT c0 k t q).1 ∧ ¬ (rpsT c0 k t q).2.1 10 = c0 ∧ t < (rpsT c0 k t q).1 ∧ (rpsT c0 k t q).1 ≤ t + k))
  | 0, t, p, q, N, h, _, h10 => ⟨agr_w h (by omega), Or.inl ⟨rfl, by show q.1 10 = c0; rw [agr_s h (by omega), h10], rfl⟩⟩
  | k + 1, t, p, q, N, h, hN, h10 => by
    have e10 : q.1 10 = c0 := by rw [agr_s h (by omega), h10]
    have ht := agr_t h (by omega)
    have e1 : rpsT c0 (k + 1) t q = rpsT c0 k (t + 1) (rTq q) := by rw [rpsT, if_pos e10]
    rw [e1]
    by_cases h3 : tkR p = 3
    · have e11 : (rTq q).1 10 = c0 + 1 := by
        have := agr_s ht (k := 10) (by omega)
        show rTk q.1 10 = _
        rw [this, tk_10, h10, bI_t h3]
      have e2 : rpsT c0 k (t + 1) (rTq q) = (t + 1, rTq q) := by
        cases k with
        | zero => rfl
        | succ k => rw [rpsT, if_neg (by rw [e11]; exact q_ne1 c0)]
      rw [e2, tuR, tuP, if_pos h3, if_pos h3]
      refine ⟨agr_w ht (by omega), Or.inr ⟨rfl, by show ¬ (rTq q).1 10 = c0; rw [e11]; exact q_ne1 c0, by show t < t + 1; omega, by show t + 1 ≤ _; omega⟩⟩
    · have e11 : (tkP p).1 10 = c0 := by rw [tk_10, h10, bI_f h3, Int32.add_zero]
      rw [tuR, tuP, if_neg h3, if_neg h3]
      obtain ⟨i1, i2⟩ := q_ps c0 k (t + 1) (tkP p) (rTq q) (N + 1) ht (by omega) e11
      refine ⟨agr_w i1 (by omega), ?_⟩
      rcases i2 with ⟨a1, a2, a3⟩ | ⟨a1, a2, a3, a4⟩
      · exact Or.inl ⟨a1, a2, by rw [a3]; omega⟩
      · exact Or.inr ⟨a1, a2, by omega, by omega⟩
/-- passing to the end of a cycle, in at most M ticks -/
theorem q_cy {p : zP} {q : zTq} (M : Nat) (h : agr N p q.1) (hN : N + M ≤ 2000000) : agr (N + M) (tuP M p) (rpsQ M q).1 ∧ ((tuR M 1 p = -1 ∧ rpsR M q = M + 1) ∨ (tuR M 1 p = nI (rpsR M q) ∧ 0 < rpsR M q ∧ rpsR M q ≤ M)) := by
  have hp := q_ps (q.1 10) M 0 p q N h hN (agr_s h (by omega)).symm
  unfold rpsQ rpsR
  refine ⟨hp.1, ?_⟩
  rcases hp.2 with ⟨a1, a2, a3⟩ | ⟨a1, a2, a3, a4⟩
  · rw [if_pos a2]; exact Or.inl ⟨a1, rfl⟩
  · rw [if_neg a2]; exact Or.inr ⟨a1, a3, by omega⟩
theorem q_n1 {k : Nat} (h : k < 2 ^ 31) : ¬ nI k = -1 := fun e => by
  have e1 := p_eq.mp e
  rw [nI_toInt h, show ((-1 : Int32)).toInt = -1 from rfl] at e1
  omega
theorem q_tc {p : zP} {q : zTq} (h : agr N p q.1) (hN : N ≤ 1000000) : tuR 1000 1 p = rtcR q := by
  unfold rtcR
  rcases (q_cy (q := q) 1000 h (by omega)).2 with ⟨a1, a2⟩ | ⟨a1, a2, a3⟩
  · rw [a1, a2, if_neg (by decide)]
  · rw [a1, if_pos (show nI (rpsR 1000 q) ≤ (1000 : Int32) from (nI_leI (a := rpsR 1000 q) (b := 1000) (by omega) (by omega)).mpr a3)]
/-! the least compressor -/
theorem tkN_f (p : zP) : ∀ k, tkN (tkP p) k = tkN p (k + 1)
  | 0 => rfl
  | k + 1 => by show tkP (tkN (tkP p) k) = tkP (tkN p (k + 1)); rw [tkN_f p k]
theorem rTi_f (q : zTq) : ∀ k, rTi (rTq q) k = rTi q (k + 1)
  | 0 => rfl
  | k + 1 => by show rTq (rTi (rTq q) k) = rTq (rTi q (k + 1)); rw [rTi_f q k]
theorem q_ti {p : zP} {q : zTq} (h : agr N p q.1) : ∀ k : Nat, N + k ≤ 2000000 → agr (N + k) (tkN p k) (rTi q k).1
  | 0, _ => agr_w h (by omega)
  | k + 1, hN => agr_w (agr_t (q_ti h k (by omega)) (by omega)) (by omega)
theorem q_sk {p : zP} (h : agr N p f) (hN : N ≤ 2000000) : ((tkP p).1 11).toInt = (p.1 11).toInt + (if tkR p = 1 then 1 else 0) := by
  have h9 := h.2.1.2.2.2.2.2.2.2.2.1
  have h11 := h.2.1.2.2.2.2.2.2.2.2.2.2.1
  rw [tk_11]
  by_cases h1 : tkR p = 1
  · rw [bI_t h1, if_pos h1, q_1 _ (by omega)]
  · rw [bI_f h1, if_neg h1, Int32.add_zero]; omega
theorem q_gs : ∀ (k : Nat) (p : zP) (q : zTq) (N : Int), agr N p q.1 → N + k ≤ 2000000 → (p.1 11).toInt ≤ ((tkN p k).1 11).toInt ∧ ((tkN p k).1 11 = p.1 11 ↔ ¬ gsR k p = 0)
  | 0, p, q, N, h, _ => ⟨Int.le_refl _, by show p.1 11 = p.1 11 ↔ ¬ (1 : Int32) = 0; exact ⟨fun _ => by decide, fun _ => rfl⟩⟩
  | k + 1, p, q, N, h, hN => by
    have ht := agr_t h (by omega)
    obtain ⟨i1, i2⟩ := q_gs k (tkP p) (rTq q) (N + 1) ht (by omega)
    have hs := q_sk h (by omega)
    rw [← tkN_f, gsR]
    by_cases h1 : tkR p = 1
    · rw [if_pos h1] at hs ⊢
      exact ⟨by omega, fun z => absurd (p_eq.mp z) (by omega), fun z => absurd rfl z⟩
    · rw [if_neg h1] at hs ⊢
      have e : (tkP p).1 11 = p.1 11 := p_eq.mpr (by omega)
      rw [← e]
      exact ⟨i1, i2⟩
theorem agr_7 {p : zP} (h : agr N p f) {v : Int32} (hv : 0 ≤ v.toInt ∧ v.toInt ≤ 500) : agr N (upd p.1 7 v, p.2) (upd f 7 v) := by
  refine ⟨?_, ?_, h.2.2⟩
  · show rlx (upd p.1 7 v 9) (upd p.1 7 v) p.2 (upd f 7 v)
    rw [upd_o _ _ (by omega)]; exact rlx_us h.1 7 (by omega) (by omega) v
  · show ivS N (upd p.1 7 v)
    have h2 := h.2.1
    unfold ivS at h2 ⊢; simp (disch := omega) only [upd_o, upd_s]
    obtain ⟨h0, h1, h2, h3, h5, h6, h7, h8⟩ := h2; exact ⟨h0, h1, h2, h3, h5, h6, hv, h8⟩
theorem q_lc1 {p : zP} {w : Int32 × Int32} (h : agr N p f) (T z : Nat) (hz : z ≤ 50) (hN : N + T ≤ 2000000) : (rTi (upd f 7 (nI (10 * z)), w.1, w.2) T).1 11 = f 11 ↔ ¬ gsR T (upd p.1 7 (nI (10 * z)), p.2) = 0 := by
  have h7 := agr_7 h (v := nI (10 * z)) (by rw [nI_toInt (by omega)]; omega)
  have hi := q_ti (q := (upd f 7 (nI (10 * z)), w.1, w.2)) h7 T (by omega)
  have hg := (q_gs T _ (upd f 7 (nI (10 * z)), w.1, w.2) N h7 (by omega)).2
  rw [agr_s hi (by omega), agr_s h (k := 11) (by omega), ← hg]
  show _ ↔ _ = upd p.1 7 (nI (10 * z)) 11
  rw [upd_o p.1 _ (by omega : ¬ 11 = 7)]
theorem q_lc {p : zP} (h : agr N p f) (T : Nat) (hN : N + T ≤ 2000000) : ∀ (z k : Nat) (w : Int32 × Int32), z ≤ 51 → (rlcN T f z (lcR T p.1 p.2 k z) w).1 = lcR T p.1 p.2 (k + z) 0
  | 0, k, w, _ => rfl
  | z + 1, k, w, hz => by
    have h1 := q_lc1 (w := w) h T z (by omega) hN
    have e : (if (rTi (upd f 7 (nI (10 * z)), w.1, w.2) T).1 11 = f 11 then nI (10 * z) else lcR T p.1 p.2 k (z + 1)) = lcR T p.1 p.2 (k + 1) z := by
      rw [lcR]
      by_cases hg : gsR T (upd p.1 7 (nI (10 * z)), p.2) = 0
      · rw [if_pos hg, if_neg (fun q => h1.mp q hg)]
      · rw [if_neg hg, if_pos (h1.mpr hg)]
    rw [rlcN, e, q_lc h T hN z (k + 1) _ (by omega)]
    congr 1; omega
/-! the shortest dwell -/
theorem rlx_F1 {x : Int32} {g g' : Nat → Int32} (h : rlx x S (zU F 1 g) f) (hg : ∀ c, c < 5 → g c = g' c) : rlx x S (zU F 1 g') f := by
  refine ⟨h.1, h.2.1, fun j hj => rlx_t h j hj, fun j t hj ht => ?_, fun j t hj hj8 ht => ?_, fun k hk => rlx_h h k hk, fun k hk => rlx_k h k hk⟩
  · have := rlx_c h j t hj ht
    by_cases e : t = 0
    · subst e; rw [this]; show zU F 1 g 1 j = zU F 1 g' 1 j; rw [zU_s, zU_s]; exact hg j hj
    · rw [this, zU_o _ _ (by omega), zU_o _ _ (by omega)]
  · have := rlx_g h j t hj hj8 ht
    rw [this, zU_o _ _ (by omega), zU_o _ _ (by omega)]
theorem zU_1 (F : Nat → Nat → Int32) : zU F 1 (F 1) = F := by
  funext k; unfold zU; by_cases e : k = 1
  · rw [if_pos e, e]
  · rw [if_neg e]
theorem zU_w (F : Nat → Nat → Int32) (r : Nat) (g g' : Nat → Int32) : zU (zU F r g) r g' = zU F r g' := by
  funext k; unfold zU; by_cases e : k = r
  · rw [if_pos e, if_pos e]
  · rw [if_neg e, if_neg e, if_neg e]
def z5F (F : Nat → Int32) : Nat → Nat → Int32
  | 0 => F
  | c + 1 => upd (z5F F c) c 0
theorem z5F_v (g : Nat → Int32) : ∀ k c, c < k → z5F g k c = 0
  | 0, c, h => absurd h (by omega)
  | k + 1, c, h => by
    show upd (z5F g k) k 0 c = 0
    by_cases e : c = k
    · rw [e, upd_s]
    · rw [upd_o _ _ e]; exact z5F_v g k c (by omega)
theorem q_z5 {x : Int32} (h : rlx x S F f) : ∀ k, k ≤ 5 → rlx x S (zU F 1 (z5F (F 1) k)) (z5N f k)
  | 0, _ => by show rlx x S (zU F 1 (F 1)) f; rw [zU_1]; exact h
  | k + 1, hk => by
    have r := rlx_uc0 (q_z5 h k (by omega)) (c := k) (by omega) 0
    rw [zU_s, zU_w] at r
    exact r
theorem q_dz {p : zP} (h : agr N p f) {d : Nat} (hd : 1 ≤ d ∧ d ≤ 20) : agr N (ds0 p.1 p.2 d) (rdz0 f d) := by
  have r1 := rlx_us (rlx_us (rlx_us h.1 3 (by omega) (by omega) (nI d)) 1 (by omega) (by omega) 0) 2 (by omega) (by omega) 0
  have r2 := rlx_F1 (q_z5 r1 5 (by omega)) (z5F_v (p.2 1) 5)
  have ed := nI_toInt (n := d) (by omega)
  have e : upd (upd (upd p.1 3 (nI d)) 1 0) 2 0 = upd (upd (upd p.1 1 0) 2 0) 3 (nI d) := by
    rw [upd_cm p.1 _ _ (by omega : ¬ 3 = 1), upd_cm (upd p.1 1 0) _ _ (by omega : ¬ 3 = 2)]
  rw [e] at r2
  refine ⟨?_, ?_, ?_⟩
  · unfold ds0
    show rlx (upd (upd (upd p.1 1 0) 2 0) 3 (nI d) 9) _ _ _
    rw [upd_o _ _ (by omega), upd_o _ _ (by omega), upd_o _ _ (by omega)]
    exact r2
  · show ivS N (upd (upd (upd p.1 1 0) 2 0) 3 (nI d))
    have h2 := h.2.1
    unfold ivS at h2 ⊢; simp (disch := omega) only [upd_o, upd_s]
    rw [p_0, ed]
    omega
  · show ivF (zU p.2 1 (fun _ => 0))
    refine ⟨fun c hc => ?_, fun g hg => ?_⟩
    · have h1 := h.2.2.1 c hc
      unfold ivC at h1 ⊢
      rw [zU_o _ _ (by omega), zU_s, zU_o _ _ (by omega), zU_o _ _ (by omega), zU_o _ _ (by omega)]
      exact ⟨h1.1, by show 0 ≤ (0 : Int32).toInt ∧ (0 : Int32).toInt ≤ 100; rw [p_0]; omega, h1.2.2⟩
    · have h1 := h.2.2.2 g hg
      unfold ivG at h1 ⊢
      rw [zU_o _ _ (by omega), zU_o _ _ (by omega), zU_o _ _ (by omega)]; exact h1
theorem q_lt1 {x : Int32} (h : 0 ≤ x.toInt ∧ x.toInt ≤ 3000000) : x < x + 1 := p_lt.mpr (by rw [q_1 x (by omega)]; omega)
theorem q_ds (c0 : Int32) : ∀ (k : Nat) (p : zP) (q : zTq) (N : Int), agr N p q.1 → N + k ≤ 2000000 → p.1 10 = c0 → (rdsT c0 k q).1 = dsR k p
  | 0, p, q, N, h, _, h10 => by
    show bI (c0 < q.1 10) = 0
    rw [agr_s h (by omega), h10, bI_f (fun z => absurd (p_lt.mp z) (by omega))]
  | k + 1, p, q, N, h, hN, h10 => by
    have e10 : q.1 10 = c0 := by rw [agr_s h (by omega), h10]
    have ht := agr_t h (by omega)
    have hw := q_went' h.1
    have ha := q_all h.1 h.2.2
    have hiff : (rWent (rT0 q.1) ∧ ¬ rAllN (rT0 q.1) 5) ↔ dsB p := ⟨fun z => ⟨hw.mp z.1, fun y => z.2 (ha.mpr y)⟩, fun z => ⟨hw.mpr z.1, fun y => z.2 (ha.mp y)⟩⟩
    rw [rdsT, if_pos e10, dsR]
    by_cases hb : dsB p
    · rw [if_pos hb, if_pos (hiff.mpr hb)]
    · rw [if_neg hb, if_neg (fun z => hb (hiff.mp z))]
      by_cases h3 : tkR p = 3
      · rw [if_pos h3]
        have e11 : (rTq q).1 10 = c0 + 1 := by
          have := agr_s ht (k := 10) (by omega)
          show rTk q.1 10 = _
          rw [this, tk_10, h10, bI_t h3]
        have hb10 := h.2.1.2.2.2.2.2.2.2.2.2.1
        have hb9 := h.2.1.2.2.2.2.2.2.2.2.1
        have hlt : c0 < (rTq q).1 10 := by rw [e11]; exact q_lt1 (by rw [← h10]; omega)
        cases k with
        | zero => show bI (c0 < (rTq q).1 10) = 1; exact bI_t hlt
        | succ k => rw [rdsT, if_neg (by rw [e11]; exact q_ne1 c0)]; exact bI_t hlt
      · rw [if_neg h3]
        exact q_ds c0 k (tkP p) (rTq q) (N + 1) ht (by omega) (by rw [tk_10, h10, bI_f h3, Int32.add_zero])
theorem q_sd {p : zP} (h : agr N p f) (hN : N ≤ 1000000) : ∀ (k d : Nat) (x : Int32) (w : Int32 × Int32), 1 ≤ d → d + k ≤ 21 → (rsdN f k d x w).1 = if x = -1 then sdR p.1 p.2 k d else x
  | 0, d, x, w, _, _ => by
    show x = if x = -1 then -1 else x
    by_cases e : x = -1
    · rw [if_pos e]; exact e
    · rw [if_neg e]
  | k + 1, d, x, w, h1, hd => by
    rw [rsdN]
    by_cases e : x = -1
    · rw [if_pos e, if_pos e, q_sd h hN k (d + 1) _ _ (by omega) (by omega)]
      have hz := q_dz h (d := d) (by omega)
      have e1 : (rdsA f d w).1 = dsR 1000 (ds0 p.1 p.2 d) := q_ds (rdz0 f d 10) 1000 _ (rdz0 f d, w.1, w.2) N hz (by omega) (agr_s hz (by omega)).symm
      rw [e1, sdR]
      by_cases hq : dsR 1000 (ds0 p.1 p.2 d) = 0
      · rw [if_pos hq, if_pos hq, if_pos rfl]
      · rw [if_neg hq, if_neg hq, if_neg (q_n1 (by omega))]
    · rw [if_neg e, if_neg e]
/-! repeating -/
theorem rrV_1 (b : Int32) (f g : Nat → Int32) (hb : b = 0 ∨ b = 1) : ∀ i, (rrV b f g i = 0 ∨ rrV b f g i = 1) ∧ (rrV b f g i = 1 ↔ b = 1 ∧ ∀ j, j < i → rbh f j = rbh g j)
  | 0 => ⟨hb, ⟨fun h => ⟨h, fun j hj => absurd hj (by omega)⟩, fun h => h.1⟩⟩
  | i + 1 => by
    obtain ⟨i1, i2⟩ := rrV_1 b f g hb i
    rw [rrV]
    rcases i1 with i1 | i1
    · rw [if_pos i1]
      refine ⟨Or.inl rfl, fun h => absurd h (by decide), fun h => ?_⟩
      have := i2.mpr ⟨h.1, fun j hj => h.2 j (by omega)⟩
      rw [i1] at this; exact this
    · rw [if_neg (by rw [i1]; decide)]
      have hh := i2.mp i1
      by_cases e : rbh f i = rbh g i
      · rw [bI_t e]
        refine ⟨Or.inr rfl, fun _ => ⟨hh.1, fun j hj => ?_⟩, fun _ => rfl⟩
        by_cases ej : j = i
        · rw [ej]; exact e
        · exact hh.2 j (by omega)
      · rw [bI_f e]
        exact ⟨Or.inl rfl, fun h => absurd h (by decide), fun h => absurd (h.2 i (by omega)) e⟩
theorem q_same {p p' : zP} {f g : Nat → Int32} {M : Int} (h : agr N p f) (h' : agr M p' g) : (∀ j, j < 8 → rbh f j = rbh g j) ↔ saAll p'.1 p.1 p'.2 p.2 := by
  have key : ∀ (p : zP) (f : Nat → Int32) (N : Int), agr N p f → rbh f 0 = p.1 1 ∧ rbh f 1 = p.1 2 ∧ rbh f 2 = p.1 5 ∧ ∀ c, c < 5 → rbh f (c + 3) = p.2 1 c := by
    intro p f N h
    refine ⟨agr_s h (by omega), agr_s h (by omega), agr_s h (by omega), fun c hc => ?_⟩
    unfold rbh
    rw [if_neg (by omega), if_neg (by omega), if_neg (by omega), Nat.add_sub_cancel]
    exact agr_o h hc
  obtain ⟨a0, a1, a2, a3⟩ := key p f N h
  obtain ⟨b0, b1, b2, b3⟩ := key p' g M h'
  unfold saAll
  constructor
  · intro z
    refine ⟨fun c hc => ?_, ?_, ?_, ?_⟩
    · rw [← b3 c hc, ← a3 c hc]; exact (z (c + 3) (by omega)).symm
    · rw [← a0, ← b0]; exact (z 0 (by omega)).symm
    · rw [← a1, ← b1]; exact (z 1 (by omega)).symm
    · rw [← a2, ← b2]; exact (z 2 (by omega)).symm
  · intro z j hj
    by_cases e0 : j = 0
    · rw [e0, a0, b0]; exact z.2.1.symm
    · by_cases e1 : j = 1
      · rw [e1, a1, b1]; exact z.2.2.1.symm
      · by_cases e2 : j = 2
        · rw [e2, a2, b2]; exact z.2.2.2.symm
        · obtain ⟨c, rfl⟩ : ∃ c, j = c + 3 := ⟨j - 3, by omega⟩
          rw [a3 c (by omega), b3 c (by omega)]; exact (z.1 c (by omega)).symm
theorem q_rp {p : zP} {q : zTq} (h : agr N p q.1) (hN : N ≤ 1000000) : rpR p.1 p.2 = rrpR q := by
  obtain ⟨c1, c2⟩ := q_cy (q := q) 2000 h (by omega)
  unfold rpR rrpR
  show (if tuR 2000 1 p = -1 then (0 : Int32) else _) = _
  rcases c2 with ⟨a1, a2⟩ | ⟨a1, a2, a3⟩
  · rw [if_pos a1, if_pos (by rw [a2]; decide)]
  · have ej : rpJ p.1 p.2 = rpsR 2000 q := by
      show nN (tuR 2000 1 p) = _
      rw [a1, nN_nI (by omega)]
    rw [if_neg (by rw [a1]; exact q_n1 (by omega)), if_neg (show ¬ (2000 : Int32) < nI (rpsR 2000 q) from fun z => absurd ((nI_ltI (a := 2000) (b := rpsR 2000 q) (by omega) (by omega)).mp z) (by omega))]
    unfold rpB rrB
    rw [ej]
    obtain ⟨d1, d2⟩ := q_cy (q := rpsQ 2000 q) (2000 - rpsR 2000 q) c1 (by omega)
    show (if tuR (2000 - rpsR 2000 q) 1 (tuP 2000 p) = -1 then (0 : Int32) else bI (saAll (tuP (2000 - rpsR 2000 q) (tuP 2000 p)).1 (tuP 2000 p).1 (tuP (2000 - rpsR 2000 q) (tuP 2000 p)).2 (tuP 2000 p).2)) = _
    rcases d2 with ⟨b1, b2⟩ | ⟨b1, b2, b3⟩
    · rw [if_pos b1]
      have hb : bI (¬ nI (2000 - rpsR 2000 q) < nI (rpsR (2000 - rpsR 2000 q) (rpsQ 2000 q))) = 0 := bI_f (fun z => z ((nI_ltI (by omega) (by omega)).mpr (by omega)))
      rw [hb, bI_f]
      intro z
      exact absurd (((rrV_1 0 _ _ (Or.inl rfl) 8).2.mp z).1) (by decide)
    · rw [if_neg (by rw [b1]; exact q_n1 (by omega))]
      have hb : bI (¬ nI (2000 - rpsR 2000 q) < nI (rpsR (2000 - rpsR 2000 q) (rpsQ 2000 q))) = 1 := bI_t (fun z => absurd ((nI_ltI (by omega) (by omega)).mp z) (by omega))
      rw [hb]
      have hv := (rrV_1 1 (rpsQ 2000 q).1 (rpsQ (2000 - rpsR 2000 q) (rpsQ 2000 q)).1 (Or.inr rfl) 8).2
      have hs := q_same c1 d1
      by_cases e : saAll (tuP (2000 - rpsR 2000 q) (tuP 2000 p)).1 (tuP 2000 p).1 (tuP (2000 - rpsR 2000 q) (tuP 2000 p)).2 (tuP 2000 p).2
      · rw [bI_t e, bI_t (hv.mpr ⟨rfl, hs.mpr e⟩)]
      · rw [bI_f e, bI_f (fun z => e (hs.mp (hv.mp z).2))]
end ASKS
section PARSE
variable {f : Nat → Int32} {L n n0 : Nat}
/-- the text has bytes -/
def txB (f : Nat → Int32) (L : Nat) : Prop := ∀ i, i < L → 0 ≤ (f i).toInt ∧ (f i).toInt ≤ 127
theorem tb_v (h : txB f L) (i : Nat) : -1 ≤ (tb f L i).toInt ∧ (tb f L i).toInt ≤ 127 := by
  unfold tb
  by_cases e : i < L
  · rw [if_pos e]; have := h i e; omega
  · rw [if_neg e]; decide
theorem q_rkL : ∀ (k i p : Nat) (x : Int32), p + k < 1000000 → (rkL f L k i p x).2.1 < 1000000 ∧ rtL f L k i (-1, p, x) = (if (rkL f L k i p x).1 = 0 then nI (rkL f L k i p x).2.1 else -1, (rkL f L k i p x).2.1, (rkL f L k i p x).2.2)
  | 0, i, p, x, hp => ⟨by show p < _; omega, rfl⟩
  | k + 1, i, p, x, hp => by
    rw [rtL, if_pos rfl, rkL]
    unfold rtS
    by_cases e1 : tb f L p = 120
    · rw [if_pos e1, if_pos e1]
      exact q_rkL k (i + 1) (p + 1) _ (by omega)
    · rw [if_neg e1, if_neg e1]
      unfold psF psA
      by_cases e2 : tb f L p = 46
      · rw [if_pos e2, if_pos e2, if_pos e2, Int32.or_zero]
        exact q_rkL k (i + 1) (p + 1) _ (by omega)
      · rw [if_neg e2, if_neg e2, if_neg e2]
        refine ⟨by show p < _; omega, ?_⟩
        rw [if_pos (show ((0, p, x) : Int32 × Nat × Int32).1 = 0 from rfl)]
        cases k with
        | zero => rfl
        | succ k => rw [rtL, if_neg (show ¬ nI p = -1 from q_n1 (by omega))]
theorem rkL_p : ∀ (k i p : Nat) (x : Int32), p ≤ (rkL f L k i p x).2.1
  | 0, _, _, _ => Nat.le_refl _
  | k + 1, i, p, x => by
    rw [rkL]
    split
    · have := rkL_p k (i + 1) (p + 1) (x ||| (1 <<< (nI i &&& 31))); omega
    · split
      · have := rkL_p k (i + 1) (p + 1) (x ||| 0); omega
      · exact Nat.le_refl _
theorem rkL_1 : ∀ (k i p : Nat) (x : Int32), (rkL f L k i p x).1 = 0 ∨ (rkL f L k i p x).1 = 1
  | 0, _, _, _ => Or.inr rfl
  | k + 1, i, p, x => by
    rw [rkL]
    split
    · exact rkL_1 k _ _ _
    · split
      · exact rkL_1 k _ _ _
      · exact Or.inl rfl
theorem rtL_bad (k j : Nat) (z : zZ) (h : ¬ z.1 = -1) : rtL f L k j z = z := by
  cases k with
  | zero => rfl
  | succ k => rw [rtL, if_neg h]
theorem q_rtK (h : txB f L) (p : Nat) : rtK f L p ↔ 48 ≤ tb f L p ∧ tb f L p ≤ 52 := by
  have hv := tb_v h p
  have e48 : (48 : Int32).toInt = 48 := rfl
  have e52 : (52 : Int32).toInt = 52 := rfl
  have e4 : (4 : Int32).toInt = 4 := rfl
  unfold rtK
  have es : (tb f L p - 48).toInt = (tb f L p).toInt - 48 := by rw [p_sub (by omega), e48]
  rw [p_le, p_le, p_le, p_le, p_0, e48, e52, e4, es]
  omega
/-- one track -/
theorem q_trk (h : txB f L) {p : Nat} (hp : p ≤ 1000) (hn : n ≤ 16) (t : Nat → Int32) :
    ((rkR f L n p t).1 = 0 ∧ (rkR f L n p t).2.1 < 1000000 ∧ rtF f L n p (-1) = nI (rkR f L n p t).2.1) ∨ ((rkR f L n p t).1 = 1 ∧ p < (rkR f L n p t).2.1 ∧ rdS f L n (-1, p, t) = (-1, (rkR f L n p t).2.1, (rkR f L n p t).2.2)) := by
  have hK := q_rtK h p
  unfold rdS
  show (_ ∧ _ ∧ _) ∨ (_ ∧ _ ∧ (rtF f L n p (-1), rtA f L n p (-1), rtT f L n p (-1) t) = _)
  unfold rtF rtA rtT rkR
  by_cases e1 : 48 ≤ tb f L p ∧ tb f L p ≤ 52
  · simp only [if_pos e1, if_pos (hK.mpr e1)]
    unfold rtZ psF psA
    by_cases e2 : tb f L (p + 1) = 58
    · simp only [if_pos e2]
      obtain ⟨hb, hr⟩ := q_rkL (f := f) (L := L) n 0 (p + 2) 0 (by omega)
      have hq := rkL_p (f := f) (L := L) n 0 (p + 2) 0
      rw [show p + 1 + 1 = p + 2 from rfl, hr]
      rcases rkL_1 (f := f) (L := L) n 0 (p + 2) 0 with e3 | e3
      · left
        simp only [if_pos e3]
        refine ⟨trivial, hb, ?_⟩
        rw [if_neg (q_n1 (by omega))]
      · have e3' : ¬ (rkL f L n 0 (p + 2) 0).1 = 0 := by rw [e3]; decide
        simp only [if_neg e3']
        by_cases e4 : tb f L (rkL f L n 0 (p + 2) 0).2.1 = 59
        · right
          simp only [if_pos e4]
          refine ⟨bI_t e4, by omega, rfl⟩
        · left
          simp only [if_neg e4]
          exact ⟨bI_f e4, hb, rfl⟩
    · simp only [if_neg e2]
      left
      rw [rtL_bad n 0 _ (q_n1 (by omega))]
      exact ⟨trivial, by omega, by rw [if_neg (q_n1 (by omega))]⟩
  · simp only [if_neg e1, if_neg (fun q => e1 (hK.mp q))]
    exact Or.inl ⟨trivial, by omega, trivial⟩
/-- what the two readers agree on -/
def agZ (z : zR) (y : zKt) : Prop := (z.1 = -1 ∧ y.1 = 1 ∧ z.2.2 = y.2.2) ∨ (y.1 = 0 ∧ z.1 = nI y.2.1 ∧ y.2.1 < 1000000)
theorem rdL_bad (k : Nat) (z : zR) (h : ¬ z.1 = -1) : rdL f L n k z = z := by
  cases k with
  | zero => rfl
  | succ k => rw [rdL, if_neg (fun q => h q.1)]
theorem rwL_bad (k : Nat) (z : zKt) (h : z.1 = 0) : rwL f L n k z = z := by
  cases k with
  | zero => rfl
  | succ k => rw [rwL, if_pos h]
theorem q_rdL (h : txB f L) (hL : L ≤ 100) (hn : n ≤ 16) : ∀ (m k k' p : Nat) (t : Nat → Int32), L - p ≤ m → m ≤ k → m ≤ k' → agZ (rdL f L n k (-1, p, t)) (rwL f L n k' (1, p, t))
  | 0, k, k', p, t, h0, _, _ => by
    have e1 : rdL f L n k (-1, p, t) = (-1, p, t) := by
      cases k with
      | zero => rfl
      | succ k => rw [rdL, if_neg (fun q => absurd q.2 (show ¬ p < L by omega))]
    have e2 : rwL f L n k' (1, p, t) = (1, p, t) := by
      cases k' with
      | zero => rfl
      | succ k => rw [rwL, if_neg (by show ¬ (1 : Int32) = 0; decide), if_neg (show ¬ p < L by omega)]
    rw [e1, e2]; exact Or.inl ⟨rfl, rfl, rfl⟩
  | m + 1, k, k', p, t, h0, hk, hk' => by
    by_cases hp : p < L
    · cases k with
      | zero => omega
      | succ k =>
        cases k' with
        | zero => omega
        | succ k' =>
          rw [rdL, if_pos ⟨rfl, hp⟩, rwL, if_neg (by show ¬ (1 : Int32) = 0; decide), if_pos hp]
          rcases q_trk h (p := p) (by omega) hn t with ⟨a1, a2, a3⟩ | ⟨a1, a2, a3⟩
          · rw [rwL_bad k' _ a1, rdL_bad k (rdS f L n (-1, p, t)) (show ¬ rtF f L n p (-1) = -1 by rw [a3]; exact q_n1 (by omega))]
            exact Or.inr ⟨a1, a3, a2⟩
          · rw [a3]
            show agZ _ (rwL f L n k' (rkR f L n p t))
            generalize (rkR f L n p t) = R at *
            obtain ⟨r1, r2, r3⟩ := R
            have a1' : r1 = 1 := a1
            have a2' : p < r2 := a2
            subst a1'
            exact q_rdL h hL hn m k k' r2 r3 (by omega) (by omega) (by omega)
    · have e1 : rdL f L n k (-1, p, t) = (-1, p, t) := by
        cases k with
        | zero => rfl
        | succ k => rw [rdL, if_neg (fun q => absurd q.2 hp)]
      have e2 : rwL f L n k' (1, p, t) = (1, p, t) := by
        cases k' with
        | zero => rfl
        | succ k => rw [rwL, if_neg (by show ¬ (1 : Int32) = 0; decide), if_neg hp]
      rw [e1, e2]; exact Or.inl ⟨rfl, rfl, rfl⟩
/-- the number of steps -/
theorem q_rz (q : Nat) (st : Int32) :
    (rsS f L q st = (rzR f L q st).2.2) ∧ (((rzR f L q st).1 = 0 ∧ rsF f L q (-1) = nI (rzR f L q st).2.1 ∧ (rzR f L q st).2.1 ≤ q + 2) ∨ ((rzR f L q st).1 = 1 ∧ rsF f L q (-1) = -1 ∧ rsA f L q 0 = (rzR f L q st).2.1 ∧ rsK f L q)) := by
  unfold rsS rsF rsA rsK rzR rzE psF psA
  by_cases d0 : tdg f L q
  · simp only [if_pos d0]
    by_cases d1 : tdg f L (q + 1)
    · have eB : rsB f L q = q + 1 + 1 := if_pos d1
      have eT : rsT f L q = 10 * (0 + tb f L q - 48) + tb f L (q + 1) - 48 := if_pos d1
      rw [eB, eT]
      simp only [if_pos d1]
      by_cases d2 : tdg f L (q + 1 + 1)
      · simp only [if_pos d2]
        rw [if_neg (fun z => z.2.1 d2)]
        refine ⟨?_, Or.inl ⟨?_, ?_, by omega⟩⟩ <;> first | trivial | rfl
      · simp only [if_neg d2]
        by_cases d3 : 2 ≤ 10 * (0 + tb f L q - 48) + tb f L (q + 1) - 48 ∧ 10 * (0 + tb f L q - 48) + tb f L (q + 1) - 48 ≤ 16
        · simp only [if_pos d3]
          rw [if_pos ⟨d0, d2, d3⟩]
          refine ⟨by first | trivial | rfl, ?_⟩
          by_cases d4 : tb f L (q + 1 + 1) = 59
          · simp only [if_pos d4]
            exact Or.inr ⟨bI_t d4, trivial, by rw [if_pos ⟨d0, d2, d3⟩], d0, d2, d3⟩
          · simp only [if_neg d4]
            exact Or.inl ⟨bI_f d4, trivial, by omega⟩
        · simp only [if_neg d3]
          rw [if_neg (fun z => d3 z.2.2)]
          refine ⟨?_, Or.inl ⟨?_, ?_, by omega⟩⟩ <;> first | trivial | rfl
    · have eB : rsB f L q = q + 1 := if_neg d1
      have eT : rsT f L q = 0 + tb f L q - 48 := if_neg d1
      rw [eB, eT]
      simp only [if_neg d1]
      by_cases d3 : 2 ≤ 0 + tb f L q - 48 ∧ 0 + tb f L q - 48 ≤ 16
      · simp only [if_pos d3]
        rw [if_pos ⟨d0, d1, d3⟩]
        refine ⟨by first | trivial | rfl, ?_⟩
        by_cases d4 : tb f L (q + 1) = 59
        · simp only [if_pos d4]
          exact Or.inr ⟨bI_t d4, trivial, by rw [if_pos ⟨d0, d1, d3⟩], d0, d1, d3⟩
        · simp only [if_neg d4]
          exact Or.inl ⟨bI_f d4, trivial, by omega⟩
      · simp only [if_neg d3]
        rw [if_neg (fun z => d3 z.2.2)]
        refine ⟨?_, Or.inl ⟨?_, ?_, by omega⟩⟩ <;> first | trivial | rfl
  · simp only [if_neg d0]
    rw [if_neg (fun z => d0 z.1)]
    refine ⟨?_, Or.inl ⟨?_, ?_, by omega⟩⟩ <;> first | trivial | rfl
theorem rsK_v (h : rsK f L 1) : 2 ≤ nN (rsT f L 1) ∧ nN (rsT f L 1) ≤ 16 := by
  have a := p_le.mp h.2.2.1
  have b := p_le.mp h.2.2.2
  have e2 : (2 : Int32).toInt = 2 := rfl
  have e16 : (16 : Int32).toInt = 16 := rfl
  show 2 ≤ (rsT f L 1).toInt.toNat ∧ (rsT f L 1).toInt.toNat ≤ 16
  omega
theorem rdn_v (hn : 2 ≤ n0 ∧ n0 ≤ 16) : 2 ≤ rdn f L n0 ∧ rdn f L n0 ≤ 16 := by
  unfold rdn rsS
  by_cases e : rdN f L
  · rw [if_pos e]
    by_cases hk : rsK f L 1
    · rw [if_pos hk]; exact rsK_v hk
    · rw [if_neg hk, nI_clamp (by omega)]; exact hn
  · rw [if_neg e]; exact hn
theorem q_rdn (hn : 2 ≤ n0 ∧ n0 ≤ 16) : rdn f L n0 = rtm f L n0 := by
  unfold rdn rtm rt0
  by_cases e : rdN f L
  · rw [if_pos e, if_pos (show tb f L 0 = 110 from e), (q_rz (f := f) (L := L) 1 (nI n0)).1]; rfl
  · rw [if_neg e, if_neg (show ¬ tb f L 0 = 110 from e)]; exact (nN_nI (by omega)).symm
/-- the two readers -/
theorem q_rd (h : txB f L) (hL : L ≤ 100) (hn : 2 ≤ n0 ∧ n0 ≤ 16) : agZ (rdZ f L n0) (rwZ f L n0) := by
  unfold rdZ rwZ
  have hm := rdn_v (f := f) (L := L) hn
  rw [← q_rdn hn]
  unfold rd0 rt0
  by_cases e : rdN f L
  · rw [if_pos e, if_pos (show tb f L 0 = 110 from e)]
    rcases (q_rz (f := f) (L := L) 1 (nI n0)).2 with ⟨a1, a2, a3⟩ | ⟨a1, a2, a3, a4⟩
    · rw [if_pos a1, rwL_bad _ _ rfl, a2, rdL_bad _ _ (show ¬ nI _ = -1 from q_n1 (by omega))]
      exact Or.inr ⟨rfl, rfl, by show (rzR f L 1 (nI n0)).2.1 < _; omega⟩
    · rw [if_neg (by rw [a1]; decide), a2, a3]
      exact q_rdL h hL hm.2 100 100 102 _ _ (by omega) (by omega) (by omega)
  · rw [if_neg e, if_neg (show ¬ tb f L 0 = 110 from e)]
    exact q_rdL h hL hm.2 100 100 102 _ _ (by omega) (by omega) (by omega)
end PARSE
section BITS
variable {f : Nat → Int32} {L n n0 : Nat}
theorem b_or (a b : Nat) : nI a ||| nI b = nI (a ||| b) := by
  apply Int32.toBitVec_inj.mp
  show BitVec.ofNat 32 a ||| BitVec.ofNat 32 b = BitVec.ofNat 32 (a ||| b)
  exact (BitVec.ofNat_or).symm
theorem b_and (a : Nat) (y : Int32) (ha : a < 2 ^ 31) : nI a &&& y = nI (a &&& y.toBitVec.toNat) := by
  apply Int32.toBitVec_inj.mp
  show BitVec.ofNat 32 a &&& y.toBitVec = BitVec.ofNat 32 (a &&& y.toBitVec.toNat)
  apply BitVec.eq_of_toNat_eq
  have h1 : a &&& y.toBitVec.toNat ≤ a := Nat.and_le_left
  rw [BitVec.toNat_and, BitVec.toNat_ofNat, BitVec.toNat_ofNat, Nat.mod_eq_of_lt (by omega), Nat.mod_eq_of_lt (by omega)]
theorem b_sh : ∀ i : Nat, i < 16 → (1 : Int32) <<< (nI i &&& 31) = nI (2 ^ i) := by decide
theorem b_of {x : Int32} (h : 0 ≤ x.toInt ∧ x.toInt < 65536) : ∃ a, a < 65536 ∧ x = nI a := ⟨x.toInt.toNat, by omega, (p_nI x h.1).symm⟩
theorem b_to {a : Nat} (h : a < 65536) : 0 ≤ (nI a).toInt ∧ (nI a).toInt < 65536 := by rw [nI_toInt (by omega)]; omega
theorem b_rk : ∀ (k i p a : Nat), i + k ≤ 16 → a < 65536 → ∃ b, b < 65536 ∧ (rkL f L k i p (nI a)).2.2 = nI b
  | 0, i, p, a, _, ha => ⟨a, ha, rfl⟩
  | k + 1, i, p, a, hi, ha => by
    rw [rkL]
    split
    · rw [b_sh i (by omega), b_or]
      exact b_rk k (i + 1) (p + 1) _ (by omega) (Nat.or_lt_two_pow (n := 16) ha (Nat.pow_lt_pow_right (by omega) (by omega)))
    · split
      · rw [Int32.or_zero]; exact b_rk k (i + 1) (p + 1) a (by omega) ha
      · exact ⟨a, ha, rfl⟩
def trB (t : Nat → Int32) : Prop := ∀ c, c < 5 → 0 ≤ (t c).toInt ∧ (t c).toInt < 65536
theorem trB_u {t : Nat → Int32} (h : trB t) (k : Nat) {v : Int32} (hv : 0 ≤ v.toInt ∧ v.toInt < 65536) : trB (upd t k v) := by
  intro c hc
  by_cases e : c = k
  · rw [e, upd_s]; exact hv
  · rw [upd_o _ _ e]; exact h c hc
theorem b_trk (hn : n ≤ 16) {p : Nat} {t : Nat → Int32} (ht : trB t) : trB (rkR f L n p t).2.2 := by
  obtain ⟨b, hb, e⟩ := b_rk (f := f) (L := L) n 0 (p + 2) 0 (by omega) (by omega)
  have e' : (rkL f L n 0 (p + 2) 0).2.2 = nI b := e
  unfold rkR
  by_cases e1 : 48 ≤ tb f L p ∧ tb f L p ≤ 52
  · rw [if_pos e1]
    by_cases e2 : tb f L (p + 1) = 58
    · rw [if_pos e2]
      by_cases e3 : (rkL f L n 0 (p + 2) 0).1 = 0
      · rw [if_pos e3]; show trB (upd t _ _); rw [e']; exact trB_u ht _ (b_to hb)
      · rw [if_neg e3]; show trB (upd t _ _); rw [e']; exact trB_u ht _ (b_to hb)
    · rw [if_neg e2]; exact ht
  · rw [if_neg e1]; exact ht
theorem b_rwL (hn : n ≤ 16) : ∀ (k : Nat) (z : zKt), trB z.2.2 → trB (rwL f L n k z).2.2
  | 0, z, h => h
  | k + 1, z, h => by
    rw [rwL]
    split
    · exact h
    · split
      · exact b_rwL hn k _ (b_trk hn h)
      · exact h
theorem b_rw (hn : 2 ≤ n0 ∧ n0 ≤ 16) : trB (rwZ f L n0).2.2 := by
  unfold rwZ
  rw [← q_rdn hn]
  exact b_rwL (rdn_v hn).2 102 _ (fun c hc => by show 0 ≤ (0 : Int32).toInt ∧ (0 : Int32).toInt < 65536; decide)
/-! the number of cams -/
def nB (a s : Nat) : Nat := (a >>> s) &&& 1
def jN1 (x : Nat) : Nat := x - ((x >>> 1) &&& 1431655765)
def jN2 (x : Nat) : Nat := (x &&& 858993459) + ((x >>> 2) &&& 858993459)
def jN3 (x : Nat) : Nat := (x + (x >>> 4)) &&& 252645135
def jN4 (x : Nat) : Nat := x + (x >>> 8)
def jN5 (x : Nat) : Nat := x + (x >>> 16)
def jN (x : Nat) : Nat := jN5 (jN4 (jN3 (jN2 (jN1 x)))) &&& 63
def cN (a : Nat) : Nat → Nat
  | 0 => 0
  | s + 1 => cN a s + nB a s
def frc (x : Nat) (k : Nat → Bool) : Bool := Nat.rec (motive := fun _ => Bool) (k 0) (fun n _ => k (Nat.succ n)) x
def jchk (c a : Nat) : Bool := frc (Nat.sub a (Nat.land (Nat.shiftRight a 1) 1431655765)) fun x1 => frc (Nat.add (Nat.land x1 858993459) (Nat.land (Nat.shiftRight x1 2) 858993459)) fun x2 => frc (Nat.land (Nat.add x2 (Nat.shiftRight x2 4)) 252645135) fun x3 => frc (Nat.add x3 (Nat.shiftRight x3 8)) fun x4 => Nat.beq (Nat.land (Nat.add x4 (Nat.shiftRight x4 16)) 63) c
def jall (n : Nat) (p : Nat → Bool) : Bool := Nat.rec (motive := fun _ => Bool) true (fun n r => cond (p n) r false) n
def cn8 (a : Nat) : Nat := Nat.add (Nat.land a 1) (Nat.add (Nat.land (Nat.shiftRight a 1) 1) (Nat.add (Nat.land (Nat.shiftRight a 2) 1) (Nat.add (Nat.land (Nat.shiftRight a 3) 1) (Nat.add (Nat.land (Nat.shiftRight a 4) 1) (Nat.add (Nat.land (Nat.shiftRight a 5) 1) (Nat.add (Nat.land (Nat.shiftRight a 6) 1) (Nat.land (Nat.shiftRight a 7) 1)))))))
theorem jcheck : jall 256 (fun h => frc (cn8 h) fun ch => jall 256 (fun l => jchk (Nat.add ch (cn8 l)) (Nat.add (Nat.mul 256 h) l))) = true := by decide +kernel
theorem frc_e (x : Nat) (k : Nat → Bool) : frc x k = k x := by cases x <;> rfl
theorem jall_e {p : Nat → Bool} : ∀ n, jall n p = true → ∀ i, i < n → p i = true
  | 0, _, i, h => absurd h (by omega)
  | n + 1, h, i, hi => by
    have h' : cond (p n) (jall n p) false = true := h
    cases e : p n with
    | false => rw [e] at h'; exact absurd (show false = true from h') (by decide)
    | true =>
      rw [e] at h'
      by_cases ei : i = n
      · rw [ei]; exact e
      · exact jall_e n h' i (by omega)
theorem jchk_e {c a : Nat} (h : jchk c a = true) : jN a = c := by
  unfold jchk at h
  rw [frc_e, frc_e, frc_e, frc_e] at h
  exact Nat.eq_of_beq_eq_true h
theorem nB_lo (h l s : Nat) (hs : s < 8) (hl : l < 256) : nB (256 * h + l) s = nB l s := by
  unfold nB
  rw [Nat.shiftRight_eq_div_pow, Nat.shiftRight_eq_div_pow, Nat.and_one_is_mod, Nat.and_one_is_mod]
  have : s = 0 ∨ s = 1 ∨ s = 2 ∨ s = 3 ∨ s = 4 ∨ s = 5 ∨ s = 6 ∨ s = 7 := by omega
  rcases this with rfl | rfl | rfl | rfl | rfl | rfl | rfl | rfl <;> omega
theorem nB_hi (h l s : Nat) (hs : s < 8) (hl : l < 256) : nB (256 * h + l) (8 + s) = nB h s := by
  unfold nB
  rw [Nat.shiftRight_eq_div_pow, Nat.shiftRight_eq_div_pow, Nat.and_one_is_mod, Nat.and_one_is_mod]
  have : s = 0 ∨ s = 1 ∨ s = 2 ∨ s = 3 ∨ s = 4 ∨ s = 5 ∨ s = 6 ∨ s = 7 := by omega
  rcases this with rfl | rfl | rfl | rfl | rfl | rfl | rfl | rfl <;> omega
theorem cN_8 (a : Nat) : cN a 8 = cn8 a := by
  show 0 + nB a 0 + nB a 1 + nB a 2 + nB a 3 + nB a 4 + nB a 5 + nB a 6 + nB a 7 = _
  show _ = (a &&& 1) + (nB a 1 + (nB a 2 + (nB a 3 + (nB a 4 + (nB a 5 + (nB a 6 + nB a 7))))))
  show 0 + ((a >>> 0) &&& 1) + _ + _ + _ + _ + _ + _ + _ = _
  rw [Nat.shiftRight_zero]
  omega
theorem cN_16 (h l : Nat) (hl : l < 256) : cN (256 * h + l) 16 = cn8 h + cn8 l := by
  rw [← cN_8, ← cN_8]
  have e1 := fun s hs => nB_lo h l s hs hl
  have e2 := fun s hs => nB_hi h l s hs hl
  show 0 + nB _ 0 + nB _ 1 + nB _ 2 + nB _ 3 + nB _ 4 + nB _ 5 + nB _ 6 + nB _ 7 + nB _ (8 + 0) + nB _ (8 + 1) + nB _ (8 + 2) + nB _ (8 + 3) + nB _ (8 + 4) + nB _ (8 + 5) + nB _ (8 + 6) + nB _ (8 + 7) = (0 + nB h 0 + nB h 1 + nB h 2 + nB h 3 + nB h 4 + nB h 5 + nB h 6 + nB h 7) + (0 + nB l 0 + nB l 1 + nB l 2 + nB l 3 + nB l 4 + nB l 5 + nB l 6 + nB l 7)
  rw [e1 0 (by omega), e1 1 (by omega), e1 2 (by omega), e1 3 (by omega), e1 4 (by omega), e1 5 (by omega), e1 6 (by omega), e1 7 (by omega), e2 0 (by omega), e2 1 (by omega), e2 2 (by omega), e2 3 (by omega), e2 4 (by omega), e2 5 (by omega), e2 6 (by omega), e2 7 (by omega)]
  omega
theorem jN_c {a : Nat} (h : a < 65536) : jN a = cN a 16 := by
  have e : a = 256 * (a / 256) + a % 256 := by omega
  have h1 := jall_e 256 jcheck (a / 256) (by omega)
  rw [frc_e] at h1
  have h2 := jchk_e (jall_e 256 h1 (a % 256) (by omega))
  rw [e, cN_16 _ _ (by omega)]
  exact h2
theorem b_us (a k : Nat) (ha : a < 2 ^ 31) (c : UInt32) (hc : c.toNat % 32 = k) : ((nI a).toUInt32 >>> c).toInt32 = nI (a >>> k) := by
  apply Int32.toBitVec_inj.mp
  apply BitVec.eq_of_toNat_eq
  show ((nI a).toUInt32 >>> c).toNat = (BitVec.ofNat 32 (a >>> k)).toNat
  have hle : a >>> k ≤ a := Nat.shiftRight_le a k
  have e : (nI a).toUInt32.toNat = a := by
    show (BitVec.ofNat 32 a).toNat = a
    rw [BitVec.toNat_ofNat, Nat.mod_eq_of_lt (by omega)]
  rw [UInt32.toNat_shiftRight, hc, e, BitVec.toNat_ofNat, Nat.mod_eq_of_lt (by omega)]
theorem nI_sb {a b : Nat} (h : b ≤ a) (ha : a < 2 ^ 31) : nI a - nI b = nI (a - b) := p_eq.mpr (by
  have e1 := nI_toInt ha
  have e2 := nI_toInt (n := b) (by omega)
  rw [p_sub (by omega), e1, e2, nI_toInt (by omega)]; omega)
theorem jbc_N {a : Nat} (ha : a < 65536) : jbc (nI a) = nI (jN a) := by
  have l1 : jN1 a ≤ a := Nat.sub_le _ _
  have e1 : jb1 (nI a) = nI (jN1 a) := by
    unfold jb1 jN1
    rw [b_us a 1 (by omega) _ (by decide), b_and _ _ (by have := Nat.shiftRight_le a 1; omega)]
    exact nI_sb (Nat.le_trans Nat.and_le_left (Nat.shiftRight_le a 1)) (by omega)
  have l2 : jN2 (jN1 a) ≤ 1717986918 := by
    unfold jN2
    have x1 : jN1 a &&& 858993459 ≤ 858993459 := Nat.and_le_right
    have x2 : jN1 a >>> 2 &&& 858993459 ≤ 858993459 := Nat.and_le_right
    omega
  have e2 : jb2 (nI (jN1 a)) = nI (jN2 (jN1 a)) := by
    unfold jb2 jN2
    rw [b_us _ 2 (by omega) _ (by decide), b_and _ _ (by omega), b_and _ _ (by have := Nat.shiftRight_le (jN1 a) 2; omega), nI_add]
    rfl
  have l3 : jN3 (jN2 (jN1 a)) ≤ 252645135 := Nat.and_le_right
  have e3 : jb3 (nI (jN2 (jN1 a))) = nI (jN3 (jN2 (jN1 a))) := by
    unfold jb3 jN3
    have hs : jN2 (jN1 a) >>> 4 = jN2 (jN1 a) / 16 := Nat.shiftRight_eq_div_pow _ 4
    rw [b_us _ 4 (by omega) _ (by decide), nI_add, b_and _ _ (by rw [hs]; omega)]
    rfl
  have l4 : jN4 (jN3 (jN2 (jN1 a))) ≤ 505290270 := by
    unfold jN4
    have := Nat.shiftRight_le (jN3 (jN2 (jN1 a))) 8
    omega
  have e4 : jb4 (nI (jN3 (jN2 (jN1 a)))) = nI (jN4 (jN3 (jN2 (jN1 a)))) := by
    unfold jb4
    rw [b_us _ 8 (by omega) _ (by decide), nI_add]
    rfl
  have e5 : jb5 (nI (jN4 (jN3 (jN2 (jN1 a))))) = nI (jN5 (jN4 (jN3 (jN2 (jN1 a))))) := by
    unfold jb5
    rw [b_us _ 16 (by omega) _ (by decide), nI_add]
    rfl
  unfold jbc
  rw [e1, e2, e3, e4, e5]
  have l5 : jN5 (jN4 (jN3 (jN2 (jN1 a)))) ≤ 1010580540 := by
    unfold jN5
    have := Nat.shiftRight_le (jN4 (jN3 (jN2 (jN1 a)))) 16
    omega
  rw [b_and _ _ (by omega)]
  rfl
theorem b_sm : ∀ s : Nat, s < 16 → ((nI s &&& 31).toBitVec.smod 32).toNat = s := by decide
theorem b_ss (a s : Nat) (ha : a < 65536) (hs : s < 16) : nI a >>> (nI s &&& 31) = nI (a >>> s) := by
  apply Int32.toBitVec_inj.mp
  show BitVec.sshiftRight' (nI a).toBitVec ((nI s &&& 31).toBitVec.smod 32) = BitVec.ofNat 32 (a >>> s)
  show BitVec.sshiftRight (BitVec.ofNat 32 a) ((nI s &&& 31).toBitVec.smod 32).toNat = _
  have hm : (BitVec.ofNat 32 a).msb = false := by
    rw [BitVec.msb_eq_false_iff_two_mul_lt, BitVec.toNat_ofNat, Nat.mod_eq_of_lt (by omega)]; omega
  rw [b_sm s hs, BitVec.sshiftRight_eq_of_msb_false hm]
  apply BitVec.eq_of_toNat_eq
  have hle : a >>> s ≤ a := Nat.shiftRight_le a s
  rw [BitVec.toNat_ushiftRight, BitVec.toNat_ofNat, BitVec.toNat_ofNat, Nat.mod_eq_of_lt (by omega), Nat.mod_eq_of_lt (by omega)]
theorem b_has (a s : Nat) (ha : a < 65536) (hs : s < 16) : (nI a >>> (nI s &&& 31)) &&& 1 = nI (nB a s) := by
  rw [b_ss a s ha hs, b_and _ _ (by have := Nat.shiftRight_le a s; omega)]
  rfl
theorem nB_01 (a s : Nat) : nB a s = 0 ∨ nB a s = 1 := by
  unfold nB; rw [Nat.and_one_is_mod]; omega
theorem rCams_c {k a : Nat} (e : f (16 + k) = nI a) (ha : a < 65536) : ∀ s, s ≤ 16 → rCamsN f k s = nI (cN a s)
  | 0, _ => rfl
  | s + 1, hs => by
    rw [rCamsN, rCams_c e ha s (by omega)]
    have hh := b_has a s ha (by omega)
    show _ + bI (((f (16 + k) >>> (nI s &&& 31)) &&& 1) = 1) = nI (cN a s + nB a s)
    rw [← nI_add]
    congr 1
    rcases nB_01 a s with h0 | h0
    · rw [h0, bI_f (by rw [e, hh, h0]; decide)]; rfl
    · rw [h0, bI_t (by rw [e, hh, h0]; decide)]; rfl
/-- the number of cams, counted twice -/
theorem q_cams {k : Nat} {v : Int32} (e : f (16 + k) = v) (hv : 0 ≤ v.toInt ∧ v.toInt < 65536) : rCamsN f k 16 = jbc v := by
  obtain ⟨a, ha, rfl⟩ := b_of hv
  rw [rCams_c e ha 16 (by omega), jbc_N ha, jN_c ha]
/-- putting a cam, taking it away -/
theorem q_put (t st th : Int32) : rCam t st th = camPut t st th := by
  unfold rCam camPut
  split
  · rfl
  · apply Int32.toBitVec_inj.mp
    show (t.toBitVec &&& (((1 : Int32) <<< (st &&& 31)).toBitVec ^^^ (-1 : Int32).toBitVec)) ||| ((1 : Int32) <<< (st &&& 31)).toBitVec = t.toBitVec ||| ((1 : Int32) <<< (st &&& 31)).toBitVec
    generalize ((1 : Int32) <<< (st &&& 31)).toBitVec = m
    have e : (-1 : Int32).toBitVec = BitVec.allOnes 32 := by decide
    rw [e]
    ext i hi
    simp only [BitVec.getElem_or, BitVec.getElem_and, BitVec.getElem_xor, BitVec.getElem_allOnes]
    cases t.toBitVec[i] <;> cases m[i] <;> rfl
theorem put_v {t : Int32} (ht : 0 ≤ t.toInt ∧ t.toInt < 65536) (s : Nat) (hs : s < 16) (th : Int32) : 0 ≤ (camPut t (nI s) th).toInt ∧ (camPut t (nI s) th).toInt < 65536 := by
  obtain ⟨a, ha, rfl⟩ := b_of ht
  unfold camPut
  split
  · rw [b_and _ _ (by omega)]
    exact b_to (Nat.lt_of_le_of_lt Nat.and_le_left ha)
  · rw [b_sh s hs, b_or]
    exact b_to (Nat.or_lt_two_pow (n := 16) ha (Nat.pow_lt_pow_right (by omega) (by omega)))
end BITS
