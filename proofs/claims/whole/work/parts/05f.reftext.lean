theorem z_extR5 {D : va_G} {H : Heap} {cs : zCs} {a : Nat → Nat} {V : Nat → Int32} {G : Nat → Nat → Int32} {g : Nat → Int32} (hP : va_P D vwCl (refW cs a V G) H) (h : ∀ j : Nat, j < 5 → G 5 j = g j) : va_P D vwCl (refW cs a V (zU G 5 g)) H :=
  z_ext (w1 := (refW cs a V G).take 6) (w2 := (refW cs a V G).drop 7) (a := a 6) (cA := cs.1) (k := 5) (f := G 5) (g := g) h hP
theorem upd_upd {f : Nat → Int32} {c : Nat} {x y : Int32} : upd (upd f c x) c y = upd f c y := by
  funext j
  show (if j = c then y else if j = c then x else f j) = if j = c then y else f j
  by_cases h : j = c
  · rw [if_pos h, if_pos h]
  · rw [if_neg h, if_neg h, if_neg h]
theorem z_b01 {x : Int32} (h : x = 0 ∨ x = 1) : x = bI (x = 1) := by
  cases h with
  | inl h => rw [h]; exact (bI_f (by decide)).symm
  | inr h => rw [h]; exact (bI_t rfl).symm
theorem bI_01 {P : Prop} [Decidable P] : bI P = 0 ∨ bI P = 1 := by
  by_cases h : P
  · exact Or.inr (bI_t h)
  · exact Or.inl (bI_f h)
theorem z_dig5 {x : Int32} (h : 48 ≤ x ∧ x ≤ 52) : ∃ c : Nat, c < 5 ∧ x - 48 = nI c := by
  obtain ⟨k, hk, e⟩ := z_nat (x := x) (n := 52) (by decide) ⟨Int32.le_trans (by decide) h.1, h.2⟩
  have h1 := Int32.le_iff_toInt_le.mp h.1
  rw [e, nI_toInt (by omega)] at h1
  have e1 : (48 : Int32).toInt = 48 := by decide
  exact ⟨k - 48, by omega, by rw [e]; exact pk_sub (b := 48) (by omega)⟩
def rzE (f : Nat → Int32) (L p q : Nat) (T st : Int32) : Int32 × Nat × Int32 := if 2 ≤ T ∧ T ≤ 16 then (bI (tb f L q = 59), psA f L q 59, T) else (0, p, st)
def rzR (f : Nat → Int32) (L p : Nat) (st : Int32) : Int32 × Nat × Int32 := if tdg f L p then (if tdg f L (p + 1) then (if tdg f L (p + 1 + 1) then (0, p + 1 + 1, st) else rzE f L p (p + 1 + 1) (10 * (0 + tb f L p - 48) + tb f L (p + 1) - 48) st) else rzE f L p (p + 1) (0 + tb f L p - 48) st) else (0, p, st)
theorem rzE_n {f : Nat → Int32} {L p q n0 : Nat} {T : Int32} (h : n0 ≤ 16) : (rzE f L p q T (nI n0)).2.2 = nI (nN (rzE f L p q T (nI n0)).2.2) ∧ nN (rzE f L p q T (nI n0)).2.2 ≤ 16 := by
  unfold rzE
  by_cases hT : 2 ≤ T ∧ T ≤ 16
  · rw [if_pos hT]
    obtain ⟨j, hj, e⟩ := z_nat (x := T) (n := 16) (by decide) ⟨Int32.le_trans (by decide) hT.1, hT.2⟩
    show T = nI (nN T) ∧ nN T ≤ 16
    rw [e, nN_nI (by omega)]
    exact ⟨rfl, hj⟩
  · rw [if_neg hT]
    show nI n0 = nI (nN (nI n0)) ∧ nN (nI n0) ≤ 16
    rw [nN_nI (by omega)]
    exact ⟨rfl, h⟩
theorem rzR_n {f : Nat → Int32} {L p n0 : Nat} (h : n0 ≤ 16) : (rzR f L p (nI n0)).2.2 = nI (nN (rzR f L p (nI n0)).2.2) ∧ nN (rzR f L p (nI n0)).2.2 ≤ 16 := by
  have h0 : nI n0 = nI (nN (nI n0)) ∧ nN (nI n0) ≤ 16 := by
    rw [nN_nI (by omega)]
    exact ⟨rfl, h⟩
  unfold rzR
  split
  · split
    · split
      · exact h0
      · exact rzE_n h
    · exact rzE_n h
  · exact h0
theorem rzE_le {f : Nat → Int32} {L p q : Nat} {T st : Int32} (h : p ≤ q) : (rzE f L p q T st).2.1 ≤ q + 1 := by
  unfold rzE
  split
  · exact psA_le f L q 59
  · exact Nat.le_trans h (by omega)
theorem rzR_le {f : Nat → Int32} {L p : Nat} {st : Int32} : (rzR f L p st).2.1 ≤ p + 3 := by
  unfold rzR
  split
  · split
    · split
      · show p + 1 + 1 ≤ p + 3; omega
      · exact Nat.le_trans (rzE_le (by omega)) (by omega)
    · exact Nat.le_trans (rzE_le (by omega)) (by omega)
  · show p ≤ p + 3; omega
def rkL (f : Nat → Int32) (L : Nat) : Nat → Nat → Nat → Int32 → Int32 × Nat × Int32
  | 0, _, p, x => (1, p, x)
  | k + 1, i, p, x => if tb f L p = 120 then rkL f L k (i + 1) (p + 1) (x ||| (1 <<< (nI i &&& 31))) else if tb f L p = 46 then rkL f L k (i + 1) (p + 1) (x ||| 0) else (0, p, x)
theorem rkL_le {f : Nat → Int32} {L : Nat} : ∀ {k i p : Nat} {x : Int32}, p ≤ (rkL f L k i p x).2.1 ∧ (rkL f L k i p x).2.1 ≤ p + k
  | 0, _, p, _ => ⟨Nat.le_refl _, Nat.le_refl _⟩
  | k + 1, i, p, x => by
    unfold rkL
    split
    · have h := rkL_le (f := f) (L := L) (k := k) (i := i + 1) (p := p + 1) (x := x ||| (1 <<< (nI i &&& 31)))
      exact ⟨by omega, by omega⟩
    · split
      · have h := rkL_le (f := f) (L := L) (k := k) (i := i + 1) (p := p + 1) (x := x ||| 0)
        exact ⟨by omega, by omega⟩
      · exact ⟨Nat.le_refl _, by show p ≤ p + (k + 1); omega⟩
def rkR (f : Nat → Int32) (L m p : Nat) (t : Nat → Int32) : Int32 × Nat × (Nat → Int32) := if 48 ≤ tb f L p ∧ tb f L p ≤ 52 then (if tb f L (p + 1) = 58 then (if (rkL f L m 0 (p + 2) 0).1 = 0 then (0, (rkL f L m 0 (p + 2) 0).2.1, upd t (nN (tb f L p - 48)) (rkL f L m 0 (p + 2) 0).2.2) else (bI (tb f L (rkL f L m 0 (p + 2) 0).2.1 = 59), psA f L (rkL f L m 0 (p + 2) 0).2.1 59, upd t (nN (tb f L p - 48)) (rkL f L m 0 (p + 2) 0).2.2)) else (0, p + 1, t)) else (0, p, t)
theorem rkR_le {f : Nat → Int32} {L m p : Nat} {t : Nat → Int32} : (rkR f L m p t).2.1 ≤ p + m + 3 := by
  have h := rkL_le (f := f) (L := L) (k := m) (i := 0) (p := p + 2) (x := 0)
  have h2 := psA_le f L (rkL f L m 0 (p + 2) 0).2.1 59
  unfold rkR
  split
  · split
    · split
      · show (rkL f L m 0 (p + 2) 0).2.1 ≤ _; omega
      · show psA f L (rkL f L m 0 (p + 2) 0).2.1 59 ≤ _; omega
    · show p + 1 ≤ _; omega
  · show p ≤ _; omega
theorem rkR_up {f : Nat → Int32} {L m p : Nat} {t : Nat → Int32} (h0 : ¬ (rkR f L m p t).1 = 0) : p + 1 ≤ (rkR f L m p t).2.1 := by
  have h := rkL_le (f := f) (L := L) (k := m) (i := 0) (p := p + 2) (x := 0)
  unfold rkR at h0 ⊢
  split at h0
  · rename_i h1
    rw [if_pos h1]
    split at h0
    · rename_i h2
      rw [if_pos h2]
      split at h0
      · exact absurd rfl h0
      · rename_i h3
        rw [if_neg h3]
        have h4 : (rkL f L m 0 (p + 2) 0).2.1 ≤ psA f L (rkL f L m 0 (p + 2) 0).2.1 59 := by unfold psA; split <;> omega
        show p + 1 ≤ psA f L (rkL f L m 0 (p + 2) 0).2.1 59
        omega
    · exact absurd rfl h0
  · exact absurd rfl h0
theorem rkR_01 {f : Nat → Int32} {L m p : Nat} {t : Nat → Int32} : (rkR f L m p t).1 = 0 ∨ (rkR f L m p t).1 = 1 := by
  unfold rkR
  split
  · split
    · split
      · exact Or.inl rfl
      · exact bI_01
    · exact Or.inl rfl
  · exact Or.inl rfl
abbrev zKt : Type := Int32 × Nat × (Nat → Int32)
def rwL (f : Nat → Int32) (L m : Nat) : Nat → zKt → zKt
  | 0, z => z
  | k + 1, z => if z.1 = 0 then z else if z.2.1 < L then rwL f L m k (rkR f L m z.2.1 z.2.2) else z
def rt0 (f : Nat → Int32) (L n0 : Nat) : Int32 × Nat × Int32 := if tb f L 0 = 110 then (if (rzR f L 1 (nI n0)).1 = 0 then 0 else 1, (rzR f L 1 (nI n0)).2) else (1, 0, nI n0)
def rtm (f : Nat → Int32) (L n0 : Nat) : Nat := nN (rt0 f L n0).2.2
theorem rt0_n {f : Nat → Int32} {L n0 : Nat} (h : n0 ≤ 16) : (rt0 f L n0).2.2 = nI (rtm f L n0) ∧ rtm f L n0 ≤ 16 := by
  unfold rtm rt0
  split
  · exact rzR_n h
  · show nI n0 = nI (nN (nI n0)) ∧ nN (nI n0) ≤ 16
    rw [nN_nI (by omega)]
    exact ⟨rfl, h⟩
def rwZ (f : Nat → Int32) (L n0 : Nat) : zKt := rwL f L (rtm f L n0) 102 ((rt0 f L n0).1, (rt0 f L n0).2.1, fun _ => 0)
set_option maxHeartbeats 4000000 in
set_option maxRecDepth 100000 in
theorem c_X8_here (l : Launch) (D : va_G) (cs : zCs) (a : Nat → Nat) (V : Nat → Int32) (G : Nat → Nat → Int32) (p L : Nat) (h5 : V 5 = nI p) (h4 : V 4 = nI L) (hL : L ≤ 100) (hp : p < 10000) : zM l D cs yX8_here cX8_here 1 (some FieldType.int) 0 0 0 0 [.ref (a 0)] (refW cs a V G) (some (.int (tb (G 4) L p))) (refW cs a V G) := by
  refine zM.of (own := RX8) (by decide) (Nat.le_of_ble_eq_true rfl) rfl ?_
  intro pq eq s mq below meth cq A ls hx hb hr hml hown hts hlk hnm hE hK hA hP hD hS hl
  have hl : lv_has ls 1 [(0, .ref (a 0))] := hl
  refine lv_aload_n hx hb dX8_here_0 rfl (lv_at hl 0 rfl) ?_
  refine va_get (D := D) (ci := 8) (v := .int (V 5)) (C := RX8) (T := TX8) (N := 13) hx hb hts wsI_X8 hown hK hP 0 rfl rfl 10 (by decide) (hts _ w_fl_X8_160) (fun _ h9 => h9) rfl dX8_here_1 ?_
  refine z_top (y := nI p) h5 ?_
  refine lv_aload_n hx hb dX8_here_4 rfl (lv_at hl 0 rfl) ?_
  refine va_get (D := D) (ci := 8) (v := .int (V 4)) (C := RX8) (T := TX8) (N := 13) hx hb hts wsI_X8 hown hK hP 0 rfl rfl 9 (by decide) (hts _ w_fl_X8_157) (fun _ h9 => h9) rfl dX8_here_5 ?_
  refine z_top (y := nI L) h4 ?_
  refine lv_icmp_ge (tgt := 23) hx hb dX8_here_8 (by decide) (fun c_1 => ?_) (fun c_1 => ?_)
  · skip
    have h6 : ¬ p < L := fun h => absurd ((nI_leI (by omega) (by omega)).mp c_1) (by omega)
    refine lv_iconst (v := (-1)) hx hb dX8_here_23 (by decide) ?_
    exact z_iret hx hb hr hlk hK hP hD hS dX8_here_24 (by unfold tb; rw [if_neg h6]) rfl
  · skip
    have h6 : p < L := Nat.lt_of_not_le (fun h => c_1 ((nI_leI (by omega) (by omega)).mpr h))
    refine lv_aload_n hx hb dX8_here_11 rfl (lv_at hl 0 rfl) ?_
    refine va_get (D := D) (ci := 8) (v := .ref (a 5)) (C := RX8) (T := TX8) (N := 13) hx hb hts wsI_X8 hown hK hP 0 rfl rfl 8 (by decide) (hts _ w_fl_X8_22) (fun _ h9 => h9) rfl dX8_here_12 ?_
    refine lv_aload_n hx hb dX8_here_15 rfl (lv_at hl 0 rfl) ?_
    refine va_get (D := D) (ci := 8) (v := .int (V 5)) (C := RX8) (T := TX8) (N := 13) hx hb hts wsI_X8 hown hK hP 0 rfl rfl 10 (by decide) (hts _ w_fl_X8_160) (fun _ h9 => h9) rfl dX8_here_16 ?_
    refine z_top (y := nI p) h5 ?_
    refine z_iald (k := p) hx hb hK hP 5 rfl (by omega) (by first | decide | omega) dX8_here_19 ?_
    refine lv_goto (tgt := 24) hx hb dX8_here_20 (by decide) ?_
    exact z_iret hx hb hr hlk hK hP hD hS dX8_here_24 (by unfold tb; rw [if_pos h6]) rfl

set_option maxHeartbeats 4000000 in
set_option maxRecDepth 100000 in
theorem c_X8_passesByte (l : Launch) (D : va_G) (cs : zCs) (a : Nat → Nat) (V : Nat → Int32) (G : Nat → Nat → Int32) (p L : Nat) (b : Int32) (h5 : V 5 = nI p) (h4 : V 4 = nI L) (hL : L ≤ 100) (hp : p < 10000) : zM l D cs yX8_passesByte cX8_passesByte 3 (some FieldType.boolean) 1 20 0 0 [.ref (a 0), .int b] (refW cs a V G) (some (.int (bI (tb (G 4) L p = b)))) (refW cs a (upd V 5 (nI (psA (G 4) L p b))) G) := by
  refine zM.of (own := RX8) (by decide) (Nat.le_of_ble_eq_true rfl) rfl ?_
  intro pq eq s mq below meth cq A ls hx hb hr hml hown hts hlk hnm hE hK hA hP hD hS hl
  have hl : lv_has ls 3 [(0, .ref (a 0)), (1, .int b)] := hl
  refine lv_aload_n hx hb dX8_passesByte_0 rfl (lv_at hl 0 rfl) ?_
  refine z_callV (wn := (refW cs a V G)) ⟨hx, hb, hml, hown, hts⟩ zY_X8_here w_im_yX8_here w_se_yX8_here w_ml_X8_163 [] [] (c_X8_here l D cs a V G p L h5 h4 hL (by omega)) hE hK hA hP hD hS [0, 1, 2, 3, 4, 5, 6] rfl rfl rfl rfl 8 rfl rfl rfl rfl hl.1 (Nat.le_of_ble_eq_true rfl) ⟨Nat.le_of_ble_eq_true rfl, Nat.le_of_ble_eq_true rfl⟩ ⟨Nat.le_of_ble_eq_true rfl, Nat.le_of_ble_eq_true rfl⟩ dX8_passesByte_1 (fun H locs hP hD hS => ?_)
  refine lv_iload_n hx hb dX8_passesByte_4 rfl (lv_at hl 1 rfl) ?_
  refine lv_icmp_ne (tgt := 12) hx hb dX8_passesByte_5 (by decide) (fun c_1 => ?_) (fun c_1 => ?_)
  · skip
    refine lv_iconst (v := 0) hx hb dX8_passesByte_12 (by decide) ?_
    refine lv_istore_n (lv' := [(2, .int 0), (0, .ref (a 0)), (1, .int b)]) hx hb dX8_passesByte_13 rfl hl (by decide) rfl (fun ls hl => ?_)
    refine lv_aload_n hx hb dX8_passesByte_14 rfl (lv_at hl 1 rfl) ?_
    refine lv_dup hx hb dX8_passesByte_15 rfl ?_
    refine va_get (D := D) (ci := 8) (v := .int (V 5)) (C := RX8) (T := TX8) (N := 13) hx hb hts wsI_X8 hown hK hP 0 rfl rfl 10 (by decide) (hts _ w_fl_X8_160) (fun _ h9 => h9) rfl dX8_passesByte_16 ?_
    refine z_top (y := nI p) h5 ?_
    refine lv_iload_n hx hb dX8_passesByte_19 rfl (lv_at hl 0 rfl) ?_
    refine lv_if_eq (tgt := 27) hx hb dX8_passesByte_20 (by decide) (fun c_2 => ?_) (fun c_2 => ?_)
    · skip
      refine lv_iconst (v := 0) hx hb dX8_passesByte_27 (by decide) ?_
      refine lv_iadd hx hb dX8_passesByte_28 ?_
      refine z_top (y := nI (p + 0)) (nI_add p 0) ?_
      refine va_put (D := D) (ci := 8) (v := .int (nI (p + 0))) (C := RX8) (T := TX8) (N := 13) hx hb hts wsI_X8 tyX8 tyX8_ok nmX8 hown hK hP hD hS 0 rfl rfl 10 (by decide) (hts _ w_fl_X8_160) (fun _ h9 => h9) rfl (tyX8_ok 10 (by decide)) rfl rfl (Nat.le_of_ble_eq_true rfl) dX8_passesByte_29 (fun H locs hP hD hS => ?_)
      have hP : va_P D vwCl (refW cs a (upd V 5 (nI (p + 0))) G) H := hP
      have hD : va_D A (refW cs a (upd V 5 (nI (p + 0))) G) := hD
      refine lv_iload_n hx hb dX8_passesByte_32 rfl (lv_at hl 0 rfl) ?_
      exact z_zret hx hb hr hlk hK hP hD hS dX8_passesByte_33 rfl (by rw [bI_f c_1]) (by unfold psA; rw [if_neg c_1]; first | done | rfl)
    · skip
      exact absurd (by decide) c_2
  · skip
    refine lv_iconst (v := 1) hx hb dX8_passesByte_8 (by decide) ?_
    refine lv_goto (tgt := 13) hx hb dX8_passesByte_9 (by decide) ?_
    refine lv_istore_n (lv' := [(2, .int 1), (0, .ref (a 0)), (1, .int b)]) hx hb dX8_passesByte_13 rfl hl (by decide) rfl (fun ls hl => ?_)
    refine lv_aload_n hx hb dX8_passesByte_14 rfl (lv_at hl 1 rfl) ?_
    refine lv_dup hx hb dX8_passesByte_15 rfl ?_
    refine va_get (D := D) (ci := 8) (v := .int (V 5)) (C := RX8) (T := TX8) (N := 13) hx hb hts wsI_X8 hown hK hP 0 rfl rfl 10 (by decide) (hts _ w_fl_X8_160) (fun _ h9 => h9) rfl dX8_passesByte_16 ?_
    refine z_top (y := nI p) h5 ?_
    refine lv_iload_n hx hb dX8_passesByte_19 rfl (lv_at hl 0 rfl) ?_
    refine lv_if_eq (tgt := 27) hx hb dX8_passesByte_20 (by decide) (fun c_3 => ?_) (fun c_3 => ?_)
    · skip
      exact absurd c_3 (by decide)
    · skip
      refine lv_iconst (v := 1) hx hb dX8_passesByte_23 (by decide) ?_
      refine lv_goto (tgt := 28) hx hb dX8_passesByte_24 (by decide) ?_
      refine lv_iadd hx hb dX8_passesByte_28 ?_
      refine z_top (y := nI (p + 1)) (nI_add p 1) ?_
      refine va_put (D := D) (ci := 8) (v := .int (nI (p + 1))) (C := RX8) (T := TX8) (N := 13) hx hb hts wsI_X8 tyX8 tyX8_ok nmX8 hown hK hP hD hS 0 rfl rfl 10 (by decide) (hts _ w_fl_X8_160) (fun _ h9 => h9) rfl (tyX8_ok 10 (by decide)) rfl rfl (Nat.le_of_ble_eq_true rfl) dX8_passesByte_29 (fun H locs hP hD hS => ?_)
      have hP : va_P D vwCl (refW cs a (upd V 5 (nI (p + 1))) G) H := hP
      have hD : va_D A (refW cs a (upd V 5 (nI (p + 1))) G) := hD
      refine lv_iload_n hx hb dX8_passesByte_32 rfl (lv_at hl 0 rfl) ?_
      exact z_zret hx hb hr hlk hK hP hD hS dX8_passesByte_33 rfl (by rw [bI_t c_1]) (by unfold psA; rw [if_pos c_1]; first | done | rfl)

set_option maxHeartbeats 4000000 in
set_option maxRecDepth 100000 in
theorem c_X8_readsSteps (l : Launch) (D : va_G) (cs : zCs) (a : Nat → Nat) (V : Nat → Int32) (G : Nat → Nat → Int32) (p L : Nat) (h5 : V 5 = nI p) (h4 : V 4 = nI L) (hL : L ≤ 100) (hp : p < 5000) : zM l D cs yX8_readsSteps cX8_readsSteps 3 (some FieldType.boolean) 2 42 0 0 [.ref (a 0)] (refW cs a V G) (some (.int ((rzR (G 4) L p (V 6)).1))) (refW cs a (upd (upd V 5 (nI (rzR (G 4) L p (V 6)).2.1)) 6 ((rzR (G 4) L p (V 6)).2.2)) G) := by
  refine zM.of (own := RX8) (by decide) (Nat.le_of_ble_eq_true rfl) rfl ?_
  intro pq eq s mq below meth cq A ls hx hb hr hml hown hts hlk hnm hE hK hA hP hD hS hl
  have hl : lv_has ls 3 [(0, .ref (a 0))] := hl
  refine lv_aload_n hx hb dX8_readsSteps_0 rfl (lv_at hl 0 rfl) ?_
  refine va_get (D := D) (ci := 8) (v := .int (V 5)) (C := RX8) (T := TX8) (N := 13) hx hb hts wsI_X8 hown hK hP 0 rfl rfl 10 (by decide) (hts _ w_fl_X8_160) (fun _ h9 => h9) rfl dX8_readsSteps_1 ?_
  refine z_top (y := nI p) h5 ?_
  refine lv_istore_n (lv' := [(1, .int (nI p)), (0, .ref (a 0))]) hx hb dX8_readsSteps_4 rfl hl (by decide) rfl (fun ls hl => ?_)
  refine lv_iconst (v := 0) hx hb dX8_readsSteps_5 (by decide) ?_
  refine lv_istore_n (lv' := [(2, .int 0), (1, .int (nI p)), (0, .ref (a 0))]) hx hb dX8_readsSteps_6 rfl hl (by decide) rfl (fun ls hl => ?_)
  refine lv_aload_n hx hb dX8_readsSteps_7 rfl (lv_at hl 2 rfl) ?_
  refine z_callV (wn := (refW cs a V G)) ⟨hx, hb, hml, hown, hts⟩ zY_X8_here w_im_yX8_here w_se_yX8_here w_ml_X8_163 [] [] (c_X8_here l D cs a V G p L h5 h4 hL (by omega)) hE hK hA hP hD hS [0, 1, 2, 3, 4, 5, 6] rfl rfl rfl rfl 8 rfl rfl rfl rfl hl.1 (Nat.le_of_ble_eq_true rfl) ⟨Nat.le_of_ble_eq_true rfl, Nat.le_of_ble_eq_true rfl⟩ ⟨Nat.le_of_ble_eq_true rfl, Nat.le_of_ble_eq_true rfl⟩ dX8_readsSteps_8 (fun H locs hP hD hS => ?_)
  refine lv_i2l (v := (tb (G 4) L p).toInt64) hx hb dX8_readsSteps_11 rfl ?_
  refine lv_ldc2 (v := 48) hx hb hown (hts _ w_ct_X8_166) dX8_readsSteps_12 ?_
  refine lv_ldc2 (v := 57) hx hb hown (hts _ w_ct_X8_168) dX8_readsSteps_15 ?_
  refine z_callS (wn := (refW cs a V G)) ⟨hx, hb, hml, hown, hts⟩ zY_X8_in w_st_yX8_in w_ml_X8_40 [.long ((tb (G 4) L p).toInt64), .long 48, .long 57] [] (c_X8_in l D cs ((tb (G 4) L p).toInt64) 48 57) hE hK hA hP hD hS [] rfl rfl rfl z_ins_nil rfl hl.1 (Nat.le_of_ble_eq_true rfl) ⟨Nat.le_of_ble_eq_true rfl, Nat.le_of_ble_eq_true rfl⟩ ⟨Nat.le_of_ble_eq_true rfl, Nat.le_of_ble_eq_true rfl⟩ dX8_readsSteps_18 (fun H locs hP hD hS => ?_)
  refine z_top (y := bI (48 ≤ tb (G 4) L p ∧ tb (G 4) L p ≤ 57)) (bI_congr (in64 (by decide) (by decide))) ?_
  refine lv_if_eq (tgt := 60) hx hb dX8_readsSteps_21 (by decide) (fun c_1 => ?_) (fun c_1 => ?_)
  · skip
    have c_1 := bI_0.mp c_1
    refine lv_aload_n hx hb dX8_readsSteps_60 rfl (lv_at hl 2 rfl) ?_
    refine va_get (D := D) (ci := 8) (v := .int (V 5)) (C := RX8) (T := TX8) (N := 13) hx hb hts wsI_X8 hown hK hP 0 rfl rfl 10 (by decide) (hts _ w_fl_X8_160) (fun _ h9 => h9) rfl dX8_readsSteps_61 ?_
    refine z_top (y := nI p) h5 ?_
    refine lv_iload_n hx hb dX8_readsSteps_64 rfl (lv_at hl 1 rfl) ?_
    refine lv_icmp_eq (tgt := 85) hx hb dX8_readsSteps_65 (by decide) (fun c_2 => ?_) (fun c_2 => ?_)
    · skip
      refine lv_iconst (v := 0) hx hb dX8_readsSteps_85 (by decide) ?_
      have eR : rzR (G 4) L p (V 6) = (0, p, V 6) := if_neg c_1
      exact z_zret hx hb hr hlk hK hP hD hS dX8_readsSteps_86 rfl (by rw [eR]) (by rw [eR]; show refW cs a V G = refW cs a (upd (upd V 5 (nI p)) 6 (V 6)) G; rw [← h5]; rfl)
    · skip
      exact absurd rfl c_2
  · skip
    have c_1 := bI_n0 c_1
    refine lv_aload_n hx hb dX8_readsSteps_24 rfl (lv_at hl 2 rfl) ?_
    refine va_get (D := D) (ci := 8) (v := .int (V 5)) (C := RX8) (T := TX8) (N := 13) hx hb hts wsI_X8 hown hK hP 0 rfl rfl 10 (by decide) (hts _ w_fl_X8_160) (fun _ h9 => h9) rfl dX8_readsSteps_25 ?_
    refine z_top (y := nI p) h5 ?_
    refine lv_iload_n hx hb dX8_readsSteps_28 rfl (lv_at hl 1 rfl) ?_
    refine lv_iconst (v := 2) hx hb dX8_readsSteps_29 (by decide) ?_
    refine lv_iadd hx hb dX8_readsSteps_30 ?_
    refine z_top (y := nI (p + 2)) (nI_add p 2) ?_
    refine lv_icmp_ge (tgt := 60) hx hb dX8_readsSteps_31 (by decide) (fun c_3 => ?_) (fun c_3 => ?_)
    · skip
      exact absurd ((nI_leI (by omega) (by omega)).mp c_3) (by omega)
    · skip
      refine lv_bipush (v := 10) hx hb dX8_readsSteps_34 (by decide) ?_
      refine lv_iload_n hx hb dX8_readsSteps_36 rfl (lv_at hl 0 rfl) ?_
      refine lv_imul hx hb dX8_readsSteps_37 ?_
      refine z_top (y := 0) (by decide) ?_
      refine lv_aload_n hx hb dX8_readsSteps_38 rfl (lv_at hl 2 rfl) ?_
      refine z_callV (wn := (refW cs a V G)) ⟨hx, hb, hml, hown, hts⟩ zY_X8_here w_im_yX8_here w_se_yX8_here w_ml_X8_163 [] [.int 0] (c_X8_here l D cs a V G p L h5 h4 hL (by omega)) hE hK hA hP hD hS [0, 1, 2, 3, 4, 5, 6] rfl rfl rfl rfl 8 rfl rfl rfl rfl hl.1 (Nat.le_of_ble_eq_true rfl) ⟨Nat.le_of_ble_eq_true rfl, Nat.le_of_ble_eq_true rfl⟩ ⟨Nat.le_of_ble_eq_true rfl, Nat.le_of_ble_eq_true rfl⟩ dX8_readsSteps_39 (fun H locs hP hD hS => ?_)
      refine lv_iadd hx hb dX8_readsSteps_42 ?_
      refine lv_bipush (v := 48) hx hb dX8_readsSteps_43 (by decide) ?_
      refine lv_isub hx hb dX8_readsSteps_45 ?_
      refine lv_istore_n (lv' := [(2, .int ((0 + (tb (G 4) L p)) - 48)), (1, .int (nI p)), (0, .ref (a 0))]) hx hb dX8_readsSteps_46 rfl hl (by decide) rfl (fun ls hl => ?_)
      refine lv_aload_n hx hb dX8_readsSteps_47 rfl (lv_at hl 2 rfl) ?_
      refine lv_dup hx hb dX8_readsSteps_48 rfl ?_
      refine va_get (D := D) (ci := 8) (v := .int (V 5)) (C := RX8) (T := TX8) (N := 13) hx hb hts wsI_X8 hown hK hP 0 rfl rfl 10 (by decide) (hts _ w_fl_X8_160) (fun _ h9 => h9) rfl dX8_readsSteps_49 ?_
      refine z_top (y := nI p) h5 ?_
      refine lv_iconst (v := 1) hx hb dX8_readsSteps_52 (by decide) ?_
      refine lv_iadd hx hb dX8_readsSteps_53 ?_
      refine z_top (y := nI (p + 1)) (nI_add p 1) ?_
      refine va_put (D := D) (ci := 8) (v := .int (nI (p + 1))) (C := RX8) (T := TX8) (N := 13) hx hb hts wsI_X8 tyX8 tyX8_ok nmX8 hown hK hP hD hS 0 rfl rfl 10 (by decide) (hts _ w_fl_X8_160) (fun _ h9 => h9) rfl (tyX8_ok 10 (by decide)) rfl rfl (Nat.le_of_ble_eq_true rfl) dX8_readsSteps_54 (fun H locs hP hD hS => ?_)
      have hP : va_P D vwCl (refW cs a (upd V 5 (nI (p + 1))) G) H := hP
      have hD : va_D A (refW cs a (upd V 5 (nI (p + 1))) G) := hD
      refine lv_goto (tgt := 7) hx hb dX8_readsSteps_57 (by decide) ?_
      refine lv_aload_n hx hb dX8_readsSteps_7 rfl (lv_at hl 2 rfl) ?_
      refine z_callV (wn := (refW cs a (upd V 5 (nI (p + 1))) G)) ⟨hx, hb, hml, hown, hts⟩ zY_X8_here w_im_yX8_here w_se_yX8_here w_ml_X8_163 [] [] (c_X8_here l D cs a (upd V 5 (nI (p + 1))) G (p + 1) L rfl h4 hL (by omega)) hE hK hA hP hD hS [0, 1, 2, 3, 4, 5, 6] rfl rfl rfl rfl 8 rfl rfl rfl rfl hl.1 (Nat.le_of_ble_eq_true rfl) ⟨Nat.le_of_ble_eq_true rfl, Nat.le_of_ble_eq_true rfl⟩ ⟨Nat.le_of_ble_eq_true rfl, Nat.le_of_ble_eq_true rfl⟩ dX8_readsSteps_8 (fun H locs hP hD hS => ?_)
      refine lv_i2l (v := (tb (G 4) L (p + 1)).toInt64) hx hb dX8_readsSteps_11 rfl ?_
      refine lv_ldc2 (v := 48) hx hb hown (hts _ w_ct_X8_166) dX8_readsSteps_12 ?_
      refine lv_ldc2 (v := 57) hx hb hown (hts _ w_ct_X8_168) dX8_readsSteps_15 ?_
      refine z_callS (wn := (refW cs a (upd V 5 (nI (p + 1))) G)) ⟨hx, hb, hml, hown, hts⟩ zY_X8_in w_st_yX8_in w_ml_X8_40 [.long ((tb (G 4) L (p + 1)).toInt64), .long 48, .long 57] [] (c_X8_in l D cs ((tb (G 4) L (p + 1)).toInt64) 48 57) hE hK hA hP hD hS [] rfl rfl rfl z_ins_nil rfl hl.1 (Nat.le_of_ble_eq_true rfl) ⟨Nat.le_of_ble_eq_true rfl, Nat.le_of_ble_eq_true rfl⟩ ⟨Nat.le_of_ble_eq_true rfl, Nat.le_of_ble_eq_true rfl⟩ dX8_readsSteps_18 (fun H locs hP hD hS => ?_)
      refine z_top (y := bI (48 ≤ tb (G 4) L (p + 1) ∧ tb (G 4) L (p + 1) ≤ 57)) (bI_congr (in64 (by decide) (by decide))) ?_
      refine lv_if_eq (tgt := 60) hx hb dX8_readsSteps_21 (by decide) (fun c_4 => ?_) (fun c_4 => ?_)
      · skip
        have c_4 := bI_0.mp c_4
        refine lv_aload_n hx hb dX8_readsSteps_60 rfl (lv_at hl 2 rfl) ?_
        refine va_get (D := D) (ci := 8) (v := .int (nI (p + 1))) (C := RX8) (T := TX8) (N := 13) hx hb hts wsI_X8 hown hK hP 0 rfl rfl 10 (by decide) (hts _ w_fl_X8_160) (fun _ h9 => h9) rfl dX8_readsSteps_61 ?_
        refine lv_iload_n hx hb dX8_readsSteps_64 rfl (lv_at hl 1 rfl) ?_
        refine lv_icmp_eq (tgt := 85) hx hb dX8_readsSteps_65 (by decide) (fun c_5 => ?_) (fun c_5 => ?_)
        · skip
          exact absurd ((nI_eq (by omega) (by omega)).mp c_5) (by omega)
        · skip
          refine lv_aload_n hx hb dX8_readsSteps_68 rfl (lv_at hl 2 rfl) ?_
          refine z_callV (wn := (refW cs a (upd V 5 (nI (p + 1))) G)) ⟨hx, hb, hml, hown, hts⟩ zY_X8_here w_im_yX8_here w_se_yX8_here w_ml_X8_163 [] [] (c_X8_here l D cs a (upd V 5 (nI (p + 1))) G (p + 1) L rfl h4 hL (by omega)) hE hK hA hP hD hS [0, 1, 2, 3, 4, 5, 6] rfl rfl rfl rfl 8 rfl rfl rfl rfl hl.1 (Nat.le_of_ble_eq_true rfl) ⟨Nat.le_of_ble_eq_true rfl, Nat.le_of_ble_eq_true rfl⟩ ⟨Nat.le_of_ble_eq_true rfl, Nat.le_of_ble_eq_true rfl⟩ dX8_readsSteps_69 (fun H locs hP hD hS => ?_)
          refine lv_i2l (v := (tb (G 4) L (p + 1)).toInt64) hx hb dX8_readsSteps_72 rfl ?_
          refine lv_ldc2 (v := 48) hx hb hown (hts _ w_ct_X8_166) dX8_readsSteps_73 ?_
          refine lv_ldc2 (v := 57) hx hb hown (hts _ w_ct_X8_168) dX8_readsSteps_76 ?_
          refine z_callS (wn := (refW cs a (upd V 5 (nI (p + 1))) G)) ⟨hx, hb, hml, hown, hts⟩ zY_X8_in w_st_yX8_in w_ml_X8_40 [.long ((tb (G 4) L (p + 1)).toInt64), .long 48, .long 57] [] (c_X8_in l D cs ((tb (G 4) L (p + 1)).toInt64) 48 57) hE hK hA hP hD hS [] rfl rfl rfl z_ins_nil rfl hl.1 (Nat.le_of_ble_eq_true rfl) ⟨Nat.le_of_ble_eq_true rfl, Nat.le_of_ble_eq_true rfl⟩ ⟨Nat.le_of_ble_eq_true rfl, Nat.le_of_ble_eq_true rfl⟩ dX8_readsSteps_79 (fun H locs hP hD hS => ?_)
          refine z_top (y := bI (48 ≤ tb (G 4) L (p + 1) ∧ tb (G 4) L (p + 1) ≤ 57)) (bI_congr (in64 (by decide) (by decide))) ?_
          refine lv_if_eq (tgt := 87) hx hb dX8_readsSteps_82 (by decide) (fun c_6 => ?_) (fun c_6 => ?_)
          · skip
            have c_6 := bI_0.mp c_6
            refine lv_iload_n hx hb dX8_readsSteps_87 rfl (lv_at hl 0 rfl) ?_
            refine lv_i2l (v := ((0 + (tb (G 4) L p)) - 48).toInt64) hx hb dX8_readsSteps_88 rfl ?_
            refine lv_ldc2 (v := 2) hx hb hown (hts _ w_ct_X8_170) dX8_readsSteps_89 ?_
            refine lv_ldc2 (v := 16) hx hb hown (hts _ w_ct_X8_172) dX8_readsSteps_92 ?_
            refine z_callS (wn := (refW cs a (upd V 5 (nI (p + 1))) G)) ⟨hx, hb, hml, hown, hts⟩ zY_X8_in w_st_yX8_in w_ml_X8_40 [.long (((0 + (tb (G 4) L p)) - 48).toInt64), .long 2, .long 16] [] (c_X8_in l D cs (((0 + (tb (G 4) L p)) - 48).toInt64) 2 16) hE hK hA hP hD hS [] rfl rfl rfl z_ins_nil rfl hl.1 (Nat.le_of_ble_eq_true rfl) ⟨Nat.le_of_ble_eq_true rfl, Nat.le_of_ble_eq_true rfl⟩ ⟨Nat.le_of_ble_eq_true rfl, Nat.le_of_ble_eq_true rfl⟩ dX8_readsSteps_95 (fun H locs hP hD hS => ?_)
            refine z_top (y := bI (2 ≤ (0 + (tb (G 4) L p)) - 48 ∧ (0 + (tb (G 4) L p)) - 48 ≤ 16)) (bI_congr (in64 (by decide) (by decide))) ?_
            refine lv_if_ne (tgt := 108) hx hb dX8_readsSteps_98 (by decide) (fun c_7 => ?_) (fun c_7 => ?_)
            · skip
              have c_7 := bI_n0 c_7
              refine lv_aload_n hx hb dX8_readsSteps_108 rfl (lv_at hl 2 rfl) ?_
              refine lv_iload_n hx hb dX8_readsSteps_109 rfl (lv_at hl 0 rfl) ?_
              refine va_put (D := D) (ci := 8) (v := .int ((0 + (tb (G 4) L p)) - 48)) (C := RX8) (T := TX8) (N := 13) hx hb hts wsI_X8 tyX8 tyX8_ok nmX8 hown hK hP hD hS 0 rfl rfl 12 (by decide) (hts _ w_fl_X8_174) (fun _ h9 => h9) rfl (tyX8_ok 12 (by decide)) rfl rfl (Nat.le_of_ble_eq_true rfl) dX8_readsSteps_110 (fun H locs hP hD hS => ?_)
              have hP : va_P D vwCl (refW cs a (upd (upd V 5 (nI (p + 1))) 6 ((0 + (tb (G 4) L p)) - 48)) G) H := hP
              have hD : va_D A (refW cs a (upd (upd V 5 (nI (p + 1))) 6 ((0 + (tb (G 4) L p)) - 48)) G) := hD
              refine lv_aload_n hx hb dX8_readsSteps_113 rfl (lv_at hl 2 rfl) ?_
              refine lv_bipush (v := 59) hx hb dX8_readsSteps_114 (by decide) ?_
              refine z_callV (wn := (refW cs a (upd (upd V 5 (nI (psA (G 4) L (p + 1) 59))) 6 ((0 + (tb (G 4) L p)) - 48)) G)) ⟨hx, hb, hml, hown, hts⟩ zY_X8_passesByte w_im_yX8_passesByte w_se_yX8_passesByte w_ml_X8_177 [.int 59] [] (c_X8_passesByte l D cs a (upd (upd V 5 (nI (p + 1))) 6 ((0 + (tb (G 4) L p)) - 48)) G (p + 1) L 59 rfl h4 hL (by omega)) hE hK hA hP hD hS [0, 1, 2, 3, 4, 5, 6] rfl rfl rfl rfl 8 rfl rfl rfl rfl hl.1 (Nat.le_of_ble_eq_true rfl) ⟨Nat.le_of_ble_eq_true rfl, Nat.le_of_ble_eq_true rfl⟩ ⟨Nat.le_of_ble_eq_true rfl, Nat.le_of_ble_eq_true rfl⟩ dX8_readsSteps_116 (fun H locs hP hD hS => ?_)
              have eR : rzR (G 4) L p (V 6) = (bI (tb (G 4) L (p + 1) = 59), psA (G 4) L (p + 1) 59, 0 + tb (G 4) L p - 48) := (if_pos c_1).trans ((if_neg c_4).trans (if_pos c_7))
              exact z_zret hx hb hr hlk hK hP hD hS dX8_readsSteps_119 bI_nar (by rw [eR]) (by rw [eR]; first | done | rfl)
            · skip
              have c_7 := bI_0.mp c_7
              refine lv_aload_n hx hb dX8_readsSteps_101 rfl (lv_at hl 2 rfl) ?_
              refine lv_iload_n hx hb dX8_readsSteps_102 rfl (lv_at hl 1 rfl) ?_
              refine va_put (D := D) (ci := 8) (v := .int (nI p)) (C := RX8) (T := TX8) (N := 13) hx hb hts wsI_X8 tyX8 tyX8_ok nmX8 hown hK hP hD hS 0 rfl rfl 10 (by decide) (hts _ w_fl_X8_160) (fun _ h9 => h9) rfl (tyX8_ok 10 (by decide)) rfl rfl (Nat.le_of_ble_eq_true rfl) dX8_readsSteps_103 (fun H locs hP hD hS => ?_)
              have hP : va_P D vwCl (refW cs a (upd V 5 (nI p)) G) H := hP
              have hD : va_D A (refW cs a (upd V 5 (nI p)) G) := hD
              refine lv_iconst (v := 0) hx hb dX8_readsSteps_106 (by decide) ?_
              have eR : rzR (G 4) L p (V 6) = (0, p, V 6) := (if_pos c_1).trans ((if_neg c_4).trans (if_neg c_7))
              exact z_zret hx hb hr hlk hK hP hD hS dX8_readsSteps_107 rfl (by rw [eR]) (by rw [eR]; first | done | rfl)
          · skip
            have c_6 := bI_n0 c_6
            exact absurd c_6 c_4
      · skip
        have c_4 := bI_n0 c_4
        refine lv_aload_n hx hb dX8_readsSteps_24 rfl (lv_at hl 2 rfl) ?_
        refine va_get (D := D) (ci := 8) (v := .int (nI (p + 1))) (C := RX8) (T := TX8) (N := 13) hx hb hts wsI_X8 hown hK hP 0 rfl rfl 10 (by decide) (hts _ w_fl_X8_160) (fun _ h9 => h9) rfl dX8_readsSteps_25 ?_
        refine lv_iload_n hx hb dX8_readsSteps_28 rfl (lv_at hl 1 rfl) ?_
        refine lv_iconst (v := 2) hx hb dX8_readsSteps_29 (by decide) ?_
        refine lv_iadd hx hb dX8_readsSteps_30 ?_
        refine z_top (y := nI (p + 2)) (nI_add p 2) ?_
        refine lv_icmp_ge (tgt := 60) hx hb dX8_readsSteps_31 (by decide) (fun c_8 => ?_) (fun c_8 => ?_)
        · skip
          exact absurd ((nI_leI (by omega) (by omega)).mp c_8) (by omega)
        · skip
          refine lv_bipush (v := 10) hx hb dX8_readsSteps_34 (by decide) ?_
          refine lv_iload_n hx hb dX8_readsSteps_36 rfl (lv_at hl 0 rfl) ?_
          refine lv_imul hx hb dX8_readsSteps_37 ?_
          refine lv_aload_n hx hb dX8_readsSteps_38 rfl (lv_at hl 2 rfl) ?_
          refine z_callV (wn := (refW cs a (upd V 5 (nI (p + 1))) G)) ⟨hx, hb, hml, hown, hts⟩ zY_X8_here w_im_yX8_here w_se_yX8_here w_ml_X8_163 [] [.int (10 * ((0 + (tb (G 4) L p)) - 48))] (c_X8_here l D cs a (upd V 5 (nI (p + 1))) G (p + 1) L rfl h4 hL (by omega)) hE hK hA hP hD hS [0, 1, 2, 3, 4, 5, 6] rfl rfl rfl rfl 8 rfl rfl rfl rfl hl.1 (Nat.le_of_ble_eq_true rfl) ⟨Nat.le_of_ble_eq_true rfl, Nat.le_of_ble_eq_true rfl⟩ ⟨Nat.le_of_ble_eq_true rfl, Nat.le_of_ble_eq_true rfl⟩ dX8_readsSteps_39 (fun H locs hP hD hS => ?_)
          refine lv_iadd hx hb dX8_readsSteps_42 ?_
          refine lv_bipush (v := 48) hx hb dX8_readsSteps_43 (by decide) ?_
          refine lv_isub hx hb dX8_readsSteps_45 ?_
          refine lv_istore_n (lv' := [(2, .int (((10 * ((0 + (tb (G 4) L p)) - 48)) + (tb (G 4) L (p + 1))) - 48)), (1, .int (nI p)), (0, .ref (a 0))]) hx hb dX8_readsSteps_46 rfl hl (by decide) rfl (fun ls hl => ?_)
          refine lv_aload_n hx hb dX8_readsSteps_47 rfl (lv_at hl 2 rfl) ?_
          refine lv_dup hx hb dX8_readsSteps_48 rfl ?_
          refine va_get (D := D) (ci := 8) (v := .int (nI (p + 1))) (C := RX8) (T := TX8) (N := 13) hx hb hts wsI_X8 hown hK hP 0 rfl rfl 10 (by decide) (hts _ w_fl_X8_160) (fun _ h9 => h9) rfl dX8_readsSteps_49 ?_
          refine lv_iconst (v := 1) hx hb dX8_readsSteps_52 (by decide) ?_
          refine lv_iadd hx hb dX8_readsSteps_53 ?_
          refine z_top (y := nI ((p + 1) + 1)) (nI_add (p + 1) 1) ?_
          refine va_put (D := D) (ci := 8) (v := .int (nI ((p + 1) + 1))) (C := RX8) (T := TX8) (N := 13) hx hb hts wsI_X8 tyX8 tyX8_ok nmX8 hown hK hP hD hS 0 rfl rfl 10 (by decide) (hts _ w_fl_X8_160) (fun _ h9 => h9) rfl (tyX8_ok 10 (by decide)) rfl rfl (Nat.le_of_ble_eq_true rfl) dX8_readsSteps_54 (fun H locs hP hD hS => ?_)
          have hP : va_P D vwCl (refW cs a (upd V 5 (nI ((p + 1) + 1))) G) H := hP
          have hD : va_D A (refW cs a (upd V 5 (nI ((p + 1) + 1))) G) := hD
          refine lv_goto (tgt := 7) hx hb dX8_readsSteps_57 (by decide) ?_
          refine lv_aload_n hx hb dX8_readsSteps_7 rfl (lv_at hl 2 rfl) ?_
          refine z_callV (wn := (refW cs a (upd V 5 (nI ((p + 1) + 1))) G)) ⟨hx, hb, hml, hown, hts⟩ zY_X8_here w_im_yX8_here w_se_yX8_here w_ml_X8_163 [] [] (c_X8_here l D cs a (upd V 5 (nI ((p + 1) + 1))) G ((p + 1) + 1) L rfl h4 hL (by omega)) hE hK hA hP hD hS [0, 1, 2, 3, 4, 5, 6] rfl rfl rfl rfl 8 rfl rfl rfl rfl hl.1 (Nat.le_of_ble_eq_true rfl) ⟨Nat.le_of_ble_eq_true rfl, Nat.le_of_ble_eq_true rfl⟩ ⟨Nat.le_of_ble_eq_true rfl, Nat.le_of_ble_eq_true rfl⟩ dX8_readsSteps_8 (fun H locs hP hD hS => ?_)
          refine lv_i2l (v := (tb (G 4) L ((p + 1) + 1)).toInt64) hx hb dX8_readsSteps_11 rfl ?_
          refine lv_ldc2 (v := 48) hx hb hown (hts _ w_ct_X8_166) dX8_readsSteps_12 ?_
          refine lv_ldc2 (v := 57) hx hb hown (hts _ w_ct_X8_168) dX8_readsSteps_15 ?_
          refine z_callS (wn := (refW cs a (upd V 5 (nI ((p + 1) + 1))) G)) ⟨hx, hb, hml, hown, hts⟩ zY_X8_in w_st_yX8_in w_ml_X8_40 [.long ((tb (G 4) L ((p + 1) + 1)).toInt64), .long 48, .long 57] [] (c_X8_in l D cs ((tb (G 4) L ((p + 1) + 1)).toInt64) 48 57) hE hK hA hP hD hS [] rfl rfl rfl z_ins_nil rfl hl.1 (Nat.le_of_ble_eq_true rfl) ⟨Nat.le_of_ble_eq_true rfl, Nat.le_of_ble_eq_true rfl⟩ ⟨Nat.le_of_ble_eq_true rfl, Nat.le_of_ble_eq_true rfl⟩ dX8_readsSteps_18 (fun H locs hP hD hS => ?_)
          refine z_top (y := bI (48 ≤ tb (G 4) L ((p + 1) + 1) ∧ tb (G 4) L ((p + 1) + 1) ≤ 57)) (bI_congr (in64 (by decide) (by decide))) ?_
          refine lv_if_eq (tgt := 60) hx hb dX8_readsSteps_21 (by decide) (fun c_9 => ?_) (fun c_9 => ?_)
          · skip
            have c_9 := bI_0.mp c_9
            refine lv_aload_n hx hb dX8_readsSteps_60 rfl (lv_at hl 2 rfl) ?_
            refine va_get (D := D) (ci := 8) (v := .int (nI ((p + 1) + 1))) (C := RX8) (T := TX8) (N := 13) hx hb hts wsI_X8 hown hK hP 0 rfl rfl 10 (by decide) (hts _ w_fl_X8_160) (fun _ h9 => h9) rfl dX8_readsSteps_61 ?_
            refine lv_iload_n hx hb dX8_readsSteps_64 rfl (lv_at hl 1 rfl) ?_
            refine lv_icmp_eq (tgt := 85) hx hb dX8_readsSteps_65 (by decide) (fun c_10 => ?_) (fun c_10 => ?_)
            · skip
              exact absurd ((nI_eq (by omega) (by omega)).mp c_10) (by omega)
            · skip
              refine lv_aload_n hx hb dX8_readsSteps_68 rfl (lv_at hl 2 rfl) ?_
              refine z_callV (wn := (refW cs a (upd V 5 (nI ((p + 1) + 1))) G)) ⟨hx, hb, hml, hown, hts⟩ zY_X8_here w_im_yX8_here w_se_yX8_here w_ml_X8_163 [] [] (c_X8_here l D cs a (upd V 5 (nI ((p + 1) + 1))) G ((p + 1) + 1) L rfl h4 hL (by omega)) hE hK hA hP hD hS [0, 1, 2, 3, 4, 5, 6] rfl rfl rfl rfl 8 rfl rfl rfl rfl hl.1 (Nat.le_of_ble_eq_true rfl) ⟨Nat.le_of_ble_eq_true rfl, Nat.le_of_ble_eq_true rfl⟩ ⟨Nat.le_of_ble_eq_true rfl, Nat.le_of_ble_eq_true rfl⟩ dX8_readsSteps_69 (fun H locs hP hD hS => ?_)
              refine lv_i2l (v := (tb (G 4) L ((p + 1) + 1)).toInt64) hx hb dX8_readsSteps_72 rfl ?_
              refine lv_ldc2 (v := 48) hx hb hown (hts _ w_ct_X8_166) dX8_readsSteps_73 ?_
              refine lv_ldc2 (v := 57) hx hb hown (hts _ w_ct_X8_168) dX8_readsSteps_76 ?_
              refine z_callS (wn := (refW cs a (upd V 5 (nI ((p + 1) + 1))) G)) ⟨hx, hb, hml, hown, hts⟩ zY_X8_in w_st_yX8_in w_ml_X8_40 [.long ((tb (G 4) L ((p + 1) + 1)).toInt64), .long 48, .long 57] [] (c_X8_in l D cs ((tb (G 4) L ((p + 1) + 1)).toInt64) 48 57) hE hK hA hP hD hS [] rfl rfl rfl z_ins_nil rfl hl.1 (Nat.le_of_ble_eq_true rfl) ⟨Nat.le_of_ble_eq_true rfl, Nat.le_of_ble_eq_true rfl⟩ ⟨Nat.le_of_ble_eq_true rfl, Nat.le_of_ble_eq_true rfl⟩ dX8_readsSteps_79 (fun H locs hP hD hS => ?_)
              refine z_top (y := bI (48 ≤ tb (G 4) L ((p + 1) + 1) ∧ tb (G 4) L ((p + 1) + 1) ≤ 57)) (bI_congr (in64 (by decide) (by decide))) ?_
              refine lv_if_eq (tgt := 87) hx hb dX8_readsSteps_82 (by decide) (fun c_11 => ?_) (fun c_11 => ?_)
              · skip
                have c_11 := bI_0.mp c_11
                refine lv_iload_n hx hb dX8_readsSteps_87 rfl (lv_at hl 0 rfl) ?_
                refine lv_i2l (v := (((10 * ((0 + (tb (G 4) L p)) - 48)) + (tb (G 4) L (p + 1))) - 48).toInt64) hx hb dX8_readsSteps_88 rfl ?_
                refine lv_ldc2 (v := 2) hx hb hown (hts _ w_ct_X8_170) dX8_readsSteps_89 ?_
                refine lv_ldc2 (v := 16) hx hb hown (hts _ w_ct_X8_172) dX8_readsSteps_92 ?_
                refine z_callS (wn := (refW cs a (upd V 5 (nI ((p + 1) + 1))) G)) ⟨hx, hb, hml, hown, hts⟩ zY_X8_in w_st_yX8_in w_ml_X8_40 [.long ((((10 * ((0 + (tb (G 4) L p)) - 48)) + (tb (G 4) L (p + 1))) - 48).toInt64), .long 2, .long 16] [] (c_X8_in l D cs ((((10 * ((0 + (tb (G 4) L p)) - 48)) + (tb (G 4) L (p + 1))) - 48).toInt64) 2 16) hE hK hA hP hD hS [] rfl rfl rfl z_ins_nil rfl hl.1 (Nat.le_of_ble_eq_true rfl) ⟨Nat.le_of_ble_eq_true rfl, Nat.le_of_ble_eq_true rfl⟩ ⟨Nat.le_of_ble_eq_true rfl, Nat.le_of_ble_eq_true rfl⟩ dX8_readsSteps_95 (fun H locs hP hD hS => ?_)
                refine z_top (y := bI (2 ≤ ((10 * ((0 + (tb (G 4) L p)) - 48)) + (tb (G 4) L (p + 1))) - 48 ∧ ((10 * ((0 + (tb (G 4) L p)) - 48)) + (tb (G 4) L (p + 1))) - 48 ≤ 16)) (bI_congr (in64 (by decide) (by decide))) ?_
                refine lv_if_ne (tgt := 108) hx hb dX8_readsSteps_98 (by decide) (fun c_12 => ?_) (fun c_12 => ?_)
                · skip
                  have c_12 := bI_n0 c_12
                  refine lv_aload_n hx hb dX8_readsSteps_108 rfl (lv_at hl 2 rfl) ?_
                  refine lv_iload_n hx hb dX8_readsSteps_109 rfl (lv_at hl 0 rfl) ?_
                  refine va_put (D := D) (ci := 8) (v := .int (((10 * ((0 + (tb (G 4) L p)) - 48)) + (tb (G 4) L (p + 1))) - 48)) (C := RX8) (T := TX8) (N := 13) hx hb hts wsI_X8 tyX8 tyX8_ok nmX8 hown hK hP hD hS 0 rfl rfl 12 (by decide) (hts _ w_fl_X8_174) (fun _ h9 => h9) rfl (tyX8_ok 12 (by decide)) rfl rfl (Nat.le_of_ble_eq_true rfl) dX8_readsSteps_110 (fun H locs hP hD hS => ?_)
                  have hP : va_P D vwCl (refW cs a (upd (upd V 5 (nI ((p + 1) + 1))) 6 (((10 * ((0 + (tb (G 4) L p)) - 48)) + (tb (G 4) L (p + 1))) - 48)) G) H := hP
                  have hD : va_D A (refW cs a (upd (upd V 5 (nI ((p + 1) + 1))) 6 (((10 * ((0 + (tb (G 4) L p)) - 48)) + (tb (G 4) L (p + 1))) - 48)) G) := hD
                  refine lv_aload_n hx hb dX8_readsSteps_113 rfl (lv_at hl 2 rfl) ?_
                  refine lv_bipush (v := 59) hx hb dX8_readsSteps_114 (by decide) ?_
                  refine z_callV (wn := (refW cs a (upd (upd V 5 (nI (psA (G 4) L ((p + 1) + 1) 59))) 6 (((10 * ((0 + (tb (G 4) L p)) - 48)) + (tb (G 4) L (p + 1))) - 48)) G)) ⟨hx, hb, hml, hown, hts⟩ zY_X8_passesByte w_im_yX8_passesByte w_se_yX8_passesByte w_ml_X8_177 [.int 59] [] (c_X8_passesByte l D cs a (upd (upd V 5 (nI ((p + 1) + 1))) 6 (((10 * ((0 + (tb (G 4) L p)) - 48)) + (tb (G 4) L (p + 1))) - 48)) G ((p + 1) + 1) L 59 rfl h4 hL (by omega)) hE hK hA hP hD hS [0, 1, 2, 3, 4, 5, 6] rfl rfl rfl rfl 8 rfl rfl rfl rfl hl.1 (Nat.le_of_ble_eq_true rfl) ⟨Nat.le_of_ble_eq_true rfl, Nat.le_of_ble_eq_true rfl⟩ ⟨Nat.le_of_ble_eq_true rfl, Nat.le_of_ble_eq_true rfl⟩ dX8_readsSteps_116 (fun H locs hP hD hS => ?_)
                  have eR : rzR (G 4) L p (V 6) = (bI (tb (G 4) L (p + 1 + 1) = 59), psA (G 4) L (p + 1 + 1) 59, 10 * (0 + tb (G 4) L p - 48) + tb (G 4) L (p + 1) - 48) := (if_pos c_1).trans ((if_pos c_4).trans ((if_neg c_9).trans (if_pos c_12)))
                  exact z_zret hx hb hr hlk hK hP hD hS dX8_readsSteps_119 bI_nar (by rw [eR]) (by rw [eR]; first | done | rfl)
                · skip
                  have c_12 := bI_0.mp c_12
                  refine lv_aload_n hx hb dX8_readsSteps_101 rfl (lv_at hl 2 rfl) ?_
                  refine lv_iload_n hx hb dX8_readsSteps_102 rfl (lv_at hl 1 rfl) ?_
                  refine va_put (D := D) (ci := 8) (v := .int (nI p)) (C := RX8) (T := TX8) (N := 13) hx hb hts wsI_X8 tyX8 tyX8_ok nmX8 hown hK hP hD hS 0 rfl rfl 10 (by decide) (hts _ w_fl_X8_160) (fun _ h9 => h9) rfl (tyX8_ok 10 (by decide)) rfl rfl (Nat.le_of_ble_eq_true rfl) dX8_readsSteps_103 (fun H locs hP hD hS => ?_)
                  have hP : va_P D vwCl (refW cs a (upd V 5 (nI p)) G) H := hP
                  have hD : va_D A (refW cs a (upd V 5 (nI p)) G) := hD
                  refine lv_iconst (v := 0) hx hb dX8_readsSteps_106 (by decide) ?_
                  have eR : rzR (G 4) L p (V 6) = (0, p, V 6) := (if_pos c_1).trans ((if_pos c_4).trans ((if_neg c_9).trans (if_neg c_12)))
                  exact z_zret hx hb hr hlk hK hP hD hS dX8_readsSteps_107 rfl (by rw [eR]) (by rw [eR]; first | done | rfl)
              · skip
                have c_11 := bI_n0 c_11
                exact absurd c_11 c_9
          · skip
            have c_9 := bI_n0 c_9
            refine lv_aload_n hx hb dX8_readsSteps_24 rfl (lv_at hl 2 rfl) ?_
            refine va_get (D := D) (ci := 8) (v := .int (nI ((p + 1) + 1))) (C := RX8) (T := TX8) (N := 13) hx hb hts wsI_X8 hown hK hP 0 rfl rfl 10 (by decide) (hts _ w_fl_X8_160) (fun _ h9 => h9) rfl dX8_readsSteps_25 ?_
            refine lv_iload_n hx hb dX8_readsSteps_28 rfl (lv_at hl 1 rfl) ?_
            refine lv_iconst (v := 2) hx hb dX8_readsSteps_29 (by decide) ?_
            refine lv_iadd hx hb dX8_readsSteps_30 ?_
            refine z_top (y := nI (p + 2)) (nI_add p 2) ?_
            refine lv_icmp_ge (tgt := 60) hx hb dX8_readsSteps_31 (by decide) (fun c_13 => ?_) (fun c_13 => ?_)
            · skip
              refine lv_aload_n hx hb dX8_readsSteps_60 rfl (lv_at hl 2 rfl) ?_
              refine va_get (D := D) (ci := 8) (v := .int (nI ((p + 1) + 1))) (C := RX8) (T := TX8) (N := 13) hx hb hts wsI_X8 hown hK hP 0 rfl rfl 10 (by decide) (hts _ w_fl_X8_160) (fun _ h9 => h9) rfl dX8_readsSteps_61 ?_
              refine lv_iload_n hx hb dX8_readsSteps_64 rfl (lv_at hl 1 rfl) ?_
              refine lv_icmp_eq (tgt := 85) hx hb dX8_readsSteps_65 (by decide) (fun c_14 => ?_) (fun c_14 => ?_)
              · skip
                exact absurd ((nI_eq (by omega) (by omega)).mp c_14) (by omega)
              · skip
                refine lv_aload_n hx hb dX8_readsSteps_68 rfl (lv_at hl 2 rfl) ?_
                refine z_callV (wn := (refW cs a (upd V 5 (nI ((p + 1) + 1))) G)) ⟨hx, hb, hml, hown, hts⟩ zY_X8_here w_im_yX8_here w_se_yX8_here w_ml_X8_163 [] [] (c_X8_here l D cs a (upd V 5 (nI ((p + 1) + 1))) G ((p + 1) + 1) L rfl h4 hL (by omega)) hE hK hA hP hD hS [0, 1, 2, 3, 4, 5, 6] rfl rfl rfl rfl 8 rfl rfl rfl rfl hl.1 (Nat.le_of_ble_eq_true rfl) ⟨Nat.le_of_ble_eq_true rfl, Nat.le_of_ble_eq_true rfl⟩ ⟨Nat.le_of_ble_eq_true rfl, Nat.le_of_ble_eq_true rfl⟩ dX8_readsSteps_69 (fun H locs hP hD hS => ?_)
                refine lv_i2l (v := (tb (G 4) L ((p + 1) + 1)).toInt64) hx hb dX8_readsSteps_72 rfl ?_
                refine lv_ldc2 (v := 48) hx hb hown (hts _ w_ct_X8_166) dX8_readsSteps_73 ?_
                refine lv_ldc2 (v := 57) hx hb hown (hts _ w_ct_X8_168) dX8_readsSteps_76 ?_
                refine z_callS (wn := (refW cs a (upd V 5 (nI ((p + 1) + 1))) G)) ⟨hx, hb, hml, hown, hts⟩ zY_X8_in w_st_yX8_in w_ml_X8_40 [.long ((tb (G 4) L ((p + 1) + 1)).toInt64), .long 48, .long 57] [] (c_X8_in l D cs ((tb (G 4) L ((p + 1) + 1)).toInt64) 48 57) hE hK hA hP hD hS [] rfl rfl rfl z_ins_nil rfl hl.1 (Nat.le_of_ble_eq_true rfl) ⟨Nat.le_of_ble_eq_true rfl, Nat.le_of_ble_eq_true rfl⟩ ⟨Nat.le_of_ble_eq_true rfl, Nat.le_of_ble_eq_true rfl⟩ dX8_readsSteps_79 (fun H locs hP hD hS => ?_)
                refine z_top (y := bI (48 ≤ tb (G 4) L ((p + 1) + 1) ∧ tb (G 4) L ((p + 1) + 1) ≤ 57)) (bI_congr (in64 (by decide) (by decide))) ?_
                refine lv_if_eq (tgt := 87) hx hb dX8_readsSteps_82 (by decide) (fun c_15 => ?_) (fun c_15 => ?_)
                · skip
                  have c_15 := bI_0.mp c_15
                  exact absurd c_9 c_15
                · skip
                  have c_15 := bI_n0 c_15
                  refine lv_iconst (v := 0) hx hb dX8_readsSteps_85 (by decide) ?_
                  have eR : rzR (G 4) L p (V 6) = (0, p + 1 + 1, V 6) := (if_pos c_1).trans ((if_pos c_4).trans (if_pos c_9))
                  exact z_zret hx hb hr hlk hK hP hD hS dX8_readsSteps_86 rfl (by rw [eR]) (by rw [eR]; first | done | rfl)
            · skip
              exact absurd ((nI_leI (by omega) (by omega)).mpr (by omega)) c_13

set_option maxHeartbeats 4000000 in
set_option maxRecDepth 100000 in
theorem c_X8_readsTrack (l : Launch) (D : va_G) (cs : zCs) (a : Nat → Nat) (V : Nat → Int32) (G : Nat → Nat → Int32) (p L : Nat) (m : Nat) (h5 : V 5 = nI p) (h4 : V 4 = nI L) (h6 : V 6 = nI m) (hL : L ≤ 100) (hm : m ≤ 16) (hp : p < 5000) : zM l D cs yX8_readsTrack cX8_readsTrack 3 (some FieldType.boolean) 2 42 0 0 [.ref (a 0)] (refW cs a V G) (some (.int ((rkR (G 4) L m p (G 5)).1))) (refW cs a (upd V 5 (nI (rkR (G 4) L m p (G 5)).2.1)) (zU G 5 ((rkR (G 4) L m p (G 5)).2.2))) := by
  refine zM.of (own := RX8) (by decide) (Nat.le_of_ble_eq_true rfl) rfl ?_
  intro pq eq s mq below meth cq A ls hx hb hr hml hown hts hlk hnm hE hK hA hP hD hS hl
  have hl : lv_has ls 3 [(0, .ref (a 0))] := hl
  refine lv_aload_n hx hb dX8_readsTrack_0 rfl (lv_at hl 0 rfl) ?_
  refine z_callV (wn := (refW cs a V G)) ⟨hx, hb, hml, hown, hts⟩ zY_X8_here w_im_yX8_here w_se_yX8_here w_ml_X8_163 [] [] (c_X8_here l D cs a V G p L h5 h4 hL (by omega)) hE hK hA hP hD hS [0, 1, 2, 3, 4, 5, 6] rfl rfl rfl rfl 8 rfl rfl rfl rfl hl.1 (Nat.le_of_ble_eq_true rfl) ⟨Nat.le_of_ble_eq_true rfl, Nat.le_of_ble_eq_true rfl⟩ ⟨Nat.le_of_ble_eq_true rfl, Nat.le_of_ble_eq_true rfl⟩ dX8_readsTrack_1 (fun H locs hP hD hS => ?_)
  refine lv_i2l (v := (tb (G 4) L p).toInt64) hx hb dX8_readsTrack_4 rfl ?_
  refine lv_ldc2 (v := 48) hx hb hown (hts _ w_ct_X8_166) dX8_readsTrack_5 ?_
  refine lv_ldc2 (v := 52) hx hb hown (hts _ w_ct_X8_180) dX8_readsTrack_8 ?_
  refine z_callS (wn := (refW cs a V G)) ⟨hx, hb, hml, hown, hts⟩ zY_X8_in w_st_yX8_in w_ml_X8_40 [.long ((tb (G 4) L p).toInt64), .long 48, .long 52] [] (c_X8_in l D cs ((tb (G 4) L p).toInt64) 48 52) hE hK hA hP hD hS [] rfl rfl rfl z_ins_nil rfl hl.1 (Nat.le_of_ble_eq_true rfl) ⟨Nat.le_of_ble_eq_true rfl, Nat.le_of_ble_eq_true rfl⟩ ⟨Nat.le_of_ble_eq_true rfl, Nat.le_of_ble_eq_true rfl⟩ dX8_readsTrack_11 (fun H locs hP hD hS => ?_)
  refine z_top (y := bI (48 ≤ tb (G 4) L p ∧ tb (G 4) L p ≤ 52)) (bI_congr (in64 (by decide) (by decide))) ?_
  refine lv_if_ne (tgt := 19) hx hb dX8_readsTrack_14 (by decide) (fun c_1 => ?_) (fun c_1 => ?_)
  · skip
    have c_1 := bI_n0 c_1
    refine lv_aload_n hx hb dX8_readsTrack_19 rfl (lv_at hl 0 rfl) ?_
    refine z_callV (wn := (refW cs a V G)) ⟨hx, hb, hml, hown, hts⟩ zY_X8_here w_im_yX8_here w_se_yX8_here w_ml_X8_163 [] [] (c_X8_here l D cs a V G p L h5 h4 hL (by omega)) hE hK hA hP hD hS [0, 1, 2, 3, 4, 5, 6] rfl rfl rfl rfl 8 rfl rfl rfl rfl hl.1 (Nat.le_of_ble_eq_true rfl) ⟨Nat.le_of_ble_eq_true rfl, Nat.le_of_ble_eq_true rfl⟩ ⟨Nat.le_of_ble_eq_true rfl, Nat.le_of_ble_eq_true rfl⟩ dX8_readsTrack_20 (fun H locs hP hD hS => ?_)
    refine lv_bipush (v := 48) hx hb dX8_readsTrack_23 (by decide) ?_
    refine lv_isub hx hb dX8_readsTrack_25 ?_
    obtain ⟨c, hc5, ec⟩ := z_dig5 c_1
    have hcN : nN (tb (G 4) L p - 48) = c := by rw [ec]; exact nN_nI (by omega)
    refine z_top ec ?_
    refine lv_istore_n (lv' := [(1, .int (nI c)), (0, .ref (a 0))]) hx hb dX8_readsTrack_26 rfl hl (by decide) rfl (fun ls hl => ?_)
    refine lv_aload_n hx hb dX8_readsTrack_27 rfl (lv_at hl 1 rfl) ?_
    refine lv_dup hx hb dX8_readsTrack_28 rfl ?_
    refine va_get (D := D) (ci := 8) (v := .int (V 5)) (C := RX8) (T := TX8) (N := 13) hx hb hts wsI_X8 hown hK hP 0 rfl rfl 10 (by decide) (hts _ w_fl_X8_160) (fun _ h9 => h9) rfl dX8_readsTrack_29 ?_
    refine z_top (y := nI p) h5 ?_
    refine lv_iconst (v := 1) hx hb dX8_readsTrack_32 (by decide) ?_
    refine lv_iadd hx hb dX8_readsTrack_33 ?_
    refine z_top (y := nI (p + 1)) (nI_add p 1) ?_
    refine va_put (D := D) (ci := 8) (v := .int (nI (p + 1))) (C := RX8) (T := TX8) (N := 13) hx hb hts wsI_X8 tyX8 tyX8_ok nmX8 hown hK hP hD hS 0 rfl rfl 10 (by decide) (hts _ w_fl_X8_160) (fun _ h9 => h9) rfl (tyX8_ok 10 (by decide)) rfl rfl (Nat.le_of_ble_eq_true rfl) dX8_readsTrack_34 (fun H locs hP hD hS => ?_)
    have hP : va_P D vwCl (refW cs a (upd V 5 (nI (p + 1))) G) H := hP
    have hD : va_D A (refW cs a (upd V 5 (nI (p + 1))) G) := hD
    refine lv_aload_n hx hb dX8_readsTrack_37 rfl (lv_at hl 1 rfl) ?_
    refine lv_bipush (v := 58) hx hb dX8_readsTrack_38 (by decide) ?_
    refine z_callV (wn := (refW cs a (upd V 5 (nI (psA (G 4) L (p + 1) 58))) G)) ⟨hx, hb, hml, hown, hts⟩ zY_X8_passesByte w_im_yX8_passesByte w_se_yX8_passesByte w_ml_X8_177 [.int 58] [] (c_X8_passesByte l D cs a (upd V 5 (nI (p + 1))) G (p + 1) L 58 rfl h4 hL (by omega)) hE hK hA hP hD hS [0, 1, 2, 3, 4, 5, 6] rfl rfl rfl rfl 8 rfl rfl rfl rfl hl.1 (Nat.le_of_ble_eq_true rfl) ⟨Nat.le_of_ble_eq_true rfl, Nat.le_of_ble_eq_true rfl⟩ ⟨Nat.le_of_ble_eq_true rfl, Nat.le_of_ble_eq_true rfl⟩ dX8_readsTrack_40 (fun H locs hP hD hS => ?_)
    refine lv_if_ne (tgt := 48) hx hb dX8_readsTrack_43 (by decide) (fun c_2 => ?_) (fun c_2 => ?_)
    · skip
      have c_2 := bI_n0 c_2
      rw [show psA (G 4) L (p + 1) 58 = p + 2 from if_pos c_2] at hP hD
      refine lv_aload_n hx hb dX8_readsTrack_48 rfl (lv_at hl 1 rfl) ?_
      refine va_get (D := D) (ci := 8) (v := .ref (a 6)) (C := RX8) (T := TX8) (N := 13) hx hb hts wsI_X8 hown hK hP 0 rfl rfl 11 (by decide) (hts _ w_fl_X8_25) (fun _ h9 => h9) rfl dX8_readsTrack_49 ?_
      refine lv_iload_n hx hb dX8_readsTrack_52 rfl (lv_at hl 0 rfl) ?_
      refine lv_iconst (v := 0) hx hb dX8_readsTrack_53 (by decide) ?_
      refine z_iast (k := c) hx hb hK hP hD hS 6 rfl (by omega) (by first | decide | omega) dX8_readsTrack_54 (fun H locs hP hD hS => ?_)
      have hP : va_P D vwCl (refW cs a (upd V 5 (nI (p + 2))) (zU G 5 (upd (G 5) c 0))) H := hP
      have hD : va_D A (refW cs a (upd V 5 (nI (p + 2))) (zU G 5 (upd (G 5) c 0))) := hD
      refine lv_iconst (v := 0) hx hb dX8_readsTrack_55 (by decide) ?_
      refine lv_istore_n (lv' := [(2, .int 0), (1, .int (nI c)), (0, .ref (a 0))]) hx hb dX8_readsTrack_56 rfl hl (by decide) rfl (fun ls hl => ?_)
      have lp57 : ∀ (k : Nat) (i pp : Nat) (x : Int32), (i + k = m) → (rkL (G 4) L k i pp x = (rkL (G 4) L m 0 (p + 2) 0)) → (pp ≤ p + 2 + i) → ∀ (H : Heap) (locs : List Loc) (ls : Array Slot), va_P D vwCl (refW cs a (upd V 5 (nI pp)) (zU G 5 (upd (G 5) c x))) H → va_D A (refW cs a (upd V 5 (nI pp)) (zU G 5 (upd (G 5) c x))) → va_S A s.heap H locs → lv_has ls 3 [(0, .ref (a 0)), (1, .int (nI c)), (2, .int (nI i))] → W pq l eq ({ frames := 2, cells := 0, slots := 0, locals := 42 } : Room) s mq ([.ref (a 0)] : List Value).toArray below meth cq H locs 0 0 (MQ below (zQ D cs (some (.int ((rkR (G 4) L m p (G 5)).1))) (refW cs a (upd V 5 (nI (rkR (G 4) L m p (G 5)).2.1)) (zU G 5 ((rkR (G 4) L m p (G 5)).2.2))) A) ([.ref (a 0)] : List Value).toArray s 0 0 A) (F0 mq 57 ls []) := by
        intro k
        induction k with
        | zero =>
          intro i pp x h1 h2 h3 H locs ls hP hD hS hl
          refine lv_iload_n hx hb dX8_readsTrack_57 rfl (lv_at hl 2 rfl) ?_
          refine lv_aload_n hx hb dX8_readsTrack_58 rfl (lv_at hl 0 rfl) ?_
          refine va_get (D := D) (ci := 8) (v := .int (V 6)) (C := RX8) (T := TX8) (N := 13) hx hb hts wsI_X8 hown hK hP 0 rfl rfl 12 (by decide) (hts _ w_fl_X8_174) (fun _ h9 => h9) rfl dX8_readsTrack_59 ?_
          refine z_top (y := nI m) h6 ?_
          refine lv_icmp_ge (tgt := 126) hx hb dX8_readsTrack_62 (by decide) (fun c_3 => ?_) (fun c_3 => ?_)
          · skip
            refine lv_aload_n hx hb dX8_readsTrack_126 rfl (lv_at hl 0 rfl) ?_
            refine lv_bipush (v := 59) hx hb dX8_readsTrack_127 (by decide) ?_
            refine z_callV (wn := (refW cs a (upd V 5 (nI (psA (G 4) L pp 59))) (zU G 5 (upd (G 5) c x)))) ⟨hx, hb, hml, hown, hts⟩ zY_X8_passesByte w_im_yX8_passesByte w_se_yX8_passesByte w_ml_X8_177 [.int 59] [] (c_X8_passesByte l D cs a (upd V 5 (nI pp)) (zU G 5 (upd (G 5) c x)) pp L 59 rfl h4 hL (by omega)) hE hK hA hP hD hS [0, 1, 2, 3, 4, 5, 6] rfl rfl rfl rfl 8 rfl rfl rfl rfl hl.1 (Nat.le_of_ble_eq_true rfl) ⟨Nat.le_of_ble_eq_true rfl, Nat.le_of_ble_eq_true rfl⟩ ⟨Nat.le_of_ble_eq_true rfl, Nat.le_of_ble_eq_true rfl⟩ dX8_readsTrack_129 (fun H locs hP hD hS => ?_)
            have eZ : (rkL (G 4) L m 0 (p + 2) 0) = (1, pp, x) := h2.symm
            have eR : rkR (G 4) L m p (G 5) = (bI (tb (G 4) L pp = 59), psA (G 4) L pp 59, upd (G 5) c x) := by unfold rkR; rw [if_pos c_1, if_pos c_2, hcN, eZ]; exact if_neg (show ¬ (1 : Int32) = 0 by decide)
            exact z_zret hx hb hr hlk hK hP hD hS dX8_readsTrack_132 bI_nar (by rw [eR]; first | done | rfl) (by rw [eR]; first | done | rfl)
          · skip
            exact absurd ((nI_leI (by omega) (by omega)).mpr (by omega)) c_3
        | succ k ih =>
          intro i pp x h1 h2 h3 H locs ls hP hD hS hl
          refine lv_iload_n hx hb dX8_readsTrack_57 rfl (lv_at hl 2 rfl) ?_
          refine lv_aload_n hx hb dX8_readsTrack_58 rfl (lv_at hl 0 rfl) ?_
          refine va_get (D := D) (ci := 8) (v := .int (V 6)) (C := RX8) (T := TX8) (N := 13) hx hb hts wsI_X8 hown hK hP 0 rfl rfl 12 (by decide) (hts _ w_fl_X8_174) (fun _ h9 => h9) rfl dX8_readsTrack_59 ?_
          refine z_top (y := nI m) h6 ?_
          refine lv_icmp_ge (tgt := 126) hx hb dX8_readsTrack_62 (by decide) (fun c_4 => ?_) (fun c_4 => ?_)
          · skip
            exact absurd ((nI_leI (by omega) (by omega)).mp c_4) (by omega)
          · skip
            refine lv_aload_n hx hb dX8_readsTrack_65 rfl (lv_at hl 0 rfl) ?_
            refine z_callV (wn := (refW cs a (upd V 5 (nI pp)) (zU G 5 (upd (G 5) c x)))) ⟨hx, hb, hml, hown, hts⟩ zY_X8_here w_im_yX8_here w_se_yX8_here w_ml_X8_163 [] [] (c_X8_here l D cs a (upd V 5 (nI pp)) (zU G 5 (upd (G 5) c x)) pp L rfl h4 hL (by omega)) hE hK hA hP hD hS [0, 1, 2, 3, 4, 5, 6] rfl rfl rfl rfl 8 rfl rfl rfl rfl hl.1 (Nat.le_of_ble_eq_true rfl) ⟨Nat.le_of_ble_eq_true rfl, Nat.le_of_ble_eq_true rfl⟩ ⟨Nat.le_of_ble_eq_true rfl, Nat.le_of_ble_eq_true rfl⟩ dX8_readsTrack_66 (fun H locs hP hD hS => ?_)
            refine lv_bipush (v := 120) hx hb dX8_readsTrack_69 (by decide) ?_
            refine lv_icmp_eq (tgt := 85) hx hb dX8_readsTrack_71 (by decide) (fun c_5 => ?_) (fun c_5 => ?_)
            · skip
              refine lv_aload_n hx hb dX8_readsTrack_85 rfl (lv_at hl 0 rfl) ?_
              refine va_get (D := D) (ci := 8) (v := .ref (a 6)) (C := RX8) (T := TX8) (N := 13) hx hb hts wsI_X8 hown hK hP 0 rfl rfl 11 (by decide) (hts _ w_fl_X8_25) (fun _ h9 => h9) rfl dX8_readsTrack_86 ?_
              refine lv_iload_n hx hb dX8_readsTrack_89 rfl (lv_at hl 1 rfl) ?_
              refine lv_dup2_11 hx hb dX8_readsTrack_90 rfl rfl ?_
              refine z_iald (k := c) hx hb hK hP 6 rfl (by omega) (by first | decide | omega) dX8_readsTrack_91 ?_
              refine z_top (y := x) (show (upd (G 5) c x) c = x from pk_us) ?_
              refine lv_aload_n hx hb dX8_readsTrack_92 rfl (lv_at hl 0 rfl) ?_
              refine z_callV (wn := (refW cs a (upd V 5 (nI pp)) (zU G 5 (upd (G 5) c x)))) ⟨hx, hb, hml, hown, hts⟩ zY_X8_here w_im_yX8_here w_se_yX8_here w_ml_X8_163 [] [.int x, .int (nI c), .ref (a 6)] (c_X8_here l D cs a (upd V 5 (nI pp)) (zU G 5 (upd (G 5) c x)) pp L rfl h4 hL (by omega)) hE hK hA hP hD hS [0, 1, 2, 3, 4, 5, 6] rfl rfl rfl rfl 8 rfl rfl rfl rfl hl.1 (Nat.le_of_ble_eq_true rfl) ⟨Nat.le_of_ble_eq_true rfl, Nat.le_of_ble_eq_true rfl⟩ ⟨Nat.le_of_ble_eq_true rfl, Nat.le_of_ble_eq_true rfl⟩ dX8_readsTrack_93 (fun H locs hP hD hS => ?_)
              refine lv_bipush (v := 120) hx hb dX8_readsTrack_96 (by decide) ?_
              refine lv_icmp_ne (tgt := 107) hx hb dX8_readsTrack_98 (by decide) (fun c_6 => ?_) (fun c_6 => ?_)
              · skip
                exact absurd c_5 c_6
              · skip
                refine lv_iconst (v := 1) hx hb dX8_readsTrack_101 (by decide) ?_
                refine lv_iload_n hx hb dX8_readsTrack_102 rfl (lv_at hl 2 rfl) ?_
                refine lv_ishl hx hb dX8_readsTrack_103 ?_
                refine lv_goto (tgt := 108) hx hb dX8_readsTrack_104 (by decide) ?_
                refine lv_ior hx hb dX8_readsTrack_108 ?_
                refine z_iast (k := c) hx hb hK hP hD hS 6 rfl (by omega) (by first | decide | omega) dX8_readsTrack_109 (fun H locs hP hD hS => ?_)
                have hP : va_P D vwCl (refW cs a (upd V 5 (nI pp)) (zU G 5 (upd (upd (G 5) c x) c (x ||| (1 <<< ((nI i) &&& 31)))))) H := hP
                have hD : va_D A (refW cs a (upd V 5 (nI pp)) (zU G 5 (upd (upd (G 5) c x) c (x ||| (1 <<< ((nI i) &&& 31)))))) := hD
                refine lv_aload_n hx hb dX8_readsTrack_110 rfl (lv_at hl 0 rfl) ?_
                refine lv_dup hx hb dX8_readsTrack_111 rfl ?_
                refine va_get (D := D) (ci := 8) (v := .int (nI pp)) (C := RX8) (T := TX8) (N := 13) hx hb hts wsI_X8 hown hK hP 0 rfl rfl 10 (by decide) (hts _ w_fl_X8_160) (fun _ h9 => h9) rfl dX8_readsTrack_112 ?_
                refine lv_iconst (v := 1) hx hb dX8_readsTrack_115 (by decide) ?_
                refine lv_iadd hx hb dX8_readsTrack_116 ?_
                refine z_top (y := nI (pp + 1)) (nI_add pp 1) ?_
                refine va_put (D := D) (ci := 8) (v := .int (nI (pp + 1))) (C := RX8) (T := TX8) (N := 13) hx hb hts wsI_X8 tyX8 tyX8_ok nmX8 hown hK hP hD hS 0 rfl rfl 10 (by decide) (hts _ w_fl_X8_160) (fun _ h9 => h9) rfl (tyX8_ok 10 (by decide)) rfl rfl (Nat.le_of_ble_eq_true rfl) dX8_readsTrack_117 (fun H locs hP hD hS => ?_)
                have hP : va_P D vwCl (refW cs a (upd V 5 (nI (pp + 1))) (zU G 5 (upd (upd (G 5) c x) c (x ||| (1 <<< ((nI i) &&& 31)))))) H := hP
                have hD : va_D A (refW cs a (upd V 5 (nI (pp + 1))) (zU G 5 (upd (upd (G 5) c x) c (x ||| (1 <<< ((nI i) &&& 31)))))) := hD
                refine lv_iinc (v := nI (i + 1)) (lv' := [(2, .int (nI (i + 1))), (0, .ref (a 0)), (1, .int (nI c))]) hx hb dX8_readsTrack_120 hl (k := 2) rfl (show nI i + Int32.ofInt 1 = nI (i + 1) from nI_add i 1) (by decide) rfl (fun ls hl => ?_)
                refine lv_goto (tgt := 57) hx hb dX8_readsTrack_123 (by decide) ?_
                rw [upd_upd] at hP hD
                exact ih (i + 1) (pp + 1) (x ||| (1 <<< (nI i &&& 31))) (by omega) (by rw [← h2]; exact (if_pos c_5).symm) (by omega) _ _ _ hP hD hS (lv_sub hl [1, 2, 0] rfl)
            · skip
              refine lv_aload_n hx hb dX8_readsTrack_74 rfl (lv_at hl 0 rfl) ?_
              refine z_callV (wn := (refW cs a (upd V 5 (nI pp)) (zU G 5 (upd (G 5) c x)))) ⟨hx, hb, hml, hown, hts⟩ zY_X8_here w_im_yX8_here w_se_yX8_here w_ml_X8_163 [] [] (c_X8_here l D cs a (upd V 5 (nI pp)) (zU G 5 (upd (G 5) c x)) pp L rfl h4 hL (by omega)) hE hK hA hP hD hS [0, 1, 2, 3, 4, 5, 6] rfl rfl rfl rfl 8 rfl rfl rfl rfl hl.1 (Nat.le_of_ble_eq_true rfl) ⟨Nat.le_of_ble_eq_true rfl, Nat.le_of_ble_eq_true rfl⟩ ⟨Nat.le_of_ble_eq_true rfl, Nat.le_of_ble_eq_true rfl⟩ dX8_readsTrack_75 (fun H locs hP hD hS => ?_)
              refine lv_bipush (v := 46) hx hb dX8_readsTrack_78 (by decide) ?_
              refine lv_icmp_eq (tgt := 85) hx hb dX8_readsTrack_80 (by decide) (fun c_7 => ?_) (fun c_7 => ?_)
              · skip
                refine lv_aload_n hx hb dX8_readsTrack_85 rfl (lv_at hl 0 rfl) ?_
                refine va_get (D := D) (ci := 8) (v := .ref (a 6)) (C := RX8) (T := TX8) (N := 13) hx hb hts wsI_X8 hown hK hP 0 rfl rfl 11 (by decide) (hts _ w_fl_X8_25) (fun _ h9 => h9) rfl dX8_readsTrack_86 ?_
                refine lv_iload_n hx hb dX8_readsTrack_89 rfl (lv_at hl 1 rfl) ?_
                refine lv_dup2_11 hx hb dX8_readsTrack_90 rfl rfl ?_
                refine z_iald (k := c) hx hb hK hP 6 rfl (by omega) (by first | decide | omega) dX8_readsTrack_91 ?_
                refine z_top (y := x) (show (upd (G 5) c x) c = x from pk_us) ?_
                refine lv_aload_n hx hb dX8_readsTrack_92 rfl (lv_at hl 0 rfl) ?_
                refine z_callV (wn := (refW cs a (upd V 5 (nI pp)) (zU G 5 (upd (G 5) c x)))) ⟨hx, hb, hml, hown, hts⟩ zY_X8_here w_im_yX8_here w_se_yX8_here w_ml_X8_163 [] [.int x, .int (nI c), .ref (a 6)] (c_X8_here l D cs a (upd V 5 (nI pp)) (zU G 5 (upd (G 5) c x)) pp L rfl h4 hL (by omega)) hE hK hA hP hD hS [0, 1, 2, 3, 4, 5, 6] rfl rfl rfl rfl 8 rfl rfl rfl rfl hl.1 (Nat.le_of_ble_eq_true rfl) ⟨Nat.le_of_ble_eq_true rfl, Nat.le_of_ble_eq_true rfl⟩ ⟨Nat.le_of_ble_eq_true rfl, Nat.le_of_ble_eq_true rfl⟩ dX8_readsTrack_93 (fun H locs hP hD hS => ?_)
                refine lv_bipush (v := 120) hx hb dX8_readsTrack_96 (by decide) ?_
                refine lv_icmp_ne (tgt := 107) hx hb dX8_readsTrack_98 (by decide) (fun c_8 => ?_) (fun c_8 => ?_)
                · skip
                  refine lv_iconst (v := 0) hx hb dX8_readsTrack_107 (by decide) ?_
                  refine lv_ior hx hb dX8_readsTrack_108 ?_
                  refine z_iast (k := c) hx hb hK hP hD hS 6 rfl (by omega) (by first | decide | omega) dX8_readsTrack_109 (fun H locs hP hD hS => ?_)
                  have hP : va_P D vwCl (refW cs a (upd V 5 (nI pp)) (zU G 5 (upd (upd (G 5) c x) c (x ||| 0)))) H := hP
                  have hD : va_D A (refW cs a (upd V 5 (nI pp)) (zU G 5 (upd (upd (G 5) c x) c (x ||| 0)))) := hD
                  refine lv_aload_n hx hb dX8_readsTrack_110 rfl (lv_at hl 0 rfl) ?_
                  refine lv_dup hx hb dX8_readsTrack_111 rfl ?_
                  refine va_get (D := D) (ci := 8) (v := .int (nI pp)) (C := RX8) (T := TX8) (N := 13) hx hb hts wsI_X8 hown hK hP 0 rfl rfl 10 (by decide) (hts _ w_fl_X8_160) (fun _ h9 => h9) rfl dX8_readsTrack_112 ?_
                  refine lv_iconst (v := 1) hx hb dX8_readsTrack_115 (by decide) ?_
                  refine lv_iadd hx hb dX8_readsTrack_116 ?_
                  refine z_top (y := nI (pp + 1)) (nI_add pp 1) ?_
                  refine va_put (D := D) (ci := 8) (v := .int (nI (pp + 1))) (C := RX8) (T := TX8) (N := 13) hx hb hts wsI_X8 tyX8 tyX8_ok nmX8 hown hK hP hD hS 0 rfl rfl 10 (by decide) (hts _ w_fl_X8_160) (fun _ h9 => h9) rfl (tyX8_ok 10 (by decide)) rfl rfl (Nat.le_of_ble_eq_true rfl) dX8_readsTrack_117 (fun H locs hP hD hS => ?_)
                  have hP : va_P D vwCl (refW cs a (upd V 5 (nI (pp + 1))) (zU G 5 (upd (upd (G 5) c x) c (x ||| 0)))) H := hP
                  have hD : va_D A (refW cs a (upd V 5 (nI (pp + 1))) (zU G 5 (upd (upd (G 5) c x) c (x ||| 0)))) := hD
                  refine lv_iinc (v := nI (i + 1)) (lv' := [(2, .int (nI (i + 1))), (0, .ref (a 0)), (1, .int (nI c))]) hx hb dX8_readsTrack_120 hl (k := 2) rfl (show nI i + Int32.ofInt 1 = nI (i + 1) from nI_add i 1) (by decide) rfl (fun ls hl => ?_)
                  refine lv_goto (tgt := 57) hx hb dX8_readsTrack_123 (by decide) ?_
                  rw [upd_upd] at hP hD
                  exact ih (i + 1) (pp + 1) (x ||| 0) (by omega) (by rw [← h2]; exact ((if_neg c_5).trans (if_pos c_7)).symm) (by omega) _ _ _ hP hD hS (lv_sub hl [1, 2, 0] rfl)
                · skip
                  exact absurd c_8 c_5
              · skip
                refine lv_iconst (v := 0) hx hb dX8_readsTrack_83 (by decide) ?_
                have eZ : (rkL (G 4) L m 0 (p + 2) 0) = (0, pp, x) := h2.symm.trans ((if_neg c_5).trans (if_neg c_7))
                have eR : rkR (G 4) L m p (G 5) = (0, pp, upd (G 5) c x) := by unfold rkR; rw [if_pos c_1, if_pos c_2, hcN, eZ]; exact if_pos rfl
                exact z_zret hx hb hr hlk hK hP hD hS dX8_readsTrack_84 rfl (by rw [eR]) (by rw [eR]; first | done | rfl)
      exact lp57 m 0 (p + 2) 0 (by omega) rfl (by omega) _ _ _ hP hD hS (lv_sub hl [2, 1, 0] rfl)
    · skip
      have c_2 := bI_0.mp c_2
      refine lv_iconst (v := 0) hx hb dX8_readsTrack_46 (by decide) ?_
      have eR : rkR (G 4) L m p (G 5) = (0, p + 1, G 5) := (if_pos c_1).trans (if_neg c_2)
      exact z_zret hx hb hr hlk hK hP hD hS dX8_readsTrack_47 rfl (by rw [eR]) (by rw [eR, show psA (G 4) L (p + 1) 58 = p + 1 from if_neg c_2]; first | done | rfl)
  · skip
    have c_1 := bI_0.mp c_1
    refine lv_iconst (v := 0) hx hb dX8_readsTrack_17 (by decide) ?_
    have eR : rkR (G 4) L m p (G 5) = (0, p, G 5) := if_neg c_1
    exact z_zret hx hb hr hlk hK hP hD hS dX8_readsTrack_18 rfl (by rw [eR]) (by rw [eR]; show refW cs a V G = refW cs a (upd V 5 (nI p)) (zU G 5 (G 5)); rw [← h5]; rfl)
