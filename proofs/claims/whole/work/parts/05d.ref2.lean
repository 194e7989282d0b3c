/-- g, with f's first i elements from place b on -/
def cpF (b : Nat) (g f : Nat → Int32) (i : Nat) : Nat → Int32 := fun j => if b ≤ j ∧ j < b + i then f (j - b) else g j
theorem cp_0 {b : Nat} {g f : Nat → Int32} : cpF b g f 0 = g := funext fun j => if_neg (by omega)
theorem cp_s {b : Nat} {g f : Nat → Int32} {i : Nat} {v : Int32} (hv : v = f i) : upd (cpF b g f i) (b + i) v = cpF b g f (i + 1) := by
  subst hv
  funext j
  show (if j = b + i then f i else cpF b g f i j) = cpF b g f (i + 1) j
  unfold cpF
  by_cases h : j = b + i
  · subst h
    rw [if_pos rfl, if_pos ⟨by omega, by omega⟩, Nat.add_sub_cancel_left]
  · rw [if_neg h]
    by_cases h2 : b ≤ j ∧ j < b + i
    · rw [if_pos h2, if_pos ⟨h2.1, by omega⟩]
    · rw [if_neg h2, if_neg (by omega)]
theorem cp_s0 {g f : Nat → Int32} {i : Nat} {v : Int32} (hv : v = f i) : upd (cpF 0 g f i) i v = cpF 0 g f (i + 1) := by
  have h := cp_s (b := 0) (g := g) (f := f) (i := i) (v := v) hv
  rw [Nat.zero_add] at h
  exact h
theorem cp_in {b : Nat} {g f : Nat → Int32} {i j : Nat} (h : j < i) : cpF b g f i (b + j) = f j := by
  unfold cpF
  rw [if_pos ⟨by omega, by omega⟩, Nat.add_sub_cancel_left]
theorem cp_in0 {g f : Nat → Int32} {i j : Nat} (h : j < i) : cpF 0 g f i j = f j := by
  unfold cpF
  rw [if_pos ⟨by omega, by omega⟩, Nat.sub_zero]
theorem cp_out {b : Nat} {g f : Nat → Int32} {i j : Nat} (h : j < b ∨ b + i ≤ j) : cpF b g f i j = g j := if_neg (by omega)
def shF (g : Nat → Int32) (i : Nat) : Nat → Int32 := fun j => if j < i then g (j + 159) else g j
theorem sh_0 {g : Nat → Int32} : shF g 0 = g := funext fun j => if_neg (by omega)
theorem sh_s {g : Nat → Int32} {i : Nat} : upd (shF g i) i (shF g i (i + 159)) = shF g (i + 1) := by
  funext j
  show (if j = i then shF g i (i + 159) else shF g i j) = shF g (i + 1) j
  unfold shF
  by_cases h : j = i
  · subst h
    rw [if_pos rfl, if_neg (by omega), if_pos (by omega)]
  · rw [if_neg h]
    by_cases h2 : j < i
    · rw [if_pos h2, if_pos (by omega)]
    · rw [if_neg h2, if_neg (by omega)]
def svF (n : Nat) (g f : Nat → Int32) : Nat → Int32 := if n = 4 then cpF (159 * 3) (shF g 477) f 159 else cpF (159 * n) g f 159
theorem zU_self {G : Nat → Nat → Int32} {r : Nat} : zU G r (G r) = G := by
  funext k
  unfold zU
  by_cases h : k = r
  · rw [if_pos h, h]
  · exact if_neg h
theorem upd_same {f : Nat → Int32} {k : Nat} {v : Int32} (h : f k = v) : upd f k v = f := by
  funext j
  show (if j = k then v else f j) = f j
  by_cases h2 : j = k
  · rw [if_pos h2, h2, h]
  · exact if_neg h2
theorem z_eqP {D : va_G} {H : Heap} {w w2 : va_W} (h : w2 = w) (hP : va_P D vwCl w H) : va_P D vwCl w2 H := h ▸ hP
theorem z_eqD {A : Nat → Prop} {w w2 : va_W} (h : w2 = w) (hD : va_D A w) : va_D A w2 := h ▸ hD
theorem z_extR0 {D : va_G} {H : Heap} {cs : zCs} {a : Nat → Nat} {V : Nat → Int32} {G : Nat → Nat → Int32} {g : Nat → Int32} (hP : va_P D vwCl (refW cs a V G) H) (h : ∀ j : Nat, j < 159 → G 0 j = g j) : va_P D vwCl (refW cs a V (zU G 0 g)) H :=
  z_ext (w1 := (refW cs a V G).take 1) (w2 := (refW cs a V G).drop 2) (a := a 1) (cA := cs.1) (k := 159) (f := G 0) (g := g) h hP
theorem z_extR2 {D : va_G} {H : Heap} {cs : zCs} {a : Nat → Nat} {V : Nat → Int32} {G : Nat → Nat → Int32} {g : Nat → Int32} (hP : va_P D vwCl (refW cs a V G) H) (h : ∀ j : Nat, j < 159 → G 2 j = g j) : va_P D vwCl (refW cs a V (zU G 2 g)) H :=
  z_ext (w1 := (refW cs a V G).take 3) (w2 := (refW cs a V G).drop 4) (a := a 3) (cA := cs.1) (k := 159) (f := G 2) (g := g) h hP
theorem z_extDR {A : Nat → Prop} {cs : zCs} {a : Nat → Nat} {V : Nat → Int32} {G : Nat → Nat → Int32} {V2 : Nat → Int32} {G2 : Nat → Nat → Int32} (hD : va_D A (refW cs a V G)) : va_D A (refW cs a V2 G2) := by
  have e : ∀ k : Nat, ((refW cs a V2 G2 : List (Nat × va_E))[k]?).map (fun q : Nat × va_E => q.1) = ((refW cs a V G : List (Nat × va_E))[k]?).map (fun q : Nat × va_E => q.1) := by
    intro k
    match k with
    | 0 | 1 | 2 | 3 | 4 | 5 | 6 => rfl
    | k + 7 => rfl
  have key : ∀ (k : Nat) (q : Nat × va_E), (refW cs a V2 G2 : List (Nat × va_E))[k]? = some q → ∃ e, (refW cs a V G : List (Nat × va_E))[k]? = some (q.1, e) := by
    intro k q hq
    have h := e k
    rw [hq] at h
    cases h2 : (refW cs a V G : List (Nat × va_E))[k]? with
    | none => rw [h2] at h; cases h
    | some z =>
      rw [h2] at h
      injection h with h
      exact ⟨z.2, by rw [show q.1 = z.1 from h]⟩
  refine ⟨fun i j x y hx hy hxy => ?_, fun k q hq => ?_⟩
  · obtain ⟨e3, g1⟩ := key i x hx
    obtain ⟨e4, g2⟩ := key j y hy
    exact hD.1 i j (x.1, e3) (y.1, e4) g1 g2 hxy
  · obtain ⟨e3, g1⟩ := key k q hq
    exact hD.2 k (q.1, e3) g1
theorem zU_zU {G : Nat → Nat → Int32} {r : Nat} {g h : Nat → Int32} : zU (zU G r g) r h = zU G r h := by
  funext k
  unfold zU
  by_cases hk : k = r
  · rw [if_pos hk, if_pos hk]
  · rw [if_neg hk, if_neg hk, if_neg hk]
def emF (f : Nat → Int32) : Nat → Int32 := cpF 143 (cpF 63 f (fun _ => -1) 80) (fun _ => 0) 16
def rCam (t st th : Int32) : Int32 := if th = 0 then t &&& (((1 : Int32) <<< (st &&& 31)) ^^^ (-1)) else (t &&& (((1 : Int32) <<< (st &&& 31)) ^^^ (-1))) ||| ((1 : Int32) <<< (st &&& 31))
theorem z_natR {x y : Int32} {n : Nat} (hy : y = nI n) (hn : n ≤ 16) (h : 0 ≤ x ∧ x ≤ y - 1) : ∃ k : Nat, k < n ∧ x = nI k := by
  subst hy
  cases n with
  | zero =>
    obtain ⟨h1, h2⟩ := h
    have a1 := Int32.le_iff_toInt_le.mp h1
    have a2 := Int32.le_iff_toInt_le.mp h2
    have e0 : (0 : Int32).toInt = 0 := by decide
    have e1 : (nI 0 - 1 : Int32).toInt = -1 := by decide
    omega
  | succ n =>
    rw [nI_pred] at h
    obtain ⟨k, hk, e⟩ := z_nat (n := n) (nI_toInt (by omega)) h
    exact ⟨k, by omega, e⟩
theorem z_nat7 {x : Int32} (h : 0 ≤ x ∧ x ≤ 7) : ∃ k : Nat, k < 8 ∧ x = nI k := by
  obtain ⟨k, hk, e⟩ := z_nat (n := 7) (by decide) h
  exact ⟨k, by omega, e⟩
theorem z_nat3 {x : Int32} (h : 0 ≤ x ∧ x ≤ 3) : ∃ k : Nat, k < 4 ∧ x = nI k := by
  obtain ⟨k, hk, e⟩ := z_nat (n := 3) (by decide) h
  exact ⟨k, by omega, e⟩
theorem z_nat15 {x : Int32} (h : 0 ≤ x ∧ x ≤ 15) : ∃ k : Nat, k < 16 ∧ x = nI k := by
  obtain ⟨k, hk, e⟩ := z_nat (n := 15) (by decide) h
  exact ⟨k, by omega, e⟩
def dnF (f : Nat → Int32) (a b : Nat) : Nat → Int32 := fun x => if a ≤ x ∧ x < b then f (x + 3) else f x
theorem dn_0 {f : Nat → Int32} {a : Nat} : dnF f a a = f := funext fun x => if_neg (by omega)
theorem dn_out {f : Nat → Int32} {a b x : Nat} (h : x < a ∨ b ≤ x) : dnF f a b x = f x := if_neg (by omega)
theorem dn_s {f : Nat → Int32} {a b : Nat} (h : a ≤ b) : upd (dnF f a b) b (dnF f a b (b + 3)) = dnF f a (b + 1) := by
  funext j
  show (if j = b then dnF f a b (b + 3) else dnF f a b j) = dnF f a (b + 1) j
  unfold dnF
  by_cases h1 : j = b
  · subst h1
    rw [if_pos rfl, if_neg (by omega), if_pos (by omega)]
  · rw [if_neg h1]
    by_cases h2 : a ≤ j ∧ j < b
    · rw [if_pos h2, if_pos (by omega)]
    · rw [if_neg h2, if_neg (by omega)]
def rcyl (f : Nat → Int32) (c j : Nat) : Int32 := if j = 4 then rCamsN f c 16 else if j = 5 then rMay f c else if 5 < j then f (21 + 6 * c + (j - 2)) else f (21 + 6 * c + j)
def rgrd (f : Nat → Int32) (g j : Nat) : Int32 := if j < 3 then f (51 + 3 * g + j) else bI (rHolds f g)
abbrev zTq : Type := (Nat → Int32) × Int32 × Int32
def rTq (q : zTq) : zTq := (rTk q.1, bI (rWent (rT0 q.1)), bI (rAllN (rT0 q.1) 5))
def rTi (q : zTq) : Nat → zTq
  | 0 => q
  | i + 1 => rTq (rTi q i)
theorem rOK_Ti {q : zTq} (h : rOK q.1) : ∀ {i : Nat}, rOK (rTi q i).1
  | 0 => h
  | i + 1 => rOK_tk (rOK_Ti h (i := i))
set_option maxHeartbeats 4000000 in
set_option maxRecDepth 100000 in
theorem c_X8_save (l : Launch) (D : va_G) (cs : zCs) (a : Nat → Nat) (V : Nat → Int32) (G : Nat → Nat → Int32) (sn : Nat) (hsn : V 0 = nI sn) (hs4 : sn ≤ 4) : zM l D cs yX8_save cX8_save 2 none 0 0 0 0 [.ref (a 0)] (refW cs a V G) none (refW cs a (upd V 0 (nI (min (sn + 1) 4))) (zU G 1 (svF sn (G 1) (G 0)))) := by
  refine zM.of (own := RX8) (by decide) (Nat.le_of_ble_eq_true rfl) rfl ?_
  intro pq eq s mq below meth cq A ls hx hb hr hml hown hts hlk hnm hE hK hA hP hD hS hl
  have hl : lv_has ls 2 [(0, .ref (a 0))] := hl
  have jn49 : ∀ (m0 : Nat) (g1 : Nat → Int32), (m0 ≤ 3) → (min (sn + 1) 4 = m0 + 1) → (svF sn (G 1) (G 0) = cpF (159 * m0) g1 (G 0) 159) → ∀ (H : Heap) (locs : List Loc) (ls : Array Slot), va_P D vwCl (refW cs a (upd V 0 (nI m0)) (zU G 1 g1)) H → va_D A (refW cs a (upd V 0 (nI m0)) (zU G 1 g1)) → va_S A s.heap H locs → lv_has ls 2 [(0, .ref (a 0))] → W pq l eq ({ frames := 0, cells := 0, slots := 0, locals := 0 } : Room) s mq ([.ref (a 0)] : List Value).toArray below meth cq H locs 0 0 (MQ below (zQ D cs none (refW cs a (upd V 0 (nI (min (sn + 1) 4))) (zU G 1 (svF sn (G 1) (G 0)))) A) ([.ref (a 0)] : List Value).toArray s 0 0 A) (F0 mq 49 ls []) := by
    intro m0 g1 hm1 hm2 hm3 H locs ls hP hD hS hl
    refine lv_iconst (v := 0) hx hb dX8_save_49 (by decide) ?_
    refine lv_istore_n (lv' := [(1, .int 0), (0, .ref (a 0))]) hx hb dX8_save_50 rfl hl (by decide) rfl (fun ls hl => ?_)
    have lp51 : ∀ (k2 : Nat) (j : Nat), (j ≤ 159) → (159 + 1 ≤ j + k2) → ∀ (H : Heap) (locs : List Loc) (ls : Array Slot), va_P D vwCl (refW cs a (upd V 0 (nI m0)) (zU G 1 (cpF (159 * m0) g1 (G 0) j))) H → va_D A (refW cs a (upd V 0 (nI m0)) (zU G 1 (cpF (159 * m0) g1 (G 0) j))) → va_S A s.heap H locs → lv_has ls 2 [(0, .ref (a 0)), (1, .int (nI j))] → W pq l eq ({ frames := 0, cells := 0, slots := 0, locals := 0 } : Room) s mq ([.ref (a 0)] : List Value).toArray below meth cq H locs 0 0 (MQ below (zQ D cs none (refW cs a (upd V 0 (nI (min (sn + 1) 4))) (zU G 1 (svF sn (G 1) (G 0)))) A) ([.ref (a 0)] : List Value).toArray s 0 0 A) (F0 mq 51 ls []) := by
      intro k2
      induction k2 with
      | zero =>
        intro j hj1 hj2 H locs ls hP hD hS hl
        omega
      | succ k2 ih2 =>
        intro j hj1 hj2 H locs ls hP hD hS hl
        refine lv_iload_n hx hb dX8_save_51 rfl (lv_at hl 1 rfl) ?_
        refine lv_sipush (v := 159) hx hb dX8_save_52 (by decide) ?_
        refine lv_icmp_ge (tgt := 85) hx hb dX8_save_55 (by decide) (fun c_1 => ?_) (fun c_1 => ?_)
        · skip
          have ej := z_leK (n := 159) rfl (by omega) hj1 c_1
          subst ej
          refine lv_aload_n hx hb dX8_save_85 rfl (lv_at hl 0 rfl) ?_
          refine lv_dup hx hb dX8_save_86 rfl ?_
          refine va_get (D := D) (ci := 8) (v := .int (nI m0)) (C := RX8) (T := TX8) (N := 13) hx hb hts wsI_X8 hown hK hP 0 rfl rfl 3 (by decide) (hts _ w_fl_X8_35) (fun _ h9 => h9) rfl dX8_save_87 ?_
          refine lv_iconst (v := 1) hx hb dX8_save_90 (by decide) ?_
          refine lv_iadd hx hb dX8_save_91 ?_
          refine z_top (y := nI (m0 + 1)) (nI_add m0 1) ?_
          refine va_put (D := D) (ci := 8) (v := .int (nI (m0 + 1))) (C := RX8) (T := TX8) (N := 13) hx hb hts wsI_X8 tyX8 tyX8_ok nmX8 hown hK hP hD hS 0 rfl rfl 3 (by decide) (hts _ w_fl_X8_35) (fun _ h9 => h9) rfl (tyX8_ok 3 (by decide)) rfl rfl (Nat.le_of_ble_eq_true rfl) dX8_save_92 (fun H locs hP hD hS => ?_)
          have hP : va_P D vwCl (refW cs a (upd V 0 (nI (m0 + 1))) (zU G 1 (cpF (159 * m0) g1 (G 0) 159))) H := hP
          have hD : va_D A (refW cs a (upd V 0 (nI (m0 + 1))) (zU G 1 (cpF (159 * m0) g1 (G 0) 159))) := hD
          exact z_vret hx hb hr hlk hK hP hD hS dX8_save_95 rfl (by rw [hm2, hm3])
        · skip
          have gj : j < 159 := z_geK (n := 159) rfl (by omega) hj1 c_1
          refine lv_aload_n hx hb dX8_save_58 rfl (lv_at hl 0 rfl) ?_
          refine va_get (D := D) (ci := 8) (v := .ref (a 2)) (C := RX8) (T := TX8) (N := 13) hx hb hts wsI_X8 hown hK hP 0 rfl rfl 1 (by decide) (hts _ w_fl_X8_13) (fun _ h9 => h9) rfl dX8_save_59 ?_
          refine lv_sipush (v := 159) hx hb dX8_save_62 (by decide) ?_
          refine lv_aload_n hx hb dX8_save_65 rfl (lv_at hl 0 rfl) ?_
          refine va_get (D := D) (ci := 8) (v := .int (nI m0)) (C := RX8) (T := TX8) (N := 13) hx hb hts wsI_X8 hown hK hP 0 rfl rfl 3 (by decide) (hts _ w_fl_X8_35) (fun _ h9 => h9) rfl dX8_save_66 ?_
          refine lv_imul hx hb dX8_save_69 ?_
          refine z_top (y := nI (159 * m0)) (pk_mul 159 m0) ?_
          refine lv_iload_n hx hb dX8_save_70 rfl (lv_at hl 1 rfl) ?_
          refine lv_iadd hx hb dX8_save_71 ?_
          refine z_top (y := nI ((159 * m0) + j)) (nI_add (159 * m0) j) ?_
          refine lv_aload_n hx hb dX8_save_72 rfl (lv_at hl 0 rfl) ?_
          refine va_get (D := D) (ci := 8) (v := .ref (a 1)) (C := RX8) (T := TX8) (N := 13) hx hb hts wsI_X8 hown hK hP 0 rfl rfl 0 (by decide) (hts _ w_fl_X8_7) (fun _ h9 => h9) rfl dX8_save_73 ?_
          refine lv_iload_n hx hb dX8_save_76 rfl (lv_at hl 1 rfl) ?_
          refine z_iald (k := j) hx hb hK hP 1 rfl (by omega) (by first | decide | omega) dX8_save_77 ?_
          refine z_iast (k := (159 * m0) + j) hx hb hK hP hD hS 2 rfl (by omega) (by first | decide | omega) dX8_save_78 (fun H locs hP hD hS => ?_)
          have hP : va_P D vwCl (refW cs a (upd V 0 (nI m0)) (zU G 1 (upd (cpF (159 * m0) g1 (G 0) j) ((159 * m0) + j) ((G 0) j)))) H := hP
          have hD : va_D A (refW cs a (upd V 0 (nI m0)) (zU G 1 (upd (cpF (159 * m0) g1 (G 0) j) ((159 * m0) + j) ((G 0) j)))) := hD
          refine lv_iinc (v := nI (j + 1)) (lv' := [(1, .int (nI (j + 1))), (0, .ref (a 0))]) hx hb dX8_save_79 hl (k := 1) rfl (show nI j + Int32.ofInt 1 = nI (j + 1) from nI_add j 1) (by decide) rfl (fun ls hl => ?_)
          refine lv_goto (tgt := 51) hx hb dX8_save_82 (by decide) ?_
          rw [cp_s rfl] at hP hD
          exact ih2 (j + 1) (by omega) (by omega) _ _ _ hP hD hS (lv_sub hl [1, 0] rfl)
    have hP := z_eqP (w2 := (refW cs a (upd V 0 (nI m0)) (zU G 1 (cpF (159 * m0) g1 (G 0) 0)))) (by rw [cp_0]; first | done | rfl) hP
    have hD : va_D A (refW cs a (upd V 0 (nI m0)) (zU G 1 (cpF (159 * m0) g1 (G 0) 0))) := z_eqD (by rw [cp_0]; first | done | rfl) hD
    exact lp51 (159 + 1) 0 (Nat.zero_le _) (by omega) _ _ _ hP hD hS (lv_sub hl [1, 0] rfl)
  refine lv_aload_n hx hb dX8_save_0 rfl (lv_at hl 0 rfl) ?_
  refine va_get (D := D) (ci := 8) (v := .int (V 0)) (C := RX8) (T := TX8) (N := 13) hx hb hts wsI_X8 hown hK hP 0 rfl rfl 3 (by decide) (hts _ w_fl_X8_35) (fun _ h9 => h9) rfl dX8_save_1 ?_
  refine z_top (y := nI sn) hsn ?_
  refine lv_iconst (v := 4) hx hb dX8_save_4 (by decide) ?_
  refine lv_icmp_ne (tgt := 49) hx hb dX8_save_5 (by decide) (fun c_2 => ?_) (fun c_2 => ?_)
  · skip
    have e4 : ¬ sn = 4 := fun h => c_2 (by rw [h]; rfl)
    have hP := z_eqP (w2 := (refW cs a (upd V 0 (nI sn)) (zU G 1 (G 1)))) (by rw [zU_self, upd_same hsn]; first | done | rfl) hP
    have hD : va_D A (refW cs a (upd V 0 (nI sn)) (zU G 1 (G 1))) := z_eqD (by rw [zU_self, upd_same hsn]; first | done | rfl) hD
    exact jn49 sn (G 1) (by omega) (by omega) (if_neg e4) _ _ _ hP hD hS (lv_sub hl [0] rfl)
  · skip
    have e4 : sn = 4 := (nI_eq (b := 4) (by omega) (by omega)).mp c_2
    refine lv_iconst (v := 0) hx hb dX8_save_8 (by decide) ?_
    refine lv_istore_n (lv' := [(1, .int 0), (0, .ref (a 0))]) hx hb dX8_save_9 rfl hl (by decide) rfl (fun ls hl => ?_)
    have lp10 : ∀ (k : Nat) (i : Nat), (i ≤ 477) → (477 + 1 ≤ i + k) → ∀ (H : Heap) (locs : List Loc) (ls : Array Slot), va_P D vwCl (refW cs a V (zU G 1 (shF (G 1) i))) H → va_D A (refW cs a V (zU G 1 (shF (G 1) i))) → va_S A s.heap H locs → lv_has ls 2 [(0, .ref (a 0)), (1, .int (nI i))] → W pq l eq ({ frames := 0, cells := 0, slots := 0, locals := 0 } : Room) s mq ([.ref (a 0)] : List Value).toArray below meth cq H locs 0 0 (MQ below (zQ D cs none (refW cs a (upd V 0 (nI (min (sn + 1) 4))) (zU G 1 (svF sn (G 1) (G 0)))) A) ([.ref (a 0)] : List Value).toArray s 0 0 A) (F0 mq 10 ls []) := by
      intro k
      induction k with
      | zero =>
        intro i hi1 hi2 H locs ls hP hD hS hl
        omega
      | succ k ih =>
        intro i hi1 hi2 H locs ls hP hD hS hl
        refine lv_iload_n hx hb dX8_save_10 rfl (lv_at hl 1 rfl) ?_
        refine lv_sipush (v := 477) hx hb dX8_save_11 (by decide) ?_
        refine lv_icmp_ge (tgt := 39) hx hb dX8_save_14 (by decide) (fun c_3 => ?_) (fun c_3 => ?_)
        · skip
          have ei := z_leK (n := 477) rfl (by omega) hi1 c_3
          subst ei
          refine lv_aload_n hx hb dX8_save_39 rfl (lv_at hl 0 rfl) ?_
          refine lv_dup hx hb dX8_save_40 rfl ?_
          refine va_get (D := D) (ci := 8) (v := .int (V 0)) (C := RX8) (T := TX8) (N := 13) hx hb hts wsI_X8 hown hK hP 0 rfl rfl 3 (by decide) (hts _ w_fl_X8_35) (fun _ h9 => h9) rfl dX8_save_41 ?_
          refine z_top (y := nI sn) hsn ?_
          refine lv_iconst (v := 1) hx hb dX8_save_44 (by decide) ?_
          refine lv_isub hx hb dX8_save_45 ?_
          refine z_top (y := nI 3) (by rw [e4]; decide) ?_
          refine va_put (D := D) (ci := 8) (v := .int (nI 3)) (C := RX8) (T := TX8) (N := 13) hx hb hts wsI_X8 tyX8 tyX8_ok nmX8 hown hK hP hD hS 0 rfl rfl 3 (by decide) (hts _ w_fl_X8_35) (fun _ h9 => h9) rfl (tyX8_ok 3 (by decide)) rfl rfl (Nat.le_of_ble_eq_true rfl) dX8_save_46 (fun H locs hP hD hS => ?_)
          have hP : va_P D vwCl (refW cs a (upd V 0 (nI 3)) (zU G 1 (shF (G 1) 477))) H := hP
          have hD : va_D A (refW cs a (upd V 0 (nI 3)) (zU G 1 (shF (G 1) 477))) := hD
          exact jn49 3 (shF (G 1) 477) (by omega) (by omega) (by rw [e4]; rfl) _ _ _ hP hD hS (lv_sub hl [0] rfl)
        · skip
          have gi : i < 477 := z_geK (n := 477) rfl (by omega) hi1 c_3
          refine lv_aload_n hx hb dX8_save_17 rfl (lv_at hl 0 rfl) ?_
          refine va_get (D := D) (ci := 8) (v := .ref (a 2)) (C := RX8) (T := TX8) (N := 13) hx hb hts wsI_X8 hown hK hP 0 rfl rfl 1 (by decide) (hts _ w_fl_X8_13) (fun _ h9 => h9) rfl dX8_save_18 ?_
          refine lv_iload_n hx hb dX8_save_21 rfl (lv_at hl 1 rfl) ?_
          refine lv_aload_n hx hb dX8_save_22 rfl (lv_at hl 0 rfl) ?_
          refine va_get (D := D) (ci := 8) (v := .ref (a 2)) (C := RX8) (T := TX8) (N := 13) hx hb hts wsI_X8 hown hK hP 0 rfl rfl 1 (by decide) (hts _ w_fl_X8_13) (fun _ h9 => h9) rfl dX8_save_23 ?_
          refine lv_iload_n hx hb dX8_save_26 rfl (lv_at hl 1 rfl) ?_
          refine lv_sipush (v := 159) hx hb dX8_save_27 (by decide) ?_
          refine lv_iadd hx hb dX8_save_30 ?_
          refine z_top (y := nI (i + 159)) (nI_add i 159) ?_
          refine z_iald (k := i + 159) hx hb hK hP 2 rfl (by omega) (by first | decide | omega) dX8_save_31 ?_
          refine z_iast (k := i) hx hb hK hP hD hS 2 rfl (by omega) (by first | decide | omega) dX8_save_32 (fun H locs hP hD hS => ?_)
          have hP : va_P D vwCl (refW cs a V (zU G 1 (upd (shF (G 1) i) i ((shF (G 1) i) (i + 159))))) H := hP
          have hD : va_D A (refW cs a V (zU G 1 (upd (shF (G 1) i) i ((shF (G 1) i) (i + 159))))) := hD
          refine lv_iinc (v := nI (i + 1)) (lv' := [(1, .int (nI (i + 1))), (0, .ref (a 0))]) hx hb dX8_save_33 hl (k := 1) rfl (show nI i + Int32.ofInt 1 = nI (i + 1) from nI_add i 1) (by decide) rfl (fun ls hl => ?_)
          refine lv_goto (tgt := 10) hx hb dX8_save_36 (by decide) ?_
          rw [sh_s] at hP hD
          exact ih (i + 1) (by omega) (by omega) _ _ _ hP hD hS (lv_sub hl [1, 0] rfl)
    have hP := z_eqP (w2 := (refW cs a V (zU G 1 (shF (G 1) 0)))) (by rw [sh_0, zU_self]; first | done | rfl) hP
    have hD : va_D A (refW cs a V (zU G 1 (shF (G 1) 0))) := z_eqD (by rw [sh_0, zU_self]; first | done | rfl) hD
    exact lp10 (477 + 1) 0 (Nat.zero_le _) (by omega) _ _ _ hP hD hS (lv_sub hl [1, 0] rfl)

set_option maxHeartbeats 4000000 in
set_option maxRecDepth 100000 in
theorem c_X8_laysAside (l : Launch) (D : va_G) (cs : zCs) (a : Nat → Nat) (V : Nat → Int32) (G : Nat → Nat → Int32)  : zM l D cs yX8_laysAside cX8_laysAside 2 none 0 0 0 0 [.ref (a 0)] (refW cs a V G) none (refW cs a V (zU G 2 (G 0))) := by
  refine zM.of (own := RX8) (by decide) (Nat.le_of_ble_eq_true rfl) rfl ?_
  intro pq eq s mq below meth cq A ls hx hb hr hml hown hts hlk hnm hE hK hA hP hD hS hl
  have hl : lv_has ls 2 [(0, .ref (a 0))] := hl
  refine lv_iconst (v := 0) hx hb dX8_laysAside_0 (by decide) ?_
  refine lv_istore_n (lv' := [(1, .int 0), (0, .ref (a 0))]) hx hb dX8_laysAside_1 rfl hl (by decide) rfl (fun ls hl => ?_)
  have lp2 : ∀ (k : Nat) (i : Nat), (i ≤ 159) → (159 + 1 ≤ i + k) → ∀ (H : Heap) (locs : List Loc) (ls : Array Slot), va_P D vwCl (refW cs a V (zU G 2 (cpF 0 (G 2) (G 0) i))) H → va_D A (refW cs a V (zU G 2 (cpF 0 (G 2) (G 0) i))) → va_S A s.heap H locs → lv_has ls 2 [(0, .ref (a 0)), (1, .int (nI i))] → W pq l eq ({ frames := 0, cells := 0, slots := 0, locals := 0 } : Room) s mq ([.ref (a 0)] : List Value).toArray below meth cq H locs 0 0 (MQ below (zQ D cs none (refW cs a V (zU G 2 (G 0))) A) ([.ref (a 0)] : List Value).toArray s 0 0 A) (F0 mq 2 ls []) := by
    intro k
    induction k with
    | zero =>
      intro i hi1 hi2 H locs ls hP hD hS hl
      omega
    | succ k ih =>
      intro i hi1 hi2 H locs ls hP hD hS hl
      refine lv_iload_n hx hb dX8_laysAside_2 rfl (lv_at hl 1 rfl) ?_
      refine lv_sipush (v := 159) hx hb dX8_laysAside_3 (by decide) ?_
      refine lv_icmp_ge (tgt := 27) hx hb dX8_laysAside_6 (by decide) (fun c_1 => ?_) (fun c_1 => ?_)
      · skip
        have ei := z_leK (n := 159) rfl (by omega) hi1 c_1
        subst ei
        have hP := z_extR2 (g := G 0) hP (fun j hj => cp_in0 hj)
        rw [zU_zU] at hP
        have hD : va_D A (refW cs a V (zU G 2 (G 0))) := z_extDR hD
        exact z_vret hx hb hr hlk hK hP hD hS dX8_laysAside_27 rfl rfl
      · skip
        have gi : i < 159 := z_geK (n := 159) rfl (by omega) hi1 c_1
        refine lv_aload_n hx hb dX8_laysAside_9 rfl (lv_at hl 0 rfl) ?_
        refine va_get (D := D) (ci := 8) (v := .ref (a 3)) (C := RX8) (T := TX8) (N := 13) hx hb hts wsI_X8 hown hK hP 0 rfl rfl 2 (by decide) (hts _ w_fl_X8_16) (fun _ h9 => h9) rfl dX8_laysAside_10 ?_
        refine lv_iload_n hx hb dX8_laysAside_13 rfl (lv_at hl 1 rfl) ?_
        refine lv_aload_n hx hb dX8_laysAside_14 rfl (lv_at hl 0 rfl) ?_
        refine va_get (D := D) (ci := 8) (v := .ref (a 1)) (C := RX8) (T := TX8) (N := 13) hx hb hts wsI_X8 hown hK hP 0 rfl rfl 0 (by decide) (hts _ w_fl_X8_7) (fun _ h9 => h9) rfl dX8_laysAside_15 ?_
        refine lv_iload_n hx hb dX8_laysAside_18 rfl (lv_at hl 1 rfl) ?_
        refine z_iald (k := i) hx hb hK hP 1 rfl (by omega) (by first | decide | omega) dX8_laysAside_19 ?_
        refine z_iast (k := i) hx hb hK hP hD hS 3 rfl (by omega) (by first | decide | omega) dX8_laysAside_20 (fun H locs hP hD hS => ?_)
        have hP : va_P D vwCl (refW cs a V (zU G 2 (upd (cpF 0 (G 2) (G 0) i) i ((G 0) i)))) H := hP
        have hD : va_D A (refW cs a V (zU G 2 (upd (cpF 0 (G 2) (G 0) i) i ((G 0) i)))) := hD
        refine lv_iinc (v := nI (i + 1)) (lv' := [(1, .int (nI (i + 1))), (0, .ref (a 0))]) hx hb dX8_laysAside_21 hl (k := 1) rfl (show nI i + Int32.ofInt 1 = nI (i + 1) from nI_add i 1) (by decide) rfl (fun ls hl => ?_)
        refine lv_goto (tgt := 2) hx hb dX8_laysAside_24 (by decide) ?_
        rw [cp_s0 rfl] at hP hD
        exact ih (i + 1) (by omega) (by omega) _ _ _ hP hD hS (lv_sub hl [1, 0] rfl)
  have hP := z_eqP (w2 := (refW cs a V (zU G 2 (cpF 0 (G 2) (G 0) 0)))) (by rw [cp_0, zU_self]; first | done | rfl) hP
  have hD : va_D A (refW cs a V (zU G 2 (cpF 0 (G 2) (G 0) 0))) := z_eqD (by rw [cp_0, zU_self]; first | done | rfl) hD
  exact lp2 (159 + 1) 0 (Nat.zero_le _) (by omega) _ _ _ hP hD hS (lv_sub hl [1, 0] rfl)

set_option maxHeartbeats 4000000 in
set_option maxRecDepth 100000 in
theorem c_X8_takesBack (l : Launch) (D : va_G) (cs : zCs) (a : Nat → Nat) (V : Nat → Int32) (G : Nat → Nat → Int32)  : zM l D cs yX8_takesBack cX8_takesBack 2 none 0 0 0 0 [.ref (a 0)] (refW cs a V G) none (refW cs a V (zU G 0 (G 2))) := by
  refine zM.of (own := RX8) (by decide) (Nat.le_of_ble_eq_true rfl) rfl ?_
  intro pq eq s mq below meth cq A ls hx hb hr hml hown hts hlk hnm hE hK hA hP hD hS hl
  have hl : lv_has ls 2 [(0, .ref (a 0))] := hl
  refine lv_iconst (v := 0) hx hb dX8_takesBack_0 (by decide) ?_
  refine lv_istore_n (lv' := [(1, .int 0), (0, .ref (a 0))]) hx hb dX8_takesBack_1 rfl hl (by decide) rfl (fun ls hl => ?_)
  have lp2 : ∀ (k : Nat) (i : Nat), (i ≤ 159) → (159 + 1 ≤ i + k) → ∀ (H : Heap) (locs : List Loc) (ls : Array Slot), va_P D vwCl (refW cs a V (zU G 0 (cpF 0 (G 0) (G 2) i))) H → va_D A (refW cs a V (zU G 0 (cpF 0 (G 0) (G 2) i))) → va_S A s.heap H locs → lv_has ls 2 [(0, .ref (a 0)), (1, .int (nI i))] → W pq l eq ({ frames := 0, cells := 0, slots := 0, locals := 0 } : Room) s mq ([.ref (a 0)] : List Value).toArray below meth cq H locs 0 0 (MQ below (zQ D cs none (refW cs a V (zU G 0 (G 2))) A) ([.ref (a 0)] : List Value).toArray s 0 0 A) (F0 mq 2 ls []) := by
    intro k
    induction k with
    | zero =>
      intro i hi1 hi2 H locs ls hP hD hS hl
      omega
    | succ k ih =>
      intro i hi1 hi2 H locs ls hP hD hS hl
      refine lv_iload_n hx hb dX8_takesBack_2 rfl (lv_at hl 1 rfl) ?_
      refine lv_sipush (v := 159) hx hb dX8_takesBack_3 (by decide) ?_
      refine lv_icmp_ge (tgt := 27) hx hb dX8_takesBack_6 (by decide) (fun c_1 => ?_) (fun c_1 => ?_)
      · skip
        have ei := z_leK (n := 159) rfl (by omega) hi1 c_1
        subst ei
        have hP := z_extR0 (g := G 2) hP (fun j hj => cp_in0 hj)
        rw [zU_zU] at hP
        have hD : va_D A (refW cs a V (zU G 0 (G 2))) := z_extDR hD
        exact z_vret hx hb hr hlk hK hP hD hS dX8_takesBack_27 rfl rfl
      · skip
        have gi : i < 159 := z_geK (n := 159) rfl (by omega) hi1 c_1
        refine lv_aload_n hx hb dX8_takesBack_9 rfl (lv_at hl 0 rfl) ?_
        refine va_get (D := D) (ci := 8) (v := .ref (a 1)) (C := RX8) (T := TX8) (N := 13) hx hb hts wsI_X8 hown hK hP 0 rfl rfl 0 (by decide) (hts _ w_fl_X8_7) (fun _ h9 => h9) rfl dX8_takesBack_10 ?_
        refine lv_iload_n hx hb dX8_takesBack_13 rfl (lv_at hl 1 rfl) ?_
        refine lv_aload_n hx hb dX8_takesBack_14 rfl (lv_at hl 0 rfl) ?_
        refine va_get (D := D) (ci := 8) (v := .ref (a 3)) (C := RX8) (T := TX8) (N := 13) hx hb hts wsI_X8 hown hK hP 0 rfl rfl 2 (by decide) (hts _ w_fl_X8_16) (fun _ h9 => h9) rfl dX8_takesBack_15 ?_
        refine lv_iload_n hx hb dX8_takesBack_18 rfl (lv_at hl 1 rfl) ?_
        refine z_iald (k := i) hx hb hK hP 3 rfl (by omega) (by first | decide | omega) dX8_takesBack_19 ?_
        refine z_iast (k := i) hx hb hK hP hD hS 1 rfl (by omega) (by first | decide | omega) dX8_takesBack_20 (fun H locs hP hD hS => ?_)
        have hP : va_P D vwCl (refW cs a V (zU G 0 (upd (cpF 0 (G 0) (G 2) i) i ((G 2) i)))) H := hP
        have hD : va_D A (refW cs a V (zU G 0 (upd (cpF 0 (G 0) (G 2) i) i ((G 2) i)))) := hD
        refine lv_iinc (v := nI (i + 1)) (lv' := [(1, .int (nI (i + 1))), (0, .ref (a 0))]) hx hb dX8_takesBack_21 hl (k := 1) rfl (show nI i + Int32.ofInt 1 = nI (i + 1) from nI_add i 1) (by decide) rfl (fun ls hl => ?_)
        refine lv_goto (tgt := 2) hx hb dX8_takesBack_24 (by decide) ?_
        rw [cp_s0 rfl] at hP hD
        exact ih (i + 1) (by omega) (by omega) _ _ _ hP hD hS (lv_sub hl [1, 0] rfl)
  have hP := z_eqP (w2 := (refW cs a V (zU G 0 (cpF 0 (G 0) (G 2) 0)))) (by rw [cp_0, zU_self]; first | done | rfl) hP
  have hD : va_D A (refW cs a V (zU G 0 (cpF 0 (G 0) (G 2) 0))) := z_eqD (by rw [cp_0, zU_self]; first | done | rfl) hD
  exact lp2 (159 + 1) 0 (Nat.zero_le _) (by omega) _ _ _ hP hD hS (lv_sub hl [1, 0] rfl)

set_option maxHeartbeats 4000000 in
set_option maxRecDepth 100000 in
theorem c_X8_empties (l : Launch) (D : va_G) (cs : zCs) (a : Nat → Nat) (V : Nat → Int32) (G : Nat → Nat → Int32)  : zM l D cs yX8_empties cX8_empties 2 none 0 0 0 0 [.ref (a 0)] (refW cs a V G) none (refW cs a V (zU G 0 (emF (G 0)))) := by
  refine zM.of (own := RX8) (by decide) (Nat.le_of_ble_eq_true rfl) rfl ?_
  intro pq eq s mq below meth cq A ls hx hb hr hml hown hts hlk hnm hE hK hA hP hD hS hl
  have hl : lv_has ls 2 [(0, .ref (a 0))] := hl
  refine lv_iconst (v := 0) hx hb dX8_empties_0 (by decide) ?_
  refine lv_istore_n (lv' := [(1, .int 0), (0, .ref (a 0))]) hx hb dX8_empties_1 rfl hl (by decide) rfl (fun ls hl => ?_)
  have lp2 : ∀ (k : Nat) (i : Nat), (i ≤ 80) → (80 + 1 ≤ i + k) → ∀ (H : Heap) (locs : List Loc) (ls : Array Slot), va_P D vwCl (refW cs a V (zU G 0 (cpF 63 (G 0) (fun _ => -1) i))) H → va_D A (refW cs a V (zU G 0 (cpF 63 (G 0) (fun _ => -1) i))) → va_S A s.heap H locs → lv_has ls 2 [(0, .ref (a 0)), (1, .int (nI i))] → W pq l eq ({ frames := 0, cells := 0, slots := 0, locals := 0 } : Room) s mq ([.ref (a 0)] : List Value).toArray below meth cq H locs 0 0 (MQ below (zQ D cs none (refW cs a V (zU G 0 (emF (G 0)))) A) ([.ref (a 0)] : List Value).toArray s 0 0 A) (F0 mq 2 ls []) := by
    intro k
    induction k with
    | zero =>
      intro i hi1 hi2 H locs ls hP hD hS hl
      omega
    | succ k ih =>
      intro i hi1 hi2 H locs ls hP hD hS hl
      refine lv_iload_n hx hb dX8_empties_2 rfl (lv_at hl 1 rfl) ?_
      refine lv_bipush (v := 80) hx hb dX8_empties_3 (by decide) ?_
      refine lv_icmp_ge (tgt := 24) hx hb dX8_empties_5 (by decide) (fun c_1 => ?_) (fun c_1 => ?_)
      · skip
        have ei := z_leK (n := 80) rfl (by omega) hi1 c_1
        subst ei
        refine lv_iconst (v := 0) hx hb dX8_empties_24 (by decide) ?_
        refine lv_istore_n (lv' := [(1, .int 0), (0, .ref (a 0))]) hx hb dX8_empties_25 rfl hl (by decide) rfl (fun ls hl => ?_)
        have lp26 : ∀ (k2 : Nat) (j : Nat), (j ≤ 16) → (16 + 1 ≤ j + k2) → ∀ (H : Heap) (locs : List Loc) (ls : Array Slot), va_P D vwCl (refW cs a V (zU G 0 (cpF 143 (cpF 63 (G 0) (fun _ => -1) 80) (fun _ => 0) j))) H → va_D A (refW cs a V (zU G 0 (cpF 143 (cpF 63 (G 0) (fun _ => -1) 80) (fun _ => 0) j))) → va_S A s.heap H locs → lv_has ls 2 [(0, .ref (a 0)), (1, .int (nI j))] → W pq l eq ({ frames := 0, cells := 0, slots := 0, locals := 0 } : Room) s mq ([.ref (a 0)] : List Value).toArray below meth cq H locs 0 0 (MQ below (zQ D cs none (refW cs a V (zU G 0 (emF (G 0)))) A) ([.ref (a 0)] : List Value).toArray s 0 0 A) (F0 mq 26 ls []) := by
          intro k2
          induction k2 with
          | zero =>
            intro j hj1 hj2 H locs ls hP hD hS hl
            omega
          | succ k2 ih2 =>
            intro j hj1 hj2 H locs ls hP hD hS hl
            refine lv_iload_n hx hb dX8_empties_26 rfl (lv_at hl 1 rfl) ?_
            refine lv_bipush (v := 16) hx hb dX8_empties_27 (by decide) ?_
            refine lv_icmp_ge (tgt := 49) hx hb dX8_empties_29 (by decide) (fun c_2 => ?_) (fun c_2 => ?_)
            · skip
              have ej := z_leK (n := 16) rfl (by omega) hj1 c_2
              subst ej
              exact z_vret hx hb hr hlk hK hP hD hS dX8_empties_49 rfl rfl
            · skip
              have gj : j < 16 := z_geK (n := 16) rfl (by omega) hj1 c_2
              refine lv_aload_n hx hb dX8_empties_32 rfl (lv_at hl 0 rfl) ?_
              refine va_get (D := D) (ci := 8) (v := .ref (a 1)) (C := RX8) (T := TX8) (N := 13) hx hb hts wsI_X8 hown hK hP 0 rfl rfl 0 (by decide) (hts _ w_fl_X8_7) (fun _ h9 => h9) rfl dX8_empties_33 ?_
              refine lv_sipush (v := 143) hx hb dX8_empties_36 (by decide) ?_
              refine lv_iload_n hx hb dX8_empties_39 rfl (lv_at hl 1 rfl) ?_
              refine lv_iadd hx hb dX8_empties_40 ?_
              refine z_top (y := nI (143 + j)) (nI_add 143 j) ?_
              refine lv_iconst (v := 0) hx hb dX8_empties_41 (by decide) ?_
              refine z_iast (k := 143 + j) hx hb hK hP hD hS 1 rfl (by omega) (by first | decide | omega) dX8_empties_42 (fun H locs hP hD hS => ?_)
              have hP : va_P D vwCl (refW cs a V (zU G 0 (upd (cpF 143 (cpF 63 (G 0) (fun _ => -1) 80) (fun _ => 0) j) (143 + j) 0))) H := hP
              have hD : va_D A (refW cs a V (zU G 0 (upd (cpF 143 (cpF 63 (G 0) (fun _ => -1) 80) (fun _ => 0) j) (143 + j) 0))) := hD
              refine lv_iinc (v := nI (j + 1)) (lv' := [(1, .int (nI (j + 1))), (0, .ref (a 0))]) hx hb dX8_empties_43 hl (k := 1) rfl (show nI j + Int32.ofInt 1 = nI (j + 1) from nI_add j 1) (by decide) rfl (fun ls hl => ?_)
              refine lv_goto (tgt := 26) hx hb dX8_empties_46 (by decide) ?_
              rw [cp_s (by rfl)] at hP hD
              exact ih2 (j + 1) (by omega) (by omega) _ _ _ hP hD hS (lv_sub hl [1, 0] rfl)
        have hP := z_eqP (w2 := (refW cs a V (zU G 0 (cpF 143 (cpF 63 (G 0) (fun _ => -1) 80) (fun _ => 0) 0)))) (by rw [cp_0]; first | done | rfl) hP
        have hD : va_D A (refW cs a V (zU G 0 (cpF 143 (cpF 63 (G 0) (fun _ => -1) 80) (fun _ => 0) 0))) := z_eqD (by rw [cp_0]; first | done | rfl) hD
        exact lp26 (16 + 1) 0 (Nat.zero_le _) (by omega) _ _ _ hP hD hS (lv_sub hl [1, 0] rfl)
      · skip
        have gi : i < 80 := z_geK (n := 80) rfl (by omega) hi1 c_1
        refine lv_aload_n hx hb dX8_empties_8 rfl (lv_at hl 0 rfl) ?_
        refine va_get (D := D) (ci := 8) (v := .ref (a 1)) (C := RX8) (T := TX8) (N := 13) hx hb hts wsI_X8 hown hK hP 0 rfl rfl 0 (by decide) (hts _ w_fl_X8_7) (fun _ h9 => h9) rfl dX8_empties_9 ?_
        refine lv_bipush (v := 63) hx hb dX8_empties_12 (by decide) ?_
        refine lv_iload_n hx hb dX8_empties_14 rfl (lv_at hl 1 rfl) ?_
        refine lv_iadd hx hb dX8_empties_15 ?_
        refine z_top (y := nI (63 + i)) (nI_add 63 i) ?_
        refine lv_iconst (v := (-1)) hx hb dX8_empties_16 (by decide) ?_
        refine z_iast (k := 63 + i) hx hb hK hP hD hS 1 rfl (by omega) (by first | decide | omega) dX8_empties_17 (fun H locs hP hD hS => ?_)
        have hP : va_P D vwCl (refW cs a V (zU G 0 (upd (cpF 63 (G 0) (fun _ => -1) i) (63 + i) (-1)))) H := hP
        have hD : va_D A (refW cs a V (zU G 0 (upd (cpF 63 (G 0) (fun _ => -1) i) (63 + i) (-1)))) := hD
        refine lv_iinc (v := nI (i + 1)) (lv' := [(1, .int (nI (i + 1))), (0, .ref (a 0))]) hx hb dX8_empties_18 hl (k := 1) rfl (show nI i + Int32.ofInt 1 = nI (i + 1) from nI_add i 1) (by decide) rfl (fun ls hl => ?_)
        refine lv_goto (tgt := 2) hx hb dX8_empties_21 (by decide) ?_
        rw [cp_s (by rfl)] at hP hD
        exact ih (i + 1) (by omega) (by omega) _ _ _ hP hD hS (lv_sub hl [1, 0] rfl)
  have hP := z_eqP (w2 := (refW cs a V (zU G 0 (cpF 63 (G 0) (fun _ => -1) 0)))) (by rw [cp_0, zU_self]; first | done | rfl) hP
  have hD : va_D A (refW cs a V (zU G 0 (cpF 63 (G 0) (fun _ => -1) 0))) := z_eqD (by rw [cp_0, zU_self]; first | done | rfl) hD
  exact lp2 (80 + 1) 0 (Nat.zero_le _) (by omega) _ _ _ hP hD hS (lv_sub hl [1, 0] rfl)

set_option maxHeartbeats 4000000 in
set_option maxRecDepth 100000 in
theorem c_X8_setCam_t1 (l : Launch) (D : va_G) (cs : zCs) (a : Nat → Nat) (V : Nat → Int32) (G : Nat → Nat → Int32) (sn : Nat) (n0 : Nat) (tr st th : Int32) (hsn : V 0 = nI sn) (hs4 : sn ≤ 4) (h0 : G 0 0 = nI n0) (hn0 : n0 ≤ 16) (hbad : ¬ ((0 ≤ tr ∧ tr ≤ 4) ∧ (0 ≤ st ∧ st ≤ (G 0) 0 - 1))) : zM l D cs yX8_setCam cX8_setCam 5 (some FieldType.int) 2 46 0 0 [.ref (a 0), .int tr, .int st, .int th] (refW cs a V G) (some (.int 0)) (refW cs a (upd V 1 1) G) := by
  refine zM.of (own := RX8) (by decide) (Nat.le_of_ble_eq_true rfl) rfl ?_
  intro pq eq s mq below meth cq A ls hx hb hr hml hown hts hlk hnm hE hK hA hP hD hS hl
  have hl : lv_has ls 5 [(0, .ref (a 0)), (1, .int tr), (2, .int st), (3, .int th)] := hl
  refine lv_iload_n hx hb dX8_setCam_0 rfl (lv_at hl 1 rfl) ?_
  refine z_callS (wn := (refW cs a V G)) ⟨hx, hb, hml, hown, hts⟩ zY_X8_isCylinder w_st_yX8_isCylinder w_ml_X8_48 [.int tr] [] (c_X8_isCylinder l D cs tr) hE hK hA hP hD hS [] rfl rfl rfl z_ins_nil rfl hl.1 (Nat.le_of_ble_eq_true rfl) ⟨Nat.le_of_ble_eq_true rfl, Nat.le_of_ble_eq_true rfl⟩ ⟨Nat.le_of_ble_eq_true rfl, Nat.le_of_ble_eq_true rfl⟩ dX8_setCam_1 (fun H locs hP hD hS => ?_)
  refine lv_if_eq (tgt := 15) hx hb dX8_setCam_4 (by decide) (fun c_1 => ?_) (fun c_1 => ?_)
  · skip
    have c_1 := bI_0.mp c_1
    refine lv_aload_n hx hb dX8_setCam_15 rfl (lv_at hl 0 rfl) ?_
    refine lv_iconst (v := 1) hx hb dX8_setCam_16 (by decide) ?_
    refine z_callV (wn := (refW cs a (upd V 1 1) G)) ⟨hx, hb, hml, hown, hts⟩ zY_X8_throwing w_im_yX8_throwing w_se_yX8_throwing w_ml_X8_55 [.int 1] [] (c_X8_throwing l D cs a V G 1) hE hK hA hP hD hS [0, 1, 2, 3, 4, 5, 6] rfl rfl rfl rfl 8 rfl rfl rfl rfl hl.1 (Nat.le_of_ble_eq_true rfl) ⟨Nat.le_of_ble_eq_true rfl, Nat.le_of_ble_eq_true rfl⟩ ⟨Nat.le_of_ble_eq_true rfl, Nat.le_of_ble_eq_true rfl⟩ dX8_setCam_17 (fun H locs hP hD hS => ?_)
    exact z_iret hx hb hr hlk hK hP hD hS dX8_setCam_20 rfl rfl
  · skip
    have c_1 := bI_n0 c_1
    refine lv_aload_n hx hb dX8_setCam_7 rfl (lv_at hl 0 rfl) ?_
    refine lv_iload_n hx hb dX8_setCam_8 rfl (lv_at hl 2 rfl) ?_
    refine z_callV (wn := (refW cs a V G)) ⟨hx, hb, hml, hown, hts⟩ zY_X8_isStep w_im_yX8_isStep w_se_yX8_isStep w_ml_X8_52 [.int st] [] (c_X8_isStep l D cs a V G st n0 h0 (by omega)) hE hK hA hP hD hS [0, 1, 2, 3, 4, 5, 6] rfl rfl rfl rfl 8 rfl rfl rfl rfl hl.1 (Nat.le_of_ble_eq_true rfl) ⟨Nat.le_of_ble_eq_true rfl, Nat.le_of_ble_eq_true rfl⟩ ⟨Nat.le_of_ble_eq_true rfl, Nat.le_of_ble_eq_true rfl⟩ dX8_setCam_9 (fun H locs hP hD hS => ?_)
    refine lv_if_ne (tgt := 21) hx hb dX8_setCam_12 (by decide) (fun c_2 => ?_) (fun c_2 => ?_)
    · skip
      have c_2 := bI_n0 c_2
      exact absurd ⟨c_1, c_2⟩ hbad
    · skip
      have c_2 := bI_0.mp c_2
      refine lv_aload_n hx hb dX8_setCam_15 rfl (lv_at hl 0 rfl) ?_
      refine lv_iconst (v := 1) hx hb dX8_setCam_16 (by decide) ?_
      refine z_callV (wn := (refW cs a (upd V 1 1) G)) ⟨hx, hb, hml, hown, hts⟩ zY_X8_throwing w_im_yX8_throwing w_se_yX8_throwing w_ml_X8_55 [.int 1] [] (c_X8_throwing l D cs a V G 1) hE hK hA hP hD hS [0, 1, 2, 3, 4, 5, 6] rfl rfl rfl rfl 8 rfl rfl rfl rfl hl.1 (Nat.le_of_ble_eq_true rfl) ⟨Nat.le_of_ble_eq_true rfl, Nat.le_of_ble_eq_true rfl⟩ ⟨Nat.le_of_ble_eq_true rfl, Nat.le_of_ble_eq_true rfl⟩ dX8_setCam_17 (fun H locs hP hD hS => ?_)
      exact z_iret hx hb hr hlk hK hP hD hS dX8_setCam_20 rfl rfl

set_option maxHeartbeats 4000000 in
set_option maxRecDepth 100000 in
theorem c_X8_setCam_ok (l : Launch) (D : va_G) (cs : zCs) (a : Nat → Nat) (V : Nat → Int32) (G : Nat → Nat → Int32) (sn : Nat) (n0 : Nat) (tr st th : Int32) (hsn : V 0 = nI sn) (hs4 : sn ≤ 4) (h0 : G 0 0 = nI n0) (hn0 : n0 ≤ 16) (q0 : 0 ≤ tr ∧ tr ≤ 4) (q1 : 0 ≤ st ∧ st ≤ (G 0) 0 - 1) : zM l D cs yX8_setCam cX8_setCam 5 (some FieldType.int) 2 46 0 0 [.ref (a 0), .int tr, .int st, .int th] (refW cs a V G) (some (.int (rCamsN (upd (G 0) (16 + nN tr) (rCam ((G 0) (16 + nN tr)) st th)) (nN tr) 16))) (refW cs a (upd (upd V 0 (nI (min (sn + 1) 4))) 1 0) (zU (zU G 0 (upd (G 0) (16 + nN tr) (rCam ((G 0) (16 + nN tr)) st th))) 1 (svF sn (G 1) (G 0)))) := by
  refine zM.of (own := RX8) (by decide) (Nat.le_of_ble_eq_true rfl) rfl ?_
  intro pq eq s mq below meth cq A ls hx hb hr hml hown hts hlk hnm hE hK hA hP hD hS hl
  have hl : lv_has ls 5 [(0, .ref (a 0)), (1, .int tr), (2, .int st), (3, .int th)] := hl
  refine lv_iload_n hx hb dX8_setCam_0 rfl (lv_at hl 1 rfl) ?_
  refine z_callS (wn := (refW cs a V G)) ⟨hx, hb, hml, hown, hts⟩ zY_X8_isCylinder w_st_yX8_isCylinder w_ml_X8_48 [.int tr] [] (c_X8_isCylinder l D cs tr) hE hK hA hP hD hS [] rfl rfl rfl z_ins_nil rfl hl.1 (Nat.le_of_ble_eq_true rfl) ⟨Nat.le_of_ble_eq_true rfl, Nat.le_of_ble_eq_true rfl⟩ ⟨Nat.le_of_ble_eq_true rfl, Nat.le_of_ble_eq_true rfl⟩ dX8_setCam_1 (fun H locs hP hD hS => ?_)
  refine lv_if_eq (tgt := 15) hx hb dX8_setCam_4 (by decide) (fun c_1 => ?_) (fun c_1 => ?_)
  · skip
    have c_1 := bI_0.mp c_1
    exact absurd q0 c_1
  · skip
    have c_1 := bI_n0 c_1
    refine lv_aload_n hx hb dX8_setCam_7 rfl (lv_at hl 0 rfl) ?_
    refine lv_iload_n hx hb dX8_setCam_8 rfl (lv_at hl 2 rfl) ?_
    refine z_callV (wn := (refW cs a V G)) ⟨hx, hb, hml, hown, hts⟩ zY_X8_isStep w_im_yX8_isStep w_se_yX8_isStep w_ml_X8_52 [.int st] [] (c_X8_isStep l D cs a V G st n0 h0 (by omega)) hE hK hA hP hD hS [0, 1, 2, 3, 4, 5, 6] rfl rfl rfl rfl 8 rfl rfl rfl rfl hl.1 (Nat.le_of_ble_eq_true rfl) ⟨Nat.le_of_ble_eq_true rfl, Nat.le_of_ble_eq_true rfl⟩ ⟨Nat.le_of_ble_eq_true rfl, Nat.le_of_ble_eq_true rfl⟩ dX8_setCam_9 (fun H locs hP hD hS => ?_)
    refine lv_if_ne (tgt := 21) hx hb dX8_setCam_12 (by decide) (fun c_2 => ?_) (fun c_2 => ?_)
    · skip
      have c_2 := bI_n0 c_2
      obtain ⟨k, hk, rfl⟩ := z_nat4 c_1
      have hNk := nN_nI (k := k) (by omega)
      refine lv_aload_n hx hb dX8_setCam_21 rfl (lv_at hl 0 rfl) ?_
      refine z_callV (wn := (refW cs a (upd V 0 (nI (min (sn + 1) 4))) (zU G 1 (svF sn (G 1) (G 0))))) ⟨hx, hb, hml, hown, hts⟩ zY_X8_save w_im_yX8_save w_se_yX8_save w_ml_X8_59 [] [] (c_X8_save l D cs a V G sn hsn hs4) hE hK hA hP hD hS [0, 1, 2, 3, 4, 5, 6] rfl rfl rfl rfl 8 rfl rfl rfl rfl hl.1 (Nat.le_of_ble_eq_true rfl) ⟨Nat.le_of_ble_eq_true rfl, Nat.le_of_ble_eq_true rfl⟩ ⟨Nat.le_of_ble_eq_true rfl, Nat.le_of_ble_eq_true rfl⟩ dX8_setCam_22 (fun H locs hP hD hS => ?_)
      refine lv_aload_n hx hb dX8_setCam_25 rfl (lv_at hl 0 rfl) ?_
      refine va_get (D := D) (ci := 8) (v := .ref (a 1)) (C := RX8) (T := TX8) (N := 13) hx hb hts wsI_X8 hown hK hP 0 rfl rfl 0 (by decide) (hts _ w_fl_X8_7) (fun _ h9 => h9) rfl dX8_setCam_26 ?_
      refine lv_bipush (v := 16) hx hb dX8_setCam_29 (by decide) ?_
      refine lv_iload_n hx hb dX8_setCam_31 rfl (lv_at hl 1 rfl) ?_
      refine lv_iadd hx hb dX8_setCam_32 ?_
      refine z_top (y := nI (16 + k)) (nI_add 16 k) ?_
      refine z_iald (k := 16 + k) hx hb hK hP 1 rfl (by omega) (by first | decide | omega) dX8_setCam_33 ?_
      refine lv_iconst (v := 1) hx hb dX8_setCam_34 (by decide) ?_
      refine lv_iload_n hx hb dX8_setCam_35 rfl (lv_at hl 2 rfl) ?_
      refine lv_ishl hx hb dX8_setCam_36 ?_
      refine lv_iconst (v := (-1)) hx hb dX8_setCam_37 (by decide) ?_
      refine lv_ixor hx hb dX8_setCam_38 ?_
      refine lv_iand hx hb dX8_setCam_39 ?_
      refine lv_istore (lv' := [(4, .int (((G 0) (16 + k)) &&& ((1 <<< (st &&& 31)) ^^^ (-1)))), (0, .ref (a 0)), (1, .int (nI k)), (2, .int st), (3, .int th)]) hx hb dX8_setCam_40 hl (by decide) rfl (fun ls hl => ?_)
      refine lv_aload_n hx hb dX8_setCam_42 rfl (lv_at hl 1 rfl) ?_
      refine va_get (D := D) (ci := 8) (v := .ref (a 1)) (C := RX8) (T := TX8) (N := 13) hx hb hts wsI_X8 hown hK hP 0 rfl rfl 0 (by decide) (hts _ w_fl_X8_7) (fun _ h9 => h9) rfl dX8_setCam_43 ?_
      refine lv_bipush (v := 16) hx hb dX8_setCam_46 (by decide) ?_
      refine lv_iload_n hx hb dX8_setCam_48 rfl (lv_at hl 2 rfl) ?_
      refine lv_iadd hx hb dX8_setCam_49 ?_
      refine z_top (y := nI (16 + k)) (nI_add 16 k) ?_
      refine lv_iload_n hx hb dX8_setCam_50 rfl (lv_at hl 4 rfl) ?_
      refine lv_if_eq (tgt := 63) hx hb dX8_setCam_51 (by decide) (fun c_3 => ?_) (fun c_3 => ?_)
      · skip
        refine lv_iload hx hb dX8_setCam_63 (lv_at hl 0 rfl) ?_
        refine z_top (y := rCam ((G 0) (16 + k)) st th) ((if_pos c_3).symm) ?_
        refine z_iast (k := 16 + k) hx hb hK hP hD hS 1 rfl (by omega) (by first | decide | omega) dX8_setCam_65 (fun H locs hP hD hS => ?_)
        have hP : va_P D vwCl (refW cs a (upd V 0 (nI (min (sn + 1) 4))) (zU (zU G 0 (upd (G 0) (16 + k) (rCam ((G 0) (16 + k)) st th))) 1 (svF sn (G 1) (G 0)))) H := hP
        have hD : va_D A (refW cs a (upd V 0 (nI (min (sn + 1) 4))) (zU (zU G 0 (upd (G 0) (16 + k) (rCam ((G 0) (16 + k)) st th))) 1 (svF sn (G 1) (G 0)))) := hD
        refine lv_aload_n hx hb dX8_setCam_66 rfl (lv_at hl 1 rfl) ?_
        refine lv_aload_n hx hb dX8_setCam_67 rfl (lv_at hl 1 rfl) ?_
        refine lv_iload_n hx hb dX8_setCam_68 rfl (lv_at hl 2 rfl) ?_
        refine z_callV (wn := (refW cs a (upd V 0 (nI (min (sn + 1) 4))) (zU (zU G 0 (upd (G 0) (16 + k) (rCam ((G 0) (16 + k)) st th))) 1 (svF sn (G 1) (G 0))))) ⟨hx, hb, hml, hown, hts⟩ zY_X8_camsOf w_im_yX8_camsOf w_se_yX8_camsOf w_ml_X8_62 [.int (nI k)] [.ref (a 0)] (c_X8_camsOf l D cs a (upd V 0 (nI (min (sn + 1) 4))) (zU (zU G 0 (upd (G 0) (16 + k) (rCam ((G 0) (16 + k)) st th))) 1 (svF sn (G 1) (G 0))) k hk) hE hK hA hP hD hS [0, 1, 2, 3, 4, 5, 6] rfl rfl rfl rfl 8 rfl rfl rfl rfl hl.1 (Nat.le_of_ble_eq_true rfl) ⟨Nat.le_of_ble_eq_true rfl, Nat.le_of_ble_eq_true rfl⟩ ⟨Nat.le_of_ble_eq_true rfl, Nat.le_of_ble_eq_true rfl⟩ dX8_setCam_69 (fun H locs hP hD hS => ?_)
        refine z_callV (wn := (refW cs a (upd (upd V 0 (nI (min (sn + 1) 4))) 1 0) (zU (zU G 0 (upd (G 0) (16 + k) (rCam ((G 0) (16 + k)) st th))) 1 (svF sn (G 1) (G 0))))) ⟨hx, hb, hml, hown, hts⟩ zY_X8_fine w_im_yX8_fine w_se_yX8_fine w_ml_X8_65 [.int (rCamsN (upd (G 0) (16 + k) (rCam ((G 0) (16 + k)) st th)) k 16)] [] (c_X8_fine l D cs a (upd V 0 (nI (min (sn + 1) 4))) (zU (zU G 0 (upd (G 0) (16 + k) (rCam ((G 0) (16 + k)) st th))) 1 (svF sn (G 1) (G 0))) (rCamsN (upd (G 0) (16 + k) (rCam ((G 0) (16 + k)) st th)) k 16)) hE hK hA hP hD hS [0, 1, 2, 3, 4, 5, 6] rfl rfl rfl rfl 8 rfl rfl rfl rfl hl.1 (Nat.le_of_ble_eq_true rfl) ⟨Nat.le_of_ble_eq_true rfl, Nat.le_of_ble_eq_true rfl⟩ ⟨Nat.le_of_ble_eq_true rfl, Nat.le_of_ble_eq_true rfl⟩ dX8_setCam_72 (fun H locs hP hD hS => ?_)
        exact z_iret hx hb hr hlk hK hP hD hS dX8_setCam_75 (by simp only [hNk]) (by simp only [hNk])
      · skip
        refine lv_iload hx hb dX8_setCam_54 (lv_at hl 0 rfl) ?_
        refine lv_iconst (v := 1) hx hb dX8_setCam_56 (by decide) ?_
        refine lv_iload_n hx hb dX8_setCam_57 rfl (lv_at hl 3 rfl) ?_
        refine lv_ishl hx hb dX8_setCam_58 ?_
        refine lv_ior hx hb dX8_setCam_59 ?_
        refine lv_goto (tgt := 65) hx hb dX8_setCam_60 (by decide) ?_
        refine z_top (y := rCam ((G 0) (16 + k)) st th) ((if_neg c_3).symm) ?_
        refine z_iast (k := 16 + k) hx hb hK hP hD hS 1 rfl (by omega) (by first | decide | omega) dX8_setCam_65 (fun H locs hP hD hS => ?_)
        have hP : va_P D vwCl (refW cs a (upd V 0 (nI (min (sn + 1) 4))) (zU (zU G 0 (upd (G 0) (16 + k) (rCam ((G 0) (16 + k)) st th))) 1 (svF sn (G 1) (G 0)))) H := hP
        have hD : va_D A (refW cs a (upd V 0 (nI (min (sn + 1) 4))) (zU (zU G 0 (upd (G 0) (16 + k) (rCam ((G 0) (16 + k)) st th))) 1 (svF sn (G 1) (G 0)))) := hD
        refine lv_aload_n hx hb dX8_setCam_66 rfl (lv_at hl 1 rfl) ?_
        refine lv_aload_n hx hb dX8_setCam_67 rfl (lv_at hl 1 rfl) ?_
        refine lv_iload_n hx hb dX8_setCam_68 rfl (lv_at hl 2 rfl) ?_
        refine z_callV (wn := (refW cs a (upd V 0 (nI (min (sn + 1) 4))) (zU (zU G 0 (upd (G 0) (16 + k) (rCam ((G 0) (16 + k)) st th))) 1 (svF sn (G 1) (G 0))))) ⟨hx, hb, hml, hown, hts⟩ zY_X8_camsOf w_im_yX8_camsOf w_se_yX8_camsOf w_ml_X8_62 [.int (nI k)] [.ref (a 0)] (c_X8_camsOf l D cs a (upd V 0 (nI (min (sn + 1) 4))) (zU (zU G 0 (upd (G 0) (16 + k) (rCam ((G 0) (16 + k)) st th))) 1 (svF sn (G 1) (G 0))) k hk) hE hK hA hP hD hS [0, 1, 2, 3, 4, 5, 6] rfl rfl rfl rfl 8 rfl rfl rfl rfl hl.1 (Nat.le_of_ble_eq_true rfl) ⟨Nat.le_of_ble_eq_true rfl, Nat.le_of_ble_eq_true rfl⟩ ⟨Nat.le_of_ble_eq_true rfl, Nat.le_of_ble_eq_true rfl⟩ dX8_setCam_69 (fun H locs hP hD hS => ?_)
        refine z_callV (wn := (refW cs a (upd (upd V 0 (nI (min (sn + 1) 4))) 1 0) (zU (zU G 0 (upd (G 0) (16 + k) (rCam ((G 0) (16 + k)) st th))) 1 (svF sn (G 1) (G 0))))) ⟨hx, hb, hml, hown, hts⟩ zY_X8_fine w_im_yX8_fine w_se_yX8_fine w_ml_X8_65 [.int (rCamsN (upd (G 0) (16 + k) (rCam ((G 0) (16 + k)) st th)) k 16)] [] (c_X8_fine l D cs a (upd V 0 (nI (min (sn + 1) 4))) (zU (zU G 0 (upd (G 0) (16 + k) (rCam ((G 0) (16 + k)) st th))) 1 (svF sn (G 1) (G 0))) (rCamsN (upd (G 0) (16 + k) (rCam ((G 0) (16 + k)) st th)) k 16)) hE hK hA hP hD hS [0, 1, 2, 3, 4, 5, 6] rfl rfl rfl rfl 8 rfl rfl rfl rfl hl.1 (Nat.le_of_ble_eq_true rfl) ⟨Nat.le_of_ble_eq_true rfl, Nat.le_of_ble_eq_true rfl⟩ ⟨Nat.le_of_ble_eq_true rfl, Nat.le_of_ble_eq_true rfl⟩ dX8_setCam_72 (fun H locs hP hD hS => ?_)
        exact z_iret hx hb hr hlk hK hP hD hS dX8_setCam_75 (by simp only [hNk]) (by simp only [hNk])
    · skip
      have c_2 := bI_0.mp c_2
      exact absurd q1 c_2

set_option maxHeartbeats 4000000 in
set_option maxRecDepth 100000 in
theorem c_X8_setPawl_t1 (l : Launch) (D : va_G) (cs : zCs) (a : Nat → Nat) (V : Nat → Int32) (G : Nat → Nat → Int32) (sn : Nat) (dw le : Int32) (hsn : V 0 = nI sn) (hs4 : sn ≤ 4) (hbad : ¬ ((1 ≤ dw ∧ dw ≤ 20) ∧ (0 ≤ le ∧ le ≤ 5000))) : zM l D cs yX8_setPawl cX8_setPawl 4 (some FieldType.int) 1 25 0 0 [.ref (a 0), .int dw, .int le] (refW cs a V G) (some (.int 0)) (refW cs a (upd V 1 1) G) := by
  refine zM.of (own := RX8) (by decide) (Nat.le_of_ble_eq_true rfl) rfl ?_
  intro pq eq s mq below meth cq A ls hx hb hr hml hown hts hlk hnm hE hK hA hP hD hS hl
  have hl : lv_has ls 4 [(0, .ref (a 0)), (1, .int dw), (2, .int le)] := hl
  refine lv_iload_n hx hb dX8_setPawl_0 rfl (lv_at hl 1 rfl) ?_
  refine lv_i2l (v := dw.toInt64) hx hb dX8_setPawl_1 rfl ?_
  refine lv_lconst (v := 1) hx hb dX8_setPawl_2 (by decide) ?_
  refine lv_ldc2 (v := 20) hx hb hown (hts _ w_ct_X8_68) dX8_setPawl_3 ?_
  refine z_callS (wn := (refW cs a V G)) ⟨hx, hb, hml, hown, hts⟩ zY_X8_in w_st_yX8_in w_ml_X8_40 [.long dw.toInt64, .long 1, .long 20] [] (c_X8_in l D cs dw.toInt64 1 20) hE hK hA hP hD hS [] rfl rfl rfl z_ins_nil rfl hl.1 (Nat.le_of_ble_eq_true rfl) ⟨Nat.le_of_ble_eq_true rfl, Nat.le_of_ble_eq_true rfl⟩ ⟨Nat.le_of_ble_eq_true rfl, Nat.le_of_ble_eq_true rfl⟩ dX8_setPawl_6 (fun H locs hP hD hS => ?_)
  refine z_top (y := bI (1 ≤ dw ∧ dw ≤ 20)) (bI_congr (in64 (by decide) (by decide))) ?_
  refine lv_if_eq (tgt := 24) hx hb dX8_setPawl_9 (by decide) (fun c_1 => ?_) (fun c_1 => ?_)
  · skip
    have c_1 := bI_0.mp c_1
    refine lv_aload_n hx hb dX8_setPawl_24 rfl (lv_at hl 0 rfl) ?_
    refine lv_iconst (v := 1) hx hb dX8_setPawl_25 (by decide) ?_
    refine z_callV (wn := (refW cs a (upd V 1 1) G)) ⟨hx, hb, hml, hown, hts⟩ zY_X8_throwing w_im_yX8_throwing w_se_yX8_throwing w_ml_X8_55 [.int 1] [] (c_X8_throwing l D cs a V G 1) hE hK hA hP hD hS [0, 1, 2, 3, 4, 5, 6] rfl rfl rfl rfl 8 rfl rfl rfl rfl hl.1 (Nat.le_of_ble_eq_true rfl) ⟨Nat.le_of_ble_eq_true rfl, Nat.le_of_ble_eq_true rfl⟩ ⟨Nat.le_of_ble_eq_true rfl, Nat.le_of_ble_eq_true rfl⟩ dX8_setPawl_26 (fun H locs hP hD hS => ?_)
    exact z_iret hx hb hr hlk hK hP hD hS dX8_setPawl_29 rfl rfl
  · skip
    have c_1 := bI_n0 c_1
    refine lv_iload_n hx hb dX8_setPawl_12 rfl (lv_at hl 2 rfl) ?_
    refine lv_i2l (v := le.toInt64) hx hb dX8_setPawl_13 rfl ?_
    refine lv_lconst (v := 0) hx hb dX8_setPawl_14 (by decide) ?_
    refine lv_ldc2 (v := 5000) hx hb hown (hts _ w_ct_X8_70) dX8_setPawl_15 ?_
    refine z_callS (wn := (refW cs a V G)) ⟨hx, hb, hml, hown, hts⟩ zY_X8_in w_st_yX8_in w_ml_X8_40 [.long le.toInt64, .long 0, .long 5000] [] (c_X8_in l D cs le.toInt64 0 5000) hE hK hA hP hD hS [] rfl rfl rfl z_ins_nil rfl hl.1 (Nat.le_of_ble_eq_true rfl) ⟨Nat.le_of_ble_eq_true rfl, Nat.le_of_ble_eq_true rfl⟩ ⟨Nat.le_of_ble_eq_true rfl, Nat.le_of_ble_eq_true rfl⟩ dX8_setPawl_18 (fun H locs hP hD hS => ?_)
    refine z_top (y := bI (0 ≤ le ∧ le ≤ 5000)) (bI_congr (in64 (by decide) (by decide))) ?_
    refine lv_if_ne (tgt := 30) hx hb dX8_setPawl_21 (by decide) (fun c_2 => ?_) (fun c_2 => ?_)
    · skip
      have c_2 := bI_n0 c_2
      exact absurd ⟨c_1, c_2⟩ hbad
    · skip
      have c_2 := bI_0.mp c_2
      refine lv_aload_n hx hb dX8_setPawl_24 rfl (lv_at hl 0 rfl) ?_
      refine lv_iconst (v := 1) hx hb dX8_setPawl_25 (by decide) ?_
      refine z_callV (wn := (refW cs a (upd V 1 1) G)) ⟨hx, hb, hml, hown, hts⟩ zY_X8_throwing w_im_yX8_throwing w_se_yX8_throwing w_ml_X8_55 [.int 1] [] (c_X8_throwing l D cs a V G 1) hE hK hA hP hD hS [0, 1, 2, 3, 4, 5, 6] rfl rfl rfl rfl 8 rfl rfl rfl rfl hl.1 (Nat.le_of_ble_eq_true rfl) ⟨Nat.le_of_ble_eq_true rfl, Nat.le_of_ble_eq_true rfl⟩ ⟨Nat.le_of_ble_eq_true rfl, Nat.le_of_ble_eq_true rfl⟩ dX8_setPawl_26 (fun H locs hP hD hS => ?_)
      exact z_iret hx hb hr hlk hK hP hD hS dX8_setPawl_29 rfl rfl

set_option maxHeartbeats 4000000 in
set_option maxRecDepth 100000 in
theorem c_X8_setPawl_ok (l : Launch) (D : va_G) (cs : zCs) (a : Nat → Nat) (V : Nat → Int32) (G : Nat → Nat → Int32) (sn : Nat) (dw le : Int32) (hsn : V 0 = nI sn) (hs4 : sn ≤ 4) (q0 : 1 ≤ dw ∧ dw ≤ 20) (q1 : 0 ≤ le ∧ le ≤ 5000) : zM l D cs yX8_setPawl cX8_setPawl 4 (some FieldType.int) 1 25 0 0 [.ref (a 0), .int dw, .int le] (refW cs a V G) (some (.int ((G 0) 3))) (refW cs a (upd (upd V 0 (nI (min (sn + 1) 4))) 1 0) (zU (zU G 0 (upd (upd (G 0) 3 dw) 4 le)) 1 (svF sn (G 1) (G 0)))) := by
  refine zM.of (own := RX8) (by decide) (Nat.le_of_ble_eq_true rfl) rfl ?_
  intro pq eq s mq below meth cq A ls hx hb hr hml hown hts hlk hnm hE hK hA hP hD hS hl
  have hl : lv_has ls 4 [(0, .ref (a 0)), (1, .int dw), (2, .int le)] := hl
  refine lv_iload_n hx hb dX8_setPawl_0 rfl (lv_at hl 1 rfl) ?_
  refine lv_i2l (v := dw.toInt64) hx hb dX8_setPawl_1 rfl ?_
  refine lv_lconst (v := 1) hx hb dX8_setPawl_2 (by decide) ?_
  refine lv_ldc2 (v := 20) hx hb hown (hts _ w_ct_X8_68) dX8_setPawl_3 ?_
  refine z_callS (wn := (refW cs a V G)) ⟨hx, hb, hml, hown, hts⟩ zY_X8_in w_st_yX8_in w_ml_X8_40 [.long dw.toInt64, .long 1, .long 20] [] (c_X8_in l D cs dw.toInt64 1 20) hE hK hA hP hD hS [] rfl rfl rfl z_ins_nil rfl hl.1 (Nat.le_of_ble_eq_true rfl) ⟨Nat.le_of_ble_eq_true rfl, Nat.le_of_ble_eq_true rfl⟩ ⟨Nat.le_of_ble_eq_true rfl, Nat.le_of_ble_eq_true rfl⟩ dX8_setPawl_6 (fun H locs hP hD hS => ?_)
  refine z_top (y := bI (1 ≤ dw ∧ dw ≤ 20)) (bI_congr (in64 (by decide) (by decide))) ?_
  refine lv_if_eq (tgt := 24) hx hb dX8_setPawl_9 (by decide) (fun c_1 => ?_) (fun c_1 => ?_)
  · skip
    have c_1 := bI_0.mp c_1
    exact absurd q0 c_1
  · skip
    have c_1 := bI_n0 c_1
    refine lv_iload_n hx hb dX8_setPawl_12 rfl (lv_at hl 2 rfl) ?_
    refine lv_i2l (v := le.toInt64) hx hb dX8_setPawl_13 rfl ?_
    refine lv_lconst (v := 0) hx hb dX8_setPawl_14 (by decide) ?_
    refine lv_ldc2 (v := 5000) hx hb hown (hts _ w_ct_X8_70) dX8_setPawl_15 ?_
    refine z_callS (wn := (refW cs a V G)) ⟨hx, hb, hml, hown, hts⟩ zY_X8_in w_st_yX8_in w_ml_X8_40 [.long le.toInt64, .long 0, .long 5000] [] (c_X8_in l D cs le.toInt64 0 5000) hE hK hA hP hD hS [] rfl rfl rfl z_ins_nil rfl hl.1 (Nat.le_of_ble_eq_true rfl) ⟨Nat.le_of_ble_eq_true rfl, Nat.le_of_ble_eq_true rfl⟩ ⟨Nat.le_of_ble_eq_true rfl, Nat.le_of_ble_eq_true rfl⟩ dX8_setPawl_18 (fun H locs hP hD hS => ?_)
    refine z_top (y := bI (0 ≤ le ∧ le ≤ 5000)) (bI_congr (in64 (by decide) (by decide))) ?_
    refine lv_if_ne (tgt := 30) hx hb dX8_setPawl_21 (by decide) (fun c_2 => ?_) (fun c_2 => ?_)
    · skip
      have c_2 := bI_n0 c_2
      refine lv_aload_n hx hb dX8_setPawl_30 rfl (lv_at hl 0 rfl) ?_
      refine z_callV (wn := (refW cs a (upd V 0 (nI (min (sn + 1) 4))) (zU G 1 (svF sn (G 1) (G 0))))) ⟨hx, hb, hml, hown, hts⟩ zY_X8_save w_im_yX8_save w_se_yX8_save w_ml_X8_59 [] [] (c_X8_save l D cs a V G sn hsn hs4) hE hK hA hP hD hS [0, 1, 2, 3, 4, 5, 6] rfl rfl rfl rfl 8 rfl rfl rfl rfl hl.1 (Nat.le_of_ble_eq_true rfl) ⟨Nat.le_of_ble_eq_true rfl, Nat.le_of_ble_eq_true rfl⟩ ⟨Nat.le_of_ble_eq_true rfl, Nat.le_of_ble_eq_true rfl⟩ dX8_setPawl_31 (fun H locs hP hD hS => ?_)
      refine lv_aload_n hx hb dX8_setPawl_34 rfl (lv_at hl 0 rfl) ?_
      refine va_get (D := D) (ci := 8) (v := .ref (a 1)) (C := RX8) (T := TX8) (N := 13) hx hb hts wsI_X8 hown hK hP 0 rfl rfl 0 (by decide) (hts _ w_fl_X8_7) (fun _ h9 => h9) rfl dX8_setPawl_35 ?_
      refine lv_iconst (v := 3) hx hb dX8_setPawl_38 (by decide) ?_
      refine z_iald (k := 3) hx hb hK hP 1 rfl (by decide) (by first | decide | omega) dX8_setPawl_39 ?_
      refine lv_istore_n (lv' := [(3, .int ((G 0) 3)), (0, .ref (a 0)), (1, .int dw), (2, .int le)]) hx hb dX8_setPawl_40 rfl hl (by decide) rfl (fun ls hl => ?_)
      refine lv_aload_n hx hb dX8_setPawl_41 rfl (lv_at hl 1 rfl) ?_
      refine va_get (D := D) (ci := 8) (v := .ref (a 1)) (C := RX8) (T := TX8) (N := 13) hx hb hts wsI_X8 hown hK hP 0 rfl rfl 0 (by decide) (hts _ w_fl_X8_7) (fun _ h9 => h9) rfl dX8_setPawl_42 ?_
      refine lv_iconst (v := 3) hx hb dX8_setPawl_45 (by decide) ?_
      refine lv_iload_n hx hb dX8_setPawl_46 rfl (lv_at hl 2 rfl) ?_
      refine z_iast (k := 3) hx hb hK hP hD hS 1 rfl (by decide) (by first | decide | omega) dX8_setPawl_47 (fun H locs hP hD hS => ?_)
      have hP : va_P D vwCl (refW cs a (upd V 0 (nI (min (sn + 1) 4))) (zU (zU G 0 (upd (G 0) 3 dw)) 1 (svF sn (G 1) (G 0)))) H := hP
      have hD : va_D A (refW cs a (upd V 0 (nI (min (sn + 1) 4))) (zU (zU G 0 (upd (G 0) 3 dw)) 1 (svF sn (G 1) (G 0)))) := hD
      refine lv_aload_n hx hb dX8_setPawl_48 rfl (lv_at hl 1 rfl) ?_
      refine va_get (D := D) (ci := 8) (v := .ref (a 1)) (C := RX8) (T := TX8) (N := 13) hx hb hts wsI_X8 hown hK hP 0 rfl rfl 0 (by decide) (hts _ w_fl_X8_7) (fun _ h9 => h9) rfl dX8_setPawl_49 ?_
      refine lv_iconst (v := 4) hx hb dX8_setPawl_52 (by decide) ?_
      refine lv_iload_n hx hb dX8_setPawl_53 rfl (lv_at hl 3 rfl) ?_
      refine z_iast (k := 4) hx hb hK hP hD hS 1 rfl (by decide) (by first | decide | omega) dX8_setPawl_54 (fun H locs hP hD hS => ?_)
      have hP : va_P D vwCl (refW cs a (upd V 0 (nI (min (sn + 1) 4))) (zU (zU G 0 (upd (upd (G 0) 3 dw) 4 le)) 1 (svF sn (G 1) (G 0)))) H := hP
      have hD : va_D A (refW cs a (upd V 0 (nI (min (sn + 1) 4))) (zU (zU G 0 (upd (upd (G 0) 3 dw) 4 le)) 1 (svF sn (G 1) (G 0)))) := hD
      refine lv_aload_n hx hb dX8_setPawl_55 rfl (lv_at hl 1 rfl) ?_
      refine lv_iload_n hx hb dX8_setPawl_56 rfl (lv_at hl 0 rfl) ?_
      refine z_callV (wn := (refW cs a (upd (upd V 0 (nI (min (sn + 1) 4))) 1 0) (zU (zU G 0 (upd (upd (G 0) 3 dw) 4 le)) 1 (svF sn (G 1) (G 0))))) ⟨hx, hb, hml, hown, hts⟩ zY_X8_fine w_im_yX8_fine w_se_yX8_fine w_ml_X8_65 [.int ((G 0) 3)] [] (c_X8_fine l D cs a (upd V 0 (nI (min (sn + 1) 4))) (zU (zU G 0 (upd (upd (G 0) 3 dw) 4 le)) 1 (svF sn (G 1) (G 0))) ((G 0) 3)) hE hK hA hP hD hS [0, 1, 2, 3, 4, 5, 6] rfl rfl rfl rfl 8 rfl rfl rfl rfl hl.1 (Nat.le_of_ble_eq_true rfl) ⟨Nat.le_of_ble_eq_true rfl, Nat.le_of_ble_eq_true rfl⟩ ⟨Nat.le_of_ble_eq_true rfl, Nat.le_of_ble_eq_true rfl⟩ dX8_setPawl_57 (fun H locs hP hD hS => ?_)
      exact z_iret hx hb hr hlk hK hP hD hS dX8_setPawl_60 rfl rfl
    · skip
      have c_2 := bI_0.mp c_2
      exact absurd q1 c_2

set_option maxHeartbeats 4000000 in
set_option maxRecDepth 100000 in
theorem c_X8_setCylinder_t1 (l : Launch) (D : va_G) (cs : zCs) (a : Nat → Nat) (V : Nat → Int32) (G : Nat → Nat → Int32) (sn : Nat) (cy sz sp lk : Int32) (hsn : V 0 = nI sn) (hs4 : sn ≤ 4) (hbad : ¬ (0 ≤ cy ∧ cy ≤ 4)) : zM l D cs yX8_setCylinder cX8_setCylinder 5 (some FieldType.int) 2 45 0 0 [.ref (a 0), .int cy, .int sz, .int sp, .int lk] (refW cs a V G) (some (.int 0)) (refW cs a (upd V 1 1) G) := by
  refine zM.of (own := RX8) (by decide) (Nat.le_of_ble_eq_true rfl) rfl ?_
  intro pq eq s mq below meth cq A ls hx hb hr hml hown hts hlk hnm hE hK hA hP hD hS hl
  have hl : lv_has ls 5 [(0, .ref (a 0)), (1, .int cy), (2, .int sz), (3, .int sp), (4, .int lk)] := hl
  refine lv_iload_n hx hb dX8_setCylinder_0 rfl (lv_at hl 1 rfl) ?_
  refine z_callS (wn := (refW cs a V G)) ⟨hx, hb, hml, hown, hts⟩ zY_X8_isCylinder w_st_yX8_isCylinder w_ml_X8_48 [.int cy] [] (c_X8_isCylinder l D cs cy) hE hK hA hP hD hS [] rfl rfl rfl z_ins_nil rfl hl.1 (Nat.le_of_ble_eq_true rfl) ⟨Nat.le_of_ble_eq_true rfl, Nat.le_of_ble_eq_true rfl⟩ ⟨Nat.le_of_ble_eq_true rfl, Nat.le_of_ble_eq_true rfl⟩ dX8_setCylinder_1 (fun H locs hP hD hS => ?_)
  refine lv_if_ne (tgt := 13) hx hb dX8_setCylinder_4 (by decide) (fun c_1 => ?_) (fun c_1 => ?_)
  · skip
    have c_1 := bI_n0 c_1
    exact absurd c_1 hbad
  · skip
    have c_1 := bI_0.mp c_1
    refine lv_aload_n hx hb dX8_setCylinder_7 rfl (lv_at hl 0 rfl) ?_
    refine lv_iconst (v := 1) hx hb dX8_setCylinder_8 (by decide) ?_
    refine z_callV (wn := (refW cs a (upd V 1 1) G)) ⟨hx, hb, hml, hown, hts⟩ zY_X8_throwing w_im_yX8_throwing w_se_yX8_throwing w_ml_X8_55 [.int 1] [] (c_X8_throwing l D cs a V G 1) hE hK hA hP hD hS [0, 1, 2, 3, 4, 5, 6] rfl rfl rfl rfl 8 rfl rfl rfl rfl hl.1 (Nat.le_of_ble_eq_true rfl) ⟨Nat.le_of_ble_eq_true rfl, Nat.le_of_ble_eq_true rfl⟩ ⟨Nat.le_of_ble_eq_true rfl, Nat.le_of_ble_eq_true rfl⟩ dX8_setCylinder_9 (fun H locs hP hD hS => ?_)
    exact z_iret hx hb hr hlk hK hP hD hS dX8_setCylinder_12 rfl rfl

set_option maxHeartbeats 4000000 in
set_option maxRecDepth 100000 in
theorem c_X8_setCylinder_t2 (l : Launch) (D : va_G) (cs : zCs) (a : Nat → Nat) (V : Nat → Int32) (G : Nat → Nat → Int32) (sn : Nat) (cy sz sp lk : Int32) (hsn : V 0 = nI sn) (hs4 : sn ≤ 4) (q0 : 0 ≤ cy ∧ cy ≤ 4) (hbad : ¬ ((1 ≤ sz ∧ sz ≤ 9) ∧ (1 ≤ sp ∧ sp ≤ 50) ∧ (0 ≤ lk ∧ lk ≤ 20))) : zM l D cs yX8_setCylinder cX8_setCylinder 5 (some FieldType.int) 2 45 0 0 [.ref (a 0), .int cy, .int sz, .int sp, .int lk] (refW cs a V G) (some (.int 0)) (refW cs a (upd V 1 2) G) := by
  refine zM.of (own := RX8) (by decide) (Nat.le_of_ble_eq_true rfl) rfl ?_
  intro pq eq s mq below meth cq A ls hx hb hr hml hown hts hlk hnm hE hK hA hP hD hS hl
  have hl : lv_has ls 5 [(0, .ref (a 0)), (1, .int cy), (2, .int sz), (3, .int sp), (4, .int lk)] := hl
  refine lv_iload_n hx hb dX8_setCylinder_0 rfl (lv_at hl 1 rfl) ?_
  refine z_callS (wn := (refW cs a V G)) ⟨hx, hb, hml, hown, hts⟩ zY_X8_isCylinder w_st_yX8_isCylinder w_ml_X8_48 [.int cy] [] (c_X8_isCylinder l D cs cy) hE hK hA hP hD hS [] rfl rfl rfl z_ins_nil rfl hl.1 (Nat.le_of_ble_eq_true rfl) ⟨Nat.le_of_ble_eq_true rfl, Nat.le_of_ble_eq_true rfl⟩ ⟨Nat.le_of_ble_eq_true rfl, Nat.le_of_ble_eq_true rfl⟩ dX8_setCylinder_1 (fun H locs hP hD hS => ?_)
  refine lv_if_ne (tgt := 13) hx hb dX8_setCylinder_4 (by decide) (fun c_1 => ?_) (fun c_1 => ?_)
  · skip
    have c_1 := bI_n0 c_1
    refine lv_iload_n hx hb dX8_setCylinder_13 rfl (lv_at hl 2 rfl) ?_
    refine lv_i2l (v := sz.toInt64) hx hb dX8_setCylinder_14 rfl ?_
    refine lv_lconst (v := 1) hx hb dX8_setCylinder_15 (by decide) ?_
    refine lv_ldc2 (v := 9) hx hb hown (hts _ w_ct_X8_72) dX8_setCylinder_16 ?_
    refine z_callS (wn := (refW cs a V G)) ⟨hx, hb, hml, hown, hts⟩ zY_X8_in w_st_yX8_in w_ml_X8_40 [.long sz.toInt64, .long 1, .long 9] [] (c_X8_in l D cs sz.toInt64 1 9) hE hK hA hP hD hS [] rfl rfl rfl z_ins_nil rfl hl.1 (Nat.le_of_ble_eq_true rfl) ⟨Nat.le_of_ble_eq_true rfl, Nat.le_of_ble_eq_true rfl⟩ ⟨Nat.le_of_ble_eq_true rfl, Nat.le_of_ble_eq_true rfl⟩ dX8_setCylinder_19 (fun H locs hP hD hS => ?_)
    refine z_top (y := bI (1 ≤ sz ∧ sz ≤ 9)) (bI_congr (in64 (by decide) (by decide))) ?_
    refine lv_if_eq (tgt := 50) hx hb dX8_setCylinder_22 (by decide) (fun c_2 => ?_) (fun c_2 => ?_)
    · skip
      have c_2 := bI_0.mp c_2
      refine lv_aload_n hx hb dX8_setCylinder_50 rfl (lv_at hl 0 rfl) ?_
      refine lv_iconst (v := 2) hx hb dX8_setCylinder_51 (by decide) ?_
      refine z_callV (wn := (refW cs a (upd V 1 2) G)) ⟨hx, hb, hml, hown, hts⟩ zY_X8_throwing w_im_yX8_throwing w_se_yX8_throwing w_ml_X8_55 [.int 2] [] (c_X8_throwing l D cs a V G 2) hE hK hA hP hD hS [0, 1, 2, 3, 4, 5, 6] rfl rfl rfl rfl 8 rfl rfl rfl rfl hl.1 (Nat.le_of_ble_eq_true rfl) ⟨Nat.le_of_ble_eq_true rfl, Nat.le_of_ble_eq_true rfl⟩ ⟨Nat.le_of_ble_eq_true rfl, Nat.le_of_ble_eq_true rfl⟩ dX8_setCylinder_52 (fun H locs hP hD hS => ?_)
      exact z_iret hx hb hr hlk hK hP hD hS dX8_setCylinder_55 rfl rfl
    · skip
      have c_2 := bI_n0 c_2
      refine lv_iload_n hx hb dX8_setCylinder_25 rfl (lv_at hl 3 rfl) ?_
      refine lv_i2l (v := sp.toInt64) hx hb dX8_setCylinder_26 rfl ?_
      refine lv_lconst (v := 1) hx hb dX8_setCylinder_27 (by decide) ?_
      refine lv_ldc2 (v := 50) hx hb hown (hts _ w_ct_X8_74) dX8_setCylinder_28 ?_
      refine z_callS (wn := (refW cs a V G)) ⟨hx, hb, hml, hown, hts⟩ zY_X8_in w_st_yX8_in w_ml_X8_40 [.long sp.toInt64, .long 1, .long 50] [] (c_X8_in l D cs sp.toInt64 1 50) hE hK hA hP hD hS [] rfl rfl rfl z_ins_nil rfl hl.1 (Nat.le_of_ble_eq_true rfl) ⟨Nat.le_of_ble_eq_true rfl, Nat.le_of_ble_eq_true rfl⟩ ⟨Nat.le_of_ble_eq_true rfl, Nat.le_of_ble_eq_true rfl⟩ dX8_setCylinder_31 (fun H locs hP hD hS => ?_)
      refine z_top (y := bI (1 ≤ sp ∧ sp ≤ 50)) (bI_congr (in64 (by decide) (by decide))) ?_
      refine lv_if_eq (tgt := 50) hx hb dX8_setCylinder_34 (by decide) (fun c_3 => ?_) (fun c_3 => ?_)
      · skip
        have c_3 := bI_0.mp c_3
        refine lv_aload_n hx hb dX8_setCylinder_50 rfl (lv_at hl 0 rfl) ?_
        refine lv_iconst (v := 2) hx hb dX8_setCylinder_51 (by decide) ?_
        refine z_callV (wn := (refW cs a (upd V 1 2) G)) ⟨hx, hb, hml, hown, hts⟩ zY_X8_throwing w_im_yX8_throwing w_se_yX8_throwing w_ml_X8_55 [.int 2] [] (c_X8_throwing l D cs a V G 2) hE hK hA hP hD hS [0, 1, 2, 3, 4, 5, 6] rfl rfl rfl rfl 8 rfl rfl rfl rfl hl.1 (Nat.le_of_ble_eq_true rfl) ⟨Nat.le_of_ble_eq_true rfl, Nat.le_of_ble_eq_true rfl⟩ ⟨Nat.le_of_ble_eq_true rfl, Nat.le_of_ble_eq_true rfl⟩ dX8_setCylinder_52 (fun H locs hP hD hS => ?_)
        exact z_iret hx hb hr hlk hK hP hD hS dX8_setCylinder_55 rfl rfl
      · skip
        have c_3 := bI_n0 c_3
        refine lv_iload hx hb dX8_setCylinder_37 (lv_at hl 4 rfl) ?_
        refine lv_i2l (v := lk.toInt64) hx hb dX8_setCylinder_39 rfl ?_
        refine lv_lconst (v := 0) hx hb dX8_setCylinder_40 (by decide) ?_
        refine lv_ldc2 (v := 20) hx hb hown (hts _ w_ct_X8_68) dX8_setCylinder_41 ?_
        refine z_callS (wn := (refW cs a V G)) ⟨hx, hb, hml, hown, hts⟩ zY_X8_in w_st_yX8_in w_ml_X8_40 [.long lk.toInt64, .long 0, .long 20] [] (c_X8_in l D cs lk.toInt64 0 20) hE hK hA hP hD hS [] rfl rfl rfl z_ins_nil rfl hl.1 (Nat.le_of_ble_eq_true rfl) ⟨Nat.le_of_ble_eq_true rfl, Nat.le_of_ble_eq_true rfl⟩ ⟨Nat.le_of_ble_eq_true rfl, Nat.le_of_ble_eq_true rfl⟩ dX8_setCylinder_44 (fun H locs hP hD hS => ?_)
        refine z_top (y := bI (0 ≤ lk ∧ lk ≤ 20)) (bI_congr (in64 (by decide) (by decide))) ?_
        refine lv_if_ne (tgt := 56) hx hb dX8_setCylinder_47 (by decide) (fun c_4 => ?_) (fun c_4 => ?_)
        · skip
          have c_4 := bI_n0 c_4
          exact absurd ⟨c_2, c_3, c_4⟩ hbad
        · skip
          have c_4 := bI_0.mp c_4
          refine lv_aload_n hx hb dX8_setCylinder_50 rfl (lv_at hl 0 rfl) ?_
          refine lv_iconst (v := 2) hx hb dX8_setCylinder_51 (by decide) ?_
          refine z_callV (wn := (refW cs a (upd V 1 2) G)) ⟨hx, hb, hml, hown, hts⟩ zY_X8_throwing w_im_yX8_throwing w_se_yX8_throwing w_ml_X8_55 [.int 2] [] (c_X8_throwing l D cs a V G 2) hE hK hA hP hD hS [0, 1, 2, 3, 4, 5, 6] rfl rfl rfl rfl 8 rfl rfl rfl rfl hl.1 (Nat.le_of_ble_eq_true rfl) ⟨Nat.le_of_ble_eq_true rfl, Nat.le_of_ble_eq_true rfl⟩ ⟨Nat.le_of_ble_eq_true rfl, Nat.le_of_ble_eq_true rfl⟩ dX8_setCylinder_52 (fun H locs hP hD hS => ?_)
          exact z_iret hx hb hr hlk hK hP hD hS dX8_setCylinder_55 rfl rfl
  · skip
    have c_1 := bI_0.mp c_1
    exact absurd q0 c_1

set_option maxHeartbeats 4000000 in
set_option maxRecDepth 100000 in
theorem c_X8_setCylinder_ok (l : Launch) (D : va_G) (cs : zCs) (a : Nat → Nat) (V : Nat → Int32) (G : Nat → Nat → Int32) (sn : Nat) (cy sz sp lk : Int32) (hsn : V 0 = nI sn) (hs4 : sn ≤ 4) (q0 : 0 ≤ cy ∧ cy ≤ 4) (q1 : 1 ≤ sz ∧ sz ≤ 9) (q2 : 1 ≤ sp ∧ sp ≤ 50) (q3 : 0 ≤ lk ∧ lk ≤ 20) : zM l D cs yX8_setCylinder cX8_setCylinder 5 (some FieldType.int) 2 45 0 0 [.ref (a 0), .int cy, .int sz, .int sp, .int lk] (refW cs a V G) (some (.int ((upd (upd (upd (G 0) (21 + 6 * nN cy + 1) sz) (21 + 6 * nN cy + 2) sp) (21 + 6 * nN cy + 3) lk) (21 + 6 * nN cy)))) (refW cs a (upd (upd V 0 (nI (min (sn + 1) 4))) 1 0) (zU (zU G 0 (upd (upd (upd (G 0) (21 + 6 * nN cy + 1) sz) (21 + 6 * nN cy + 2) sp) (21 + 6 * nN cy + 3) lk)) 1 (svF sn (G 1) (G 0)))) := by
  refine zM.of (own := RX8) (by decide) (Nat.le_of_ble_eq_true rfl) rfl ?_
  intro pq eq s mq below meth cq A ls hx hb hr hml hown hts hlk hnm hE hK hA hP hD hS hl
  have hl : lv_has ls 5 [(0, .ref (a 0)), (1, .int cy), (2, .int sz), (3, .int sp), (4, .int lk)] := hl
  refine lv_iload_n hx hb dX8_setCylinder_0 rfl (lv_at hl 1 rfl) ?_
  refine z_callS (wn := (refW cs a V G)) ⟨hx, hb, hml, hown, hts⟩ zY_X8_isCylinder w_st_yX8_isCylinder w_ml_X8_48 [.int cy] [] (c_X8_isCylinder l D cs cy) hE hK hA hP hD hS [] rfl rfl rfl z_ins_nil rfl hl.1 (Nat.le_of_ble_eq_true rfl) ⟨Nat.le_of_ble_eq_true rfl, Nat.le_of_ble_eq_true rfl⟩ ⟨Nat.le_of_ble_eq_true rfl, Nat.le_of_ble_eq_true rfl⟩ dX8_setCylinder_1 (fun H locs hP hD hS => ?_)
  refine lv_if_ne (tgt := 13) hx hb dX8_setCylinder_4 (by decide) (fun c_1 => ?_) (fun c_1 => ?_)
  · skip
    have c_1 := bI_n0 c_1
    refine lv_iload_n hx hb dX8_setCylinder_13 rfl (lv_at hl 2 rfl) ?_
    refine lv_i2l (v := sz.toInt64) hx hb dX8_setCylinder_14 rfl ?_
    refine lv_lconst (v := 1) hx hb dX8_setCylinder_15 (by decide) ?_
    refine lv_ldc2 (v := 9) hx hb hown (hts _ w_ct_X8_72) dX8_setCylinder_16 ?_
    refine z_callS (wn := (refW cs a V G)) ⟨hx, hb, hml, hown, hts⟩ zY_X8_in w_st_yX8_in w_ml_X8_40 [.long sz.toInt64, .long 1, .long 9] [] (c_X8_in l D cs sz.toInt64 1 9) hE hK hA hP hD hS [] rfl rfl rfl z_ins_nil rfl hl.1 (Nat.le_of_ble_eq_true rfl) ⟨Nat.le_of_ble_eq_true rfl, Nat.le_of_ble_eq_true rfl⟩ ⟨Nat.le_of_ble_eq_true rfl, Nat.le_of_ble_eq_true rfl⟩ dX8_setCylinder_19 (fun H locs hP hD hS => ?_)
    refine z_top (y := bI (1 ≤ sz ∧ sz ≤ 9)) (bI_congr (in64 (by decide) (by decide))) ?_
    refine lv_if_eq (tgt := 50) hx hb dX8_setCylinder_22 (by decide) (fun c_2 => ?_) (fun c_2 => ?_)
    · skip
      have c_2 := bI_0.mp c_2
      exact absurd q1 c_2
    · skip
      have c_2 := bI_n0 c_2
      refine lv_iload_n hx hb dX8_setCylinder_25 rfl (lv_at hl 3 rfl) ?_
      refine lv_i2l (v := sp.toInt64) hx hb dX8_setCylinder_26 rfl ?_
      refine lv_lconst (v := 1) hx hb dX8_setCylinder_27 (by decide) ?_
      refine lv_ldc2 (v := 50) hx hb hown (hts _ w_ct_X8_74) dX8_setCylinder_28 ?_
      refine z_callS (wn := (refW cs a V G)) ⟨hx, hb, hml, hown, hts⟩ zY_X8_in w_st_yX8_in w_ml_X8_40 [.long sp.toInt64, .long 1, .long 50] [] (c_X8_in l D cs sp.toInt64 1 50) hE hK hA hP hD hS [] rfl rfl rfl z_ins_nil rfl hl.1 (Nat.le_of_ble_eq_true rfl) ⟨Nat.le_of_ble_eq_true rfl, Nat.le_of_ble_eq_true rfl⟩ ⟨Nat.le_of_ble_eq_true rfl, Nat.le_of_ble_eq_true rfl⟩ dX8_setCylinder_31 (fun H locs hP hD hS => ?_)
      refine z_top (y := bI (1 ≤ sp ∧ sp ≤ 50)) (bI_congr (in64 (by decide) (by decide))) ?_
      refine lv_if_eq (tgt := 50) hx hb dX8_setCylinder_34 (by decide) (fun c_3 => ?_) (fun c_3 => ?_)
      · skip
        have c_3 := bI_0.mp c_3
        exact absurd q2 c_3
      · skip
        have c_3 := bI_n0 c_3
        refine lv_iload hx hb dX8_setCylinder_37 (lv_at hl 4 rfl) ?_
        refine lv_i2l (v := lk.toInt64) hx hb dX8_setCylinder_39 rfl ?_
        refine lv_lconst (v := 0) hx hb dX8_setCylinder_40 (by decide) ?_
        refine lv_ldc2 (v := 20) hx hb hown (hts _ w_ct_X8_68) dX8_setCylinder_41 ?_
        refine z_callS (wn := (refW cs a V G)) ⟨hx, hb, hml, hown, hts⟩ zY_X8_in w_st_yX8_in w_ml_X8_40 [.long lk.toInt64, .long 0, .long 20] [] (c_X8_in l D cs lk.toInt64 0 20) hE hK hA hP hD hS [] rfl rfl rfl z_ins_nil rfl hl.1 (Nat.le_of_ble_eq_true rfl) ⟨Nat.le_of_ble_eq_true rfl, Nat.le_of_ble_eq_true rfl⟩ ⟨Nat.le_of_ble_eq_true rfl, Nat.le_of_ble_eq_true rfl⟩ dX8_setCylinder_44 (fun H locs hP hD hS => ?_)
        refine z_top (y := bI (0 ≤ lk ∧ lk ≤ 20)) (bI_congr (in64 (by decide) (by decide))) ?_
        refine lv_if_ne (tgt := 56) hx hb dX8_setCylinder_47 (by decide) (fun c_4 => ?_) (fun c_4 => ?_)
        · skip
          have c_4 := bI_n0 c_4
          obtain ⟨k, hk, rfl⟩ := z_nat4 c_1
          have hNk := nN_nI (k := k) (by omega)
          refine lv_aload_n hx hb dX8_setCylinder_56 rfl (lv_at hl 0 rfl) ?_
          refine z_callV (wn := (refW cs a (upd V 0 (nI (min (sn + 1) 4))) (zU G 1 (svF sn (G 1) (G 0))))) ⟨hx, hb, hml, hown, hts⟩ zY_X8_save w_im_yX8_save w_se_yX8_save w_ml_X8_59 [] [] (c_X8_save l D cs a V G sn hsn hs4) hE hK hA hP hD hS [0, 1, 2, 3, 4, 5, 6] rfl rfl rfl rfl 8 rfl rfl rfl rfl hl.1 (Nat.le_of_ble_eq_true rfl) ⟨Nat.le_of_ble_eq_true rfl, Nat.le_of_ble_eq_true rfl⟩ ⟨Nat.le_of_ble_eq_true rfl, Nat.le_of_ble_eq_true rfl⟩ dX8_setCylinder_57 (fun H locs hP hD hS => ?_)
          refine lv_aload_n hx hb dX8_setCylinder_60 rfl (lv_at hl 0 rfl) ?_
          refine va_get (D := D) (ci := 8) (v := .ref (a 1)) (C := RX8) (T := TX8) (N := 13) hx hb hts wsI_X8 hown hK hP 0 rfl rfl 0 (by decide) (hts _ w_fl_X8_7) (fun _ h9 => h9) rfl dX8_setCylinder_61 ?_
          refine lv_bipush (v := 21) hx hb dX8_setCylinder_64 (by decide) ?_
          refine lv_bipush (v := 6) hx hb dX8_setCylinder_66 (by decide) ?_
          refine lv_iload_n hx hb dX8_setCylinder_68 rfl (lv_at hl 1 rfl) ?_
          refine lv_imul hx hb dX8_setCylinder_69 ?_
          refine z_top (y := nI (6 * k)) (pk_mul 6 k) ?_
          refine lv_iadd hx hb dX8_setCylinder_70 ?_
          refine z_top (y := nI (21 + (6 * k))) (nI_add 21 (6 * k)) ?_
          refine lv_iconst (v := 1) hx hb dX8_setCylinder_71 (by decide) ?_
          refine lv_iadd hx hb dX8_setCylinder_72 ?_
          refine z_top (y := nI ((21 + (6 * k)) + 1)) (nI_add (21 + (6 * k)) 1) ?_
          refine lv_iload_n hx hb dX8_setCylinder_73 rfl (lv_at hl 2 rfl) ?_
          refine z_iast (k := (21 + (6 * k)) + 1) hx hb hK hP hD hS 1 rfl (by omega) (by first | decide | omega) dX8_setCylinder_74 (fun H locs hP hD hS => ?_)
          have hP : va_P D vwCl (refW cs a (upd V 0 (nI (min (sn + 1) 4))) (zU (zU G 0 (upd (G 0) ((21 + (6 * k)) + 1) sz)) 1 (svF sn (G 1) (G 0)))) H := hP
          have hD : va_D A (refW cs a (upd V 0 (nI (min (sn + 1) 4))) (zU (zU G 0 (upd (G 0) ((21 + (6 * k)) + 1) sz)) 1 (svF sn (G 1) (G 0)))) := hD
          refine lv_aload_n hx hb dX8_setCylinder_75 rfl (lv_at hl 0 rfl) ?_
          refine va_get (D := D) (ci := 8) (v := .ref (a 1)) (C := RX8) (T := TX8) (N := 13) hx hb hts wsI_X8 hown hK hP 0 rfl rfl 0 (by decide) (hts _ w_fl_X8_7) (fun _ h9 => h9) rfl dX8_setCylinder_76 ?_
          refine lv_bipush (v := 21) hx hb dX8_setCylinder_79 (by decide) ?_
          refine lv_bipush (v := 6) hx hb dX8_setCylinder_81 (by decide) ?_
          refine lv_iload_n hx hb dX8_setCylinder_83 rfl (lv_at hl 1 rfl) ?_
          refine lv_imul hx hb dX8_setCylinder_84 ?_
          refine z_top (y := nI (6 * k)) (pk_mul 6 k) ?_
          refine lv_iadd hx hb dX8_setCylinder_85 ?_
          refine z_top (y := nI (21 + (6 * k))) (nI_add 21 (6 * k)) ?_
          refine lv_iconst (v := 2) hx hb dX8_setCylinder_86 (by decide) ?_
          refine lv_iadd hx hb dX8_setCylinder_87 ?_
          refine z_top (y := nI ((21 + (6 * k)) + 2)) (nI_add (21 + (6 * k)) 2) ?_
          refine lv_iload_n hx hb dX8_setCylinder_88 rfl (lv_at hl 3 rfl) ?_
          refine z_iast (k := (21 + (6 * k)) + 2) hx hb hK hP hD hS 1 rfl (by omega) (by first | decide | omega) dX8_setCylinder_89 (fun H locs hP hD hS => ?_)
          have hP : va_P D vwCl (refW cs a (upd V 0 (nI (min (sn + 1) 4))) (zU (zU G 0 (upd (upd (G 0) ((21 + (6 * k)) + 1) sz) ((21 + (6 * k)) + 2) sp)) 1 (svF sn (G 1) (G 0)))) H := hP
          have hD : va_D A (refW cs a (upd V 0 (nI (min (sn + 1) 4))) (zU (zU G 0 (upd (upd (G 0) ((21 + (6 * k)) + 1) sz) ((21 + (6 * k)) + 2) sp)) 1 (svF sn (G 1) (G 0)))) := hD
          refine lv_aload_n hx hb dX8_setCylinder_90 rfl (lv_at hl 0 rfl) ?_
          refine va_get (D := D) (ci := 8) (v := .ref (a 1)) (C := RX8) (T := TX8) (N := 13) hx hb hts wsI_X8 hown hK hP 0 rfl rfl 0 (by decide) (hts _ w_fl_X8_7) (fun _ h9 => h9) rfl dX8_setCylinder_91 ?_
          refine lv_bipush (v := 21) hx hb dX8_setCylinder_94 (by decide) ?_
          refine lv_bipush (v := 6) hx hb dX8_setCylinder_96 (by decide) ?_
          refine lv_iload_n hx hb dX8_setCylinder_98 rfl (lv_at hl 1 rfl) ?_
          refine lv_imul hx hb dX8_setCylinder_99 ?_
          refine z_top (y := nI (6 * k)) (pk_mul 6 k) ?_
          refine lv_iadd hx hb dX8_setCylinder_100 ?_
          refine z_top (y := nI (21 + (6 * k))) (nI_add 21 (6 * k)) ?_
          refine lv_iconst (v := 3) hx hb dX8_setCylinder_101 (by decide) ?_
          refine lv_iadd hx hb dX8_setCylinder_102 ?_
          refine z_top (y := nI ((21 + (6 * k)) + 3)) (nI_add (21 + (6 * k)) 3) ?_
          refine lv_iload hx hb dX8_setCylinder_103 (lv_at hl 4 rfl) ?_
          refine z_iast (k := (21 + (6 * k)) + 3) hx hb hK hP hD hS 1 rfl (by omega) (by first | decide | omega) dX8_setCylinder_105 (fun H locs hP hD hS => ?_)
          have hP : va_P D vwCl (refW cs a (upd V 0 (nI (min (sn + 1) 4))) (zU (zU G 0 (upd (upd (upd (G 0) ((21 + (6 * k)) + 1) sz) ((21 + (6 * k)) + 2) sp) ((21 + (6 * k)) + 3) lk)) 1 (svF sn (G 1) (G 0)))) H := hP
          have hD : va_D A (refW cs a (upd V 0 (nI (min (sn + 1) 4))) (zU (zU G 0 (upd (upd (upd (G 0) ((21 + (6 * k)) + 1) sz) ((21 + (6 * k)) + 2) sp) ((21 + (6 * k)) + 3) lk)) 1 (svF sn (G 1) (G 0)))) := hD
          refine lv_aload_n hx hb dX8_setCylinder_106 rfl (lv_at hl 0 rfl) ?_
          refine lv_aload_n hx hb dX8_setCylinder_107 rfl (lv_at hl 0 rfl) ?_
          refine lv_iload_n hx hb dX8_setCylinder_108 rfl (lv_at hl 1 rfl) ?_
          refine z_callV (wn := (refW cs a (upd V 0 (nI (min (sn + 1) 4))) (zU (zU G 0 (upd (upd (upd (G 0) ((21 + (6 * k)) + 1) sz) ((21 + (6 * k)) + 2) sp) ((21 + (6 * k)) + 3) lk)) 1 (svF sn (G 1) (G 0))))) ⟨hx, hb, hml, hown, hts⟩ zY_X8_out w_im_yX8_out w_se_yX8_out w_ml_X8_76 [.int (nI k)] [.ref (a 0)] (c_X8_out l D cs a (upd V 0 (nI (min (sn + 1) 4))) (zU (zU G 0 (upd (upd (upd (G 0) ((21 + (6 * k)) + 1) sz) ((21 + (6 * k)) + 2) sp) ((21 + (6 * k)) + 3) lk)) 1 (svF sn (G 1) (G 0))) k hk) hE hK hA hP hD hS [0, 1, 2, 3, 4, 5, 6] rfl rfl rfl rfl 8 rfl rfl rfl rfl hl.1 (Nat.le_of_ble_eq_true rfl) ⟨Nat.le_of_ble_eq_true rfl, Nat.le_of_ble_eq_true rfl⟩ ⟨Nat.le_of_ble_eq_true rfl, Nat.le_of_ble_eq_true rfl⟩ dX8_setCylinder_109 (fun H locs hP hD hS => ?_)
          refine z_callV (wn := (refW cs a (upd (upd V 0 (nI (min (sn + 1) 4))) 1 0) (zU (zU G 0 (upd (upd (upd (G 0) ((21 + (6 * k)) + 1) sz) ((21 + (6 * k)) + 2) sp) ((21 + (6 * k)) + 3) lk)) 1 (svF sn (G 1) (G 0))))) ⟨hx, hb, hml, hown, hts⟩ zY_X8_fine w_im_yX8_fine w_se_yX8_fine w_ml_X8_65 [.int ((upd (upd (upd (G 0) ((21 + (6 * k)) + 1) sz) ((21 + (6 * k)) + 2) sp) ((21 + (6 * k)) + 3) lk) (21 + 6 * k))] [] (c_X8_fine l D cs a (upd V 0 (nI (min (sn + 1) 4))) (zU (zU G 0 (upd (upd (upd (G 0) ((21 + (6 * k)) + 1) sz) ((21 + (6 * k)) + 2) sp) ((21 + (6 * k)) + 3) lk)) 1 (svF sn (G 1) (G 0))) ((upd (upd (upd (G 0) ((21 + (6 * k)) + 1) sz) ((21 + (6 * k)) + 2) sp) ((21 + (6 * k)) + 3) lk) (21 + 6 * k))) hE hK hA hP hD hS [0, 1, 2, 3, 4, 5, 6] rfl rfl rfl rfl 8 rfl rfl rfl rfl hl.1 (Nat.le_of_ble_eq_true rfl) ⟨Nat.le_of_ble_eq_true rfl, Nat.le_of_ble_eq_true rfl⟩ ⟨Nat.le_of_ble_eq_true rfl, Nat.le_of_ble_eq_true rfl⟩ dX8_setCylinder_112 (fun H locs hP hD hS => ?_)
          exact z_iret hx hb hr hlk hK hP hD hS dX8_setCylinder_115 (by simp only [hNk]) (by simp only [hNk])
        · skip
          have c_4 := bI_0.mp c_4
          exact absurd q3 c_4
  · skip
    have c_1 := bI_0.mp c_1
    exact absurd q0 c_1

set_option maxHeartbeats 4000000 in
set_option maxRecDepth 100000 in
theorem c_X8_setAir_t1 (l : Launch) (D : va_G) (cs : zCs) (a : Nat → Nat) (V : Nat → Int32) (G : Nat → Nat → Int32) (sn : Nat) (ca co : Int32) (hsn : V 0 = nI sn) (hs4 : sn ≤ 4) (hbad : ¬ ((100 ≤ ca ∧ ca ≤ 9999) ∧ (0 ≤ co ∧ co ≤ 500))) : zM l D cs yX8_setAir cX8_setAir 3 (some FieldType.int) 1 25 0 0 [.ref (a 0), .int ca, .int co] (refW cs a V G) (some (.int 0)) (refW cs a (upd V 1 1) G) := by
  refine zM.of (own := RX8) (by decide) (Nat.le_of_ble_eq_true rfl) rfl ?_
  intro pq eq s mq below meth cq A ls hx hb hr hml hown hts hlk hnm hE hK hA hP hD hS hl
  have hl : lv_has ls 3 [(0, .ref (a 0)), (1, .int ca), (2, .int co)] := hl
  refine lv_iload_n hx hb dX8_setAir_0 rfl (lv_at hl 1 rfl) ?_
  refine lv_i2l (v := ca.toInt64) hx hb dX8_setAir_1 rfl ?_
  refine lv_ldc2 (v := 100) hx hb hown (hts _ w_ct_X8_79) dX8_setAir_2 ?_
  refine lv_ldc2 (v := 9999) hx hb hown (hts _ w_ct_X8_81) dX8_setAir_5 ?_
  refine z_callS (wn := (refW cs a V G)) ⟨hx, hb, hml, hown, hts⟩ zY_X8_in w_st_yX8_in w_ml_X8_40 [.long ca.toInt64, .long 100, .long 9999] [] (c_X8_in l D cs ca.toInt64 100 9999) hE hK hA hP hD hS [] rfl rfl rfl z_ins_nil rfl hl.1 (Nat.le_of_ble_eq_true rfl) ⟨Nat.le_of_ble_eq_true rfl, Nat.le_of_ble_eq_true rfl⟩ ⟨Nat.le_of_ble_eq_true rfl, Nat.le_of_ble_eq_true rfl⟩ dX8_setAir_8 (fun H locs hP hD hS => ?_)
  refine z_top (y := bI (100 ≤ ca ∧ ca ≤ 9999)) (bI_congr (in64 (by decide) (by decide))) ?_
  refine lv_if_eq (tgt := 26) hx hb dX8_setAir_11 (by decide) (fun c_1 => ?_) (fun c_1 => ?_)
  · skip
    have c_1 := bI_0.mp c_1
    refine lv_aload_n hx hb dX8_setAir_26 rfl (lv_at hl 0 rfl) ?_
    refine lv_iconst (v := 1) hx hb dX8_setAir_27 (by decide) ?_
    refine z_callV (wn := (refW cs a (upd V 1 1) G)) ⟨hx, hb, hml, hown, hts⟩ zY_X8_throwing w_im_yX8_throwing w_se_yX8_throwing w_ml_X8_55 [.int 1] [] (c_X8_throwing l D cs a V G 1) hE hK hA hP hD hS [0, 1, 2, 3, 4, 5, 6] rfl rfl rfl rfl 8 rfl rfl rfl rfl hl.1 (Nat.le_of_ble_eq_true rfl) ⟨Nat.le_of_ble_eq_true rfl, Nat.le_of_ble_eq_true rfl⟩ ⟨Nat.le_of_ble_eq_true rfl, Nat.le_of_ble_eq_true rfl⟩ dX8_setAir_28 (fun H locs hP hD hS => ?_)
    exact z_iret hx hb hr hlk hK hP hD hS dX8_setAir_31 rfl rfl
  · skip
    have c_1 := bI_n0 c_1
    refine lv_iload_n hx hb dX8_setAir_14 rfl (lv_at hl 2 rfl) ?_
    refine lv_i2l (v := co.toInt64) hx hb dX8_setAir_15 rfl ?_
    refine lv_lconst (v := 0) hx hb dX8_setAir_16 (by decide) ?_
    refine lv_ldc2 (v := 500) hx hb hown (hts _ w_ct_X8_83) dX8_setAir_17 ?_
    refine z_callS (wn := (refW cs a V G)) ⟨hx, hb, hml, hown, hts⟩ zY_X8_in w_st_yX8_in w_ml_X8_40 [.long co.toInt64, .long 0, .long 500] [] (c_X8_in l D cs co.toInt64 0 500) hE hK hA hP hD hS [] rfl rfl rfl z_ins_nil rfl hl.1 (Nat.le_of_ble_eq_true rfl) ⟨Nat.le_of_ble_eq_true rfl, Nat.le_of_ble_eq_true rfl⟩ ⟨Nat.le_of_ble_eq_true rfl, Nat.le_of_ble_eq_true rfl⟩ dX8_setAir_20 (fun H locs hP hD hS => ?_)
    refine z_top (y := bI (0 ≤ co ∧ co ≤ 500)) (bI_congr (in64 (by decide) (by decide))) ?_
    refine lv_if_ne (tgt := 32) hx hb dX8_setAir_23 (by decide) (fun c_2 => ?_) (fun c_2 => ?_)
    · skip
      have c_2 := bI_n0 c_2
      exact absurd ⟨c_1, c_2⟩ hbad
    · skip
      have c_2 := bI_0.mp c_2
      refine lv_aload_n hx hb dX8_setAir_26 rfl (lv_at hl 0 rfl) ?_
      refine lv_iconst (v := 1) hx hb dX8_setAir_27 (by decide) ?_
      refine z_callV (wn := (refW cs a (upd V 1 1) G)) ⟨hx, hb, hml, hown, hts⟩ zY_X8_throwing w_im_yX8_throwing w_se_yX8_throwing w_ml_X8_55 [.int 1] [] (c_X8_throwing l D cs a V G 1) hE hK hA hP hD hS [0, 1, 2, 3, 4, 5, 6] rfl rfl rfl rfl 8 rfl rfl rfl rfl hl.1 (Nat.le_of_ble_eq_true rfl) ⟨Nat.le_of_ble_eq_true rfl, Nat.le_of_ble_eq_true rfl⟩ ⟨Nat.le_of_ble_eq_true rfl, Nat.le_of_ble_eq_true rfl⟩ dX8_setAir_28 (fun H locs hP hD hS => ?_)
      exact z_iret hx hb hr hlk hK hP hD hS dX8_setAir_31 rfl rfl

set_option maxHeartbeats 4000000 in
set_option maxRecDepth 100000 in
theorem c_X8_setAir_ok (l : Launch) (D : va_G) (cs : zCs) (a : Nat → Nat) (V : Nat → Int32) (G : Nat → Nat → Int32) (sn : Nat) (ca co : Int32) (hsn : V 0 = nI sn) (hs4 : sn ≤ 4) (q0 : 100 ≤ ca ∧ ca ≤ 9999) (q1 : 0 ≤ co ∧ co ≤ 500) : zM l D cs yX8_setAir cX8_setAir 3 (some FieldType.int) 1 25 0 0 [.ref (a 0), .int ca, .int co] (refW cs a V G) (some (.int ((rOff (upd (upd (G 0) 6 ca) 7 co)) 5))) (refW cs a (upd (upd V 0 (nI (min (sn + 1) 4))) 1 0) (zU (zU G 0 (rOff (upd (upd (G 0) 6 ca) 7 co))) 1 (svF sn (G 1) (G 0)))) := by
  refine zM.of (own := RX8) (by decide) (Nat.le_of_ble_eq_true rfl) rfl ?_
  intro pq eq s mq below meth cq A ls hx hb hr hml hown hts hlk hnm hE hK hA hP hD hS hl
  have hl : lv_has ls 3 [(0, .ref (a 0)), (1, .int ca), (2, .int co)] := hl
  refine lv_iload_n hx hb dX8_setAir_0 rfl (lv_at hl 1 rfl) ?_
  refine lv_i2l (v := ca.toInt64) hx hb dX8_setAir_1 rfl ?_
  refine lv_ldc2 (v := 100) hx hb hown (hts _ w_ct_X8_79) dX8_setAir_2 ?_
  refine lv_ldc2 (v := 9999) hx hb hown (hts _ w_ct_X8_81) dX8_setAir_5 ?_
  refine z_callS (wn := (refW cs a V G)) ⟨hx, hb, hml, hown, hts⟩ zY_X8_in w_st_yX8_in w_ml_X8_40 [.long ca.toInt64, .long 100, .long 9999] [] (c_X8_in l D cs ca.toInt64 100 9999) hE hK hA hP hD hS [] rfl rfl rfl z_ins_nil rfl hl.1 (Nat.le_of_ble_eq_true rfl) ⟨Nat.le_of_ble_eq_true rfl, Nat.le_of_ble_eq_true rfl⟩ ⟨Nat.le_of_ble_eq_true rfl, Nat.le_of_ble_eq_true rfl⟩ dX8_setAir_8 (fun H locs hP hD hS => ?_)
  refine z_top (y := bI (100 ≤ ca ∧ ca ≤ 9999)) (bI_congr (in64 (by decide) (by decide))) ?_
  refine lv_if_eq (tgt := 26) hx hb dX8_setAir_11 (by decide) (fun c_1 => ?_) (fun c_1 => ?_)
  · skip
    have c_1 := bI_0.mp c_1
    exact absurd q0 c_1
  · skip
    have c_1 := bI_n0 c_1
    refine lv_iload_n hx hb dX8_setAir_14 rfl (lv_at hl 2 rfl) ?_
    refine lv_i2l (v := co.toInt64) hx hb dX8_setAir_15 rfl ?_
    refine lv_lconst (v := 0) hx hb dX8_setAir_16 (by decide) ?_
    refine lv_ldc2 (v := 500) hx hb hown (hts _ w_ct_X8_83) dX8_setAir_17 ?_
    refine z_callS (wn := (refW cs a V G)) ⟨hx, hb, hml, hown, hts⟩ zY_X8_in w_st_yX8_in w_ml_X8_40 [.long co.toInt64, .long 0, .long 500] [] (c_X8_in l D cs co.toInt64 0 500) hE hK hA hP hD hS [] rfl rfl rfl z_ins_nil rfl hl.1 (Nat.le_of_ble_eq_true rfl) ⟨Nat.le_of_ble_eq_true rfl, Nat.le_of_ble_eq_true rfl⟩ ⟨Nat.le_of_ble_eq_true rfl, Nat.le_of_ble_eq_true rfl⟩ dX8_setAir_20 (fun H locs hP hD hS => ?_)
    refine z_top (y := bI (0 ≤ co ∧ co ≤ 500)) (bI_congr (in64 (by decide) (by decide))) ?_
    refine lv_if_ne (tgt := 32) hx hb dX8_setAir_23 (by decide) (fun c_2 => ?_) (fun c_2 => ?_)
    · skip
      have c_2 := bI_n0 c_2
      refine lv_aload_n hx hb dX8_setAir_32 rfl (lv_at hl 0 rfl) ?_
      refine z_callV (wn := (refW cs a (upd V 0 (nI (min (sn + 1) 4))) (zU G 1 (svF sn (G 1) (G 0))))) ⟨hx, hb, hml, hown, hts⟩ zY_X8_save w_im_yX8_save w_se_yX8_save w_ml_X8_59 [] [] (c_X8_save l D cs a V G sn hsn hs4) hE hK hA hP hD hS [0, 1, 2, 3, 4, 5, 6] rfl rfl rfl rfl 8 rfl rfl rfl rfl hl.1 (Nat.le_of_ble_eq_true rfl) ⟨Nat.le_of_ble_eq_true rfl, Nat.le_of_ble_eq_true rfl⟩ ⟨Nat.le_of_ble_eq_true rfl, Nat.le_of_ble_eq_true rfl⟩ dX8_setAir_33 (fun H locs hP hD hS => ?_)
      refine lv_aload_n hx hb dX8_setAir_36 rfl (lv_at hl 0 rfl) ?_
      refine va_get (D := D) (ci := 8) (v := .ref (a 1)) (C := RX8) (T := TX8) (N := 13) hx hb hts wsI_X8 hown hK hP 0 rfl rfl 0 (by decide) (hts _ w_fl_X8_7) (fun _ h9 => h9) rfl dX8_setAir_37 ?_
      refine lv_bipush (v := 6) hx hb dX8_setAir_40 (by decide) ?_
      refine lv_iload_n hx hb dX8_setAir_42 rfl (lv_at hl 1 rfl) ?_
      refine z_iast (k := 6) hx hb hK hP hD hS 1 rfl (by decide) (by first | decide | omega) dX8_setAir_43 (fun H locs hP hD hS => ?_)
      have hP : va_P D vwCl (refW cs a (upd V 0 (nI (min (sn + 1) 4))) (zU (zU G 0 (upd (G 0) 6 ca)) 1 (svF sn (G 1) (G 0)))) H := hP
      have hD : va_D A (refW cs a (upd V 0 (nI (min (sn + 1) 4))) (zU (zU G 0 (upd (G 0) 6 ca)) 1 (svF sn (G 1) (G 0)))) := hD
      refine lv_aload_n hx hb dX8_setAir_44 rfl (lv_at hl 0 rfl) ?_
      refine va_get (D := D) (ci := 8) (v := .ref (a 1)) (C := RX8) (T := TX8) (N := 13) hx hb hts wsI_X8 hown hK hP 0 rfl rfl 0 (by decide) (hts _ w_fl_X8_7) (fun _ h9 => h9) rfl dX8_setAir_45 ?_
      refine lv_bipush (v := 7) hx hb dX8_setAir_48 (by decide) ?_
      refine lv_iload_n hx hb dX8_setAir_50 rfl (lv_at hl 2 rfl) ?_
      refine z_iast (k := 7) hx hb hK hP hD hS 1 rfl (by decide) (by first | decide | omega) dX8_setAir_51 (fun H locs hP hD hS => ?_)
      have hP : va_P D vwCl (refW cs a (upd V 0 (nI (min (sn + 1) 4))) (zU (zU G 0 (upd (upd (G 0) 6 ca) 7 co)) 1 (svF sn (G 1) (G 0)))) H := hP
      have hD : va_D A (refW cs a (upd V 0 (nI (min (sn + 1) 4))) (zU (zU G 0 (upd (upd (G 0) 6 ca) 7 co)) 1 (svF sn (G 1) (G 0)))) := hD
      refine lv_aload_n hx hb dX8_setAir_52 rfl (lv_at hl 0 rfl) ?_
      refine z_callV (wn := (refW cs a (upd V 0 (nI (min (sn + 1) 4))) (zU (zU G 0 (rOff (upd (upd (G 0) 6 ca) 7 co))) 1 (svF sn (G 1) (G 0))))) ⟨hx, hb, hml, hown, hts⟩ zY_X8_letsOff w_im_yX8_letsOff w_se_yX8_letsOff w_ml_X8_85 [] [] (c_X8_letsOff l D cs a (upd V 0 (nI (min (sn + 1) 4))) (zU (zU G 0 (upd (upd (G 0) 6 ca) 7 co)) 1 (svF sn (G 1) (G 0)))) hE hK hA hP hD hS [0, 1, 2, 3, 4, 5, 6] rfl rfl rfl rfl 8 rfl rfl rfl rfl hl.1 (Nat.le_of_ble_eq_true rfl) ⟨Nat.le_of_ble_eq_true rfl, Nat.le_of_ble_eq_true rfl⟩ ⟨Nat.le_of_ble_eq_true rfl, Nat.le_of_ble_eq_true rfl⟩ dX8_setAir_53 (fun H locs hP hD hS => ?_)
      refine lv_aload_n hx hb dX8_setAir_56 rfl (lv_at hl 0 rfl) ?_
      refine lv_aload_n hx hb dX8_setAir_57 rfl (lv_at hl 0 rfl) ?_
      refine va_get (D := D) (ci := 8) (v := .ref (a 1)) (C := RX8) (T := TX8) (N := 13) hx hb hts wsI_X8 hown hK hP 0 rfl rfl 0 (by decide) (hts _ w_fl_X8_7) (fun _ h9 => h9) rfl dX8_setAir_58 ?_
      refine lv_iconst (v := 5) hx hb dX8_setAir_61 (by decide) ?_
      refine z_iald (k := 5) hx hb hK hP 1 rfl (by decide) (by first | decide | omega) dX8_setAir_62 ?_
      refine z_callV (wn := (refW cs a (upd (upd V 0 (nI (min (sn + 1) 4))) 1 0) (zU (zU G 0 (rOff (upd (upd (G 0) 6 ca) 7 co))) 1 (svF sn (G 1) (G 0))))) ⟨hx, hb, hml, hown, hts⟩ zY_X8_fine w_im_yX8_fine w_se_yX8_fine w_ml_X8_65 [.int ((rOff (upd (upd (G 0) 6 ca) 7 co)) 5)] [] (c_X8_fine l D cs a (upd V 0 (nI (min (sn + 1) 4))) (zU (zU G 0 (rOff (upd (upd (G 0) 6 ca) 7 co))) 1 (svF sn (G 1) (G 0))) ((rOff (upd (upd (G 0) 6 ca) 7 co)) 5)) hE hK hA hP hD hS [0, 1, 2, 3, 4, 5, 6] rfl rfl rfl rfl 8 rfl rfl rfl rfl hl.1 (Nat.le_of_ble_eq_true rfl) ⟨Nat.le_of_ble_eq_true rfl, Nat.le_of_ble_eq_true rfl⟩ ⟨Nat.le_of_ble_eq_true rfl, Nat.le_of_ble_eq_true rfl⟩ dX8_setAir_63 (fun H locs hP hD hS => ?_)
      exact z_iret hx hb hr hlk hK hP hD hS dX8_setAir_66 rfl rfl
    · skip
      have c_2 := bI_0.mp c_2
      exact absurd q1 c_2

set_option maxHeartbeats 4000000 in
set_option maxRecDepth 100000 in
theorem c_X8_addGuard_t1 (l : Launch) (D : va_G) (cs : zCs) (a : Nat → Nat) (V : Nat → Int32) (G : Nat → Nat → Int32) (sn : Nat) (g o bd : Int32) (gn : Nat) (hsn : V 0 = nI sn) (hs4 : sn ≤ 4) (h8 : G 0 8 = nI gn) (hg4 : gn ≤ 4) (hbad : ¬ ((0 ≤ g ∧ g ≤ 4) ∧ (0 ≤ o ∧ o ≤ 4))) : zM l D cs yX8_addGuard cX8_addGuard 5 (some FieldType.int) 2 45 0 0 [.ref (a 0), .int g, .int o, .int bd] (refW cs a V G) (some (.int 0)) (refW cs a (upd V 1 1) G) := by
  refine zM.of (own := RX8) (by decide) (Nat.le_of_ble_eq_true rfl) rfl ?_
  intro pq eq s mq below meth cq A ls hx hb hr hml hown hts hlk hnm hE hK hA hP hD hS hl
  have hl : lv_has ls 5 [(0, .ref (a 0)), (1, .int g), (2, .int o), (3, .int bd)] := hl
  refine lv_iload_n hx hb dX8_addGuard_0 rfl (lv_at hl 1 rfl) ?_
  refine z_callS (wn := (refW cs a V G)) ⟨hx, hb, hml, hown, hts⟩ zY_X8_isCylinder w_st_yX8_isCylinder w_ml_X8_48 [.int g] [] (c_X8_isCylinder l D cs g) hE hK hA hP hD hS [] rfl rfl rfl z_ins_nil rfl hl.1 (Nat.le_of_ble_eq_true rfl) ⟨Nat.le_of_ble_eq_true rfl, Nat.le_of_ble_eq_true rfl⟩ ⟨Nat.le_of_ble_eq_true rfl, Nat.le_of_ble_eq_true rfl⟩ dX8_addGuard_1 (fun H locs hP hD hS => ?_)
  refine lv_if_eq (tgt := 14) hx hb dX8_addGuard_4 (by decide) (fun c_1 => ?_) (fun c_1 => ?_)
  · skip
    have c_1 := bI_0.mp c_1
    refine lv_aload_n hx hb dX8_addGuard_14 rfl (lv_at hl 0 rfl) ?_
    refine lv_iconst (v := 1) hx hb dX8_addGuard_15 (by decide) ?_
    refine z_callV (wn := (refW cs a (upd V 1 1) G)) ⟨hx, hb, hml, hown, hts⟩ zY_X8_throwing w_im_yX8_throwing w_se_yX8_throwing w_ml_X8_55 [.int 1] [] (c_X8_throwing l D cs a V G 1) hE hK hA hP hD hS [0, 1, 2, 3, 4, 5, 6] rfl rfl rfl rfl 8 rfl rfl rfl rfl hl.1 (Nat.le_of_ble_eq_true rfl) ⟨Nat.le_of_ble_eq_true rfl, Nat.le_of_ble_eq_true rfl⟩ ⟨Nat.le_of_ble_eq_true rfl, Nat.le_of_ble_eq_true rfl⟩ dX8_addGuard_16 (fun H locs hP hD hS => ?_)
    exact z_iret hx hb hr hlk hK hP hD hS dX8_addGuard_19 rfl rfl
  · skip
    have c_1 := bI_n0 c_1
    refine lv_iload_n hx hb dX8_addGuard_7 rfl (lv_at hl 2 rfl) ?_
    refine z_callS (wn := (refW cs a V G)) ⟨hx, hb, hml, hown, hts⟩ zY_X8_isCylinder w_st_yX8_isCylinder w_ml_X8_48 [.int o] [] (c_X8_isCylinder l D cs o) hE hK hA hP hD hS [] rfl rfl rfl z_ins_nil rfl hl.1 (Nat.le_of_ble_eq_true rfl) ⟨Nat.le_of_ble_eq_true rfl, Nat.le_of_ble_eq_true rfl⟩ ⟨Nat.le_of_ble_eq_true rfl, Nat.le_of_ble_eq_true rfl⟩ dX8_addGuard_8 (fun H locs hP hD hS => ?_)
    refine lv_if_ne (tgt := 20) hx hb dX8_addGuard_11 (by decide) (fun c_2 => ?_) (fun c_2 => ?_)
    · skip
      have c_2 := bI_n0 c_2
      exact absurd ⟨c_1, c_2⟩ hbad
    · skip
      have c_2 := bI_0.mp c_2
      refine lv_aload_n hx hb dX8_addGuard_14 rfl (lv_at hl 0 rfl) ?_
      refine lv_iconst (v := 1) hx hb dX8_addGuard_15 (by decide) ?_
      refine z_callV (wn := (refW cs a (upd V 1 1) G)) ⟨hx, hb, hml, hown, hts⟩ zY_X8_throwing w_im_yX8_throwing w_se_yX8_throwing w_ml_X8_55 [.int 1] [] (c_X8_throwing l D cs a V G 1) hE hK hA hP hD hS [0, 1, 2, 3, 4, 5, 6] rfl rfl rfl rfl 8 rfl rfl rfl rfl hl.1 (Nat.le_of_ble_eq_true rfl) ⟨Nat.le_of_ble_eq_true rfl, Nat.le_of_ble_eq_true rfl⟩ ⟨Nat.le_of_ble_eq_true rfl, Nat.le_of_ble_eq_true rfl⟩ dX8_addGuard_16 (fun H locs hP hD hS => ?_)
      exact z_iret hx hb hr hlk hK hP hD hS dX8_addGuard_19 rfl rfl

set_option maxHeartbeats 4000000 in
set_option maxRecDepth 100000 in
theorem c_X8_addGuard_t2 (l : Launch) (D : va_G) (cs : zCs) (a : Nat → Nat) (V : Nat → Int32) (G : Nat → Nat → Int32) (sn : Nat) (g o bd : Int32) (gn : Nat) (hsn : V 0 = nI sn) (hs4 : sn ≤ 4) (h8 : G 0 8 = nI gn) (hg4 : gn ≤ 4) (q0 : 0 ≤ g ∧ g ≤ 4) (q1 : 0 ≤ o ∧ o ≤ 4) (hbad : ¬ ((¬ g = o) ∧ (1 ≤ bd ∧ bd ≤ 99))) : zM l D cs yX8_addGuard cX8_addGuard 5 (some FieldType.int) 2 45 0 0 [.ref (a 0), .int g, .int o, .int bd] (refW cs a V G) (some (.int 0)) (refW cs a (upd V 1 2) G) := by
  refine zM.of (own := RX8) (by decide) (Nat.le_of_ble_eq_true rfl) rfl ?_
  intro pq eq s mq below meth cq A ls hx hb hr hml hown hts hlk hnm hE hK hA hP hD hS hl
  have hl : lv_has ls 5 [(0, .ref (a 0)), (1, .int g), (2, .int o), (3, .int bd)] := hl
  refine lv_iload_n hx hb dX8_addGuard_0 rfl (lv_at hl 1 rfl) ?_
  refine z_callS (wn := (refW cs a V G)) ⟨hx, hb, hml, hown, hts⟩ zY_X8_isCylinder w_st_yX8_isCylinder w_ml_X8_48 [.int g] [] (c_X8_isCylinder l D cs g) hE hK hA hP hD hS [] rfl rfl rfl z_ins_nil rfl hl.1 (Nat.le_of_ble_eq_true rfl) ⟨Nat.le_of_ble_eq_true rfl, Nat.le_of_ble_eq_true rfl⟩ ⟨Nat.le_of_ble_eq_true rfl, Nat.le_of_ble_eq_true rfl⟩ dX8_addGuard_1 (fun H locs hP hD hS => ?_)
  refine lv_if_eq (tgt := 14) hx hb dX8_addGuard_4 (by decide) (fun c_1 => ?_) (fun c_1 => ?_)
  · skip
    have c_1 := bI_0.mp c_1
    exact absurd q0 c_1
  · skip
    have c_1 := bI_n0 c_1
    refine lv_iload_n hx hb dX8_addGuard_7 rfl (lv_at hl 2 rfl) ?_
    refine z_callS (wn := (refW cs a V G)) ⟨hx, hb, hml, hown, hts⟩ zY_X8_isCylinder w_st_yX8_isCylinder w_ml_X8_48 [.int o] [] (c_X8_isCylinder l D cs o) hE hK hA hP hD hS [] rfl rfl rfl z_ins_nil rfl hl.1 (Nat.le_of_ble_eq_true rfl) ⟨Nat.le_of_ble_eq_true rfl, Nat.le_of_ble_eq_true rfl⟩ ⟨Nat.le_of_ble_eq_true rfl, Nat.le_of_ble_eq_true rfl⟩ dX8_addGuard_8 (fun H locs hP hD hS => ?_)
    refine lv_if_ne (tgt := 20) hx hb dX8_addGuard_11 (by decide) (fun c_2 => ?_) (fun c_2 => ?_)
    · skip
      have c_2 := bI_n0 c_2
      refine lv_iload_n hx hb dX8_addGuard_20 rfl (lv_at hl 1 rfl) ?_
      refine lv_iload_n hx hb dX8_addGuard_21 rfl (lv_at hl 2 rfl) ?_
      refine lv_icmp_eq (tgt := 37) hx hb dX8_addGuard_22 (by decide) (fun c_3 => ?_) (fun c_3 => ?_)
      · skip
        refine lv_aload_n hx hb dX8_addGuard_37 rfl (lv_at hl 0 rfl) ?_
        refine lv_iconst (v := 2) hx hb dX8_addGuard_38 (by decide) ?_
        refine z_callV (wn := (refW cs a (upd V 1 2) G)) ⟨hx, hb, hml, hown, hts⟩ zY_X8_throwing w_im_yX8_throwing w_se_yX8_throwing w_ml_X8_55 [.int 2] [] (c_X8_throwing l D cs a V G 2) hE hK hA hP hD hS [0, 1, 2, 3, 4, 5, 6] rfl rfl rfl rfl 8 rfl rfl rfl rfl hl.1 (Nat.le_of_ble_eq_true rfl) ⟨Nat.le_of_ble_eq_true rfl, Nat.le_of_ble_eq_true rfl⟩ ⟨Nat.le_of_ble_eq_true rfl, Nat.le_of_ble_eq_true rfl⟩ dX8_addGuard_39 (fun H locs hP hD hS => ?_)
        exact z_iret hx hb hr hlk hK hP hD hS dX8_addGuard_42 rfl rfl
      · skip
        refine lv_iload_n hx hb dX8_addGuard_25 rfl (lv_at hl 3 rfl) ?_
        refine lv_i2l (v := bd.toInt64) hx hb dX8_addGuard_26 rfl ?_
        refine lv_lconst (v := 1) hx hb dX8_addGuard_27 (by decide) ?_
        refine lv_ldc2 (v := 99) hx hb hown (hts _ w_ct_X8_88) dX8_addGuard_28 ?_
        refine z_callS (wn := (refW cs a V G)) ⟨hx, hb, hml, hown, hts⟩ zY_X8_in w_st_yX8_in w_ml_X8_40 [.long bd.toInt64, .long 1, .long 99] [] (c_X8_in l D cs bd.toInt64 1 99) hE hK hA hP hD hS [] rfl rfl rfl z_ins_nil rfl hl.1 (Nat.le_of_ble_eq_true rfl) ⟨Nat.le_of_ble_eq_true rfl, Nat.le_of_ble_eq_true rfl⟩ ⟨Nat.le_of_ble_eq_true rfl, Nat.le_of_ble_eq_true rfl⟩ dX8_addGuard_31 (fun H locs hP hD hS => ?_)
        refine z_top (y := bI (1 ≤ bd ∧ bd ≤ 99)) (bI_congr (in64 (by decide) (by decide))) ?_
        refine lv_if_ne (tgt := 43) hx hb dX8_addGuard_34 (by decide) (fun c_4 => ?_) (fun c_4 => ?_)
        · skip
          have c_4 := bI_n0 c_4
          exact absurd ⟨c_3, c_4⟩ hbad
        · skip
          have c_4 := bI_0.mp c_4
          refine lv_aload_n hx hb dX8_addGuard_37 rfl (lv_at hl 0 rfl) ?_
          refine lv_iconst (v := 2) hx hb dX8_addGuard_38 (by decide) ?_
          refine z_callV (wn := (refW cs a (upd V 1 2) G)) ⟨hx, hb, hml, hown, hts⟩ zY_X8_throwing w_im_yX8_throwing w_se_yX8_throwing w_ml_X8_55 [.int 2] [] (c_X8_throwing l D cs a V G 2) hE hK hA hP hD hS [0, 1, 2, 3, 4, 5, 6] rfl rfl rfl rfl 8 rfl rfl rfl rfl hl.1 (Nat.le_of_ble_eq_true rfl) ⟨Nat.le_of_ble_eq_true rfl, Nat.le_of_ble_eq_true rfl⟩ ⟨Nat.le_of_ble_eq_true rfl, Nat.le_of_ble_eq_true rfl⟩ dX8_addGuard_39 (fun H locs hP hD hS => ?_)
          exact z_iret hx hb hr hlk hK hP hD hS dX8_addGuard_42 rfl rfl
    · skip
      have c_2 := bI_0.mp c_2
      exact absurd q1 c_2

set_option maxHeartbeats 4000000 in
set_option maxRecDepth 100000 in
theorem c_X8_addGuard_t3 (l : Launch) (D : va_G) (cs : zCs) (a : Nat → Nat) (V : Nat → Int32) (G : Nat → Nat → Int32) (sn : Nat) (g o bd : Int32) (gn : Nat) (hsn : V 0 = nI sn) (hs4 : sn ≤ 4) (h8 : G 0 8 = nI gn) (hg4 : gn ≤ 4) (q0 : 0 ≤ g ∧ g ≤ 4) (q1 : 0 ≤ o ∧ o ≤ 4) (q2 : ¬ g = o) (q3 : 1 ≤ bd ∧ bd ≤ 99) (hbad : ¬ (¬ nI gn = 4)) : zM l D cs yX8_addGuard cX8_addGuard 5 (some FieldType.int) 2 45 0 0 [.ref (a 0), .int g, .int o, .int bd] (refW cs a V G) (some (.int 0)) (refW cs a (upd V 1 3) G) := by
  refine zM.of (own := RX8) (by decide) (Nat.le_of_ble_eq_true rfl) rfl ?_
  intro pq eq s mq below meth cq A ls hx hb hr hml hown hts hlk hnm hE hK hA hP hD hS hl
  have hl : lv_has ls 5 [(0, .ref (a 0)), (1, .int g), (2, .int o), (3, .int bd)] := hl
  refine lv_iload_n hx hb dX8_addGuard_0 rfl (lv_at hl 1 rfl) ?_
  refine z_callS (wn := (refW cs a V G)) ⟨hx, hb, hml, hown, hts⟩ zY_X8_isCylinder w_st_yX8_isCylinder w_ml_X8_48 [.int g] [] (c_X8_isCylinder l D cs g) hE hK hA hP hD hS [] rfl rfl rfl z_ins_nil rfl hl.1 (Nat.le_of_ble_eq_true rfl) ⟨Nat.le_of_ble_eq_true rfl, Nat.le_of_ble_eq_true rfl⟩ ⟨Nat.le_of_ble_eq_true rfl, Nat.le_of_ble_eq_true rfl⟩ dX8_addGuard_1 (fun H locs hP hD hS => ?_)
  refine lv_if_eq (tgt := 14) hx hb dX8_addGuard_4 (by decide) (fun c_1 => ?_) (fun c_1 => ?_)
  · skip
    have c_1 := bI_0.mp c_1
    exact absurd q0 c_1
  · skip
    have c_1 := bI_n0 c_1
    refine lv_iload_n hx hb dX8_addGuard_7 rfl (lv_at hl 2 rfl) ?_
    refine z_callS (wn := (refW cs a V G)) ⟨hx, hb, hml, hown, hts⟩ zY_X8_isCylinder w_st_yX8_isCylinder w_ml_X8_48 [.int o] [] (c_X8_isCylinder l D cs o) hE hK hA hP hD hS [] rfl rfl rfl z_ins_nil rfl hl.1 (Nat.le_of_ble_eq_true rfl) ⟨Nat.le_of_ble_eq_true rfl, Nat.le_of_ble_eq_true rfl⟩ ⟨Nat.le_of_ble_eq_true rfl, Nat.le_of_ble_eq_true rfl⟩ dX8_addGuard_8 (fun H locs hP hD hS => ?_)
    refine lv_if_ne (tgt := 20) hx hb dX8_addGuard_11 (by decide) (fun c_2 => ?_) (fun c_2 => ?_)
    · skip
      have c_2 := bI_n0 c_2
      refine lv_iload_n hx hb dX8_addGuard_20 rfl (lv_at hl 1 rfl) ?_
      refine lv_iload_n hx hb dX8_addGuard_21 rfl (lv_at hl 2 rfl) ?_
      refine lv_icmp_eq (tgt := 37) hx hb dX8_addGuard_22 (by decide) (fun c_3 => ?_) (fun c_3 => ?_)
      · skip
        exact absurd c_3 q2
      · skip
        refine lv_iload_n hx hb dX8_addGuard_25 rfl (lv_at hl 3 rfl) ?_
        refine lv_i2l (v := bd.toInt64) hx hb dX8_addGuard_26 rfl ?_
        refine lv_lconst (v := 1) hx hb dX8_addGuard_27 (by decide) ?_
        refine lv_ldc2 (v := 99) hx hb hown (hts _ w_ct_X8_88) dX8_addGuard_28 ?_
        refine z_callS (wn := (refW cs a V G)) ⟨hx, hb, hml, hown, hts⟩ zY_X8_in w_st_yX8_in w_ml_X8_40 [.long bd.toInt64, .long 1, .long 99] [] (c_X8_in l D cs bd.toInt64 1 99) hE hK hA hP hD hS [] rfl rfl rfl z_ins_nil rfl hl.1 (Nat.le_of_ble_eq_true rfl) ⟨Nat.le_of_ble_eq_true rfl, Nat.le_of_ble_eq_true rfl⟩ ⟨Nat.le_of_ble_eq_true rfl, Nat.le_of_ble_eq_true rfl⟩ dX8_addGuard_31 (fun H locs hP hD hS => ?_)
        refine z_top (y := bI (1 ≤ bd ∧ bd ≤ 99)) (bI_congr (in64 (by decide) (by decide))) ?_
        refine lv_if_ne (tgt := 43) hx hb dX8_addGuard_34 (by decide) (fun c_4 => ?_) (fun c_4 => ?_)
        · skip
          have c_4 := bI_n0 c_4
          refine lv_aload_n hx hb dX8_addGuard_43 rfl (lv_at hl 0 rfl) ?_
          refine va_get (D := D) (ci := 8) (v := .ref (a 1)) (C := RX8) (T := TX8) (N := 13) hx hb hts wsI_X8 hown hK hP 0 rfl rfl 0 (by decide) (hts _ w_fl_X8_7) (fun _ h9 => h9) rfl dX8_addGuard_44 ?_
          refine lv_bipush (v := 8) hx hb dX8_addGuard_47 (by decide) ?_
          refine z_iald (k := 8) hx hb hK hP 1 rfl (by decide) (by first | decide | omega) dX8_addGuard_49 ?_
          refine z_top (y := nI gn) h8 ?_
          refine lv_iconst (v := 4) hx hb dX8_addGuard_50 (by decide) ?_
          refine lv_icmp_ne (tgt := 60) hx hb dX8_addGuard_51 (by decide) (fun c_5 => ?_) (fun c_5 => ?_)
          · skip
            exact absurd c_5 hbad
          · skip
            refine lv_aload_n hx hb dX8_addGuard_54 rfl (lv_at hl 0 rfl) ?_
            refine lv_iconst (v := 3) hx hb dX8_addGuard_55 (by decide) ?_
            refine z_callV (wn := (refW cs a (upd V 1 3) G)) ⟨hx, hb, hml, hown, hts⟩ zY_X8_throwing w_im_yX8_throwing w_se_yX8_throwing w_ml_X8_55 [.int 3] [] (c_X8_throwing l D cs a V G 3) hE hK hA hP hD hS [0, 1, 2, 3, 4, 5, 6] rfl rfl rfl rfl 8 rfl rfl rfl rfl hl.1 (Nat.le_of_ble_eq_true rfl) ⟨Nat.le_of_ble_eq_true rfl, Nat.le_of_ble_eq_true rfl⟩ ⟨Nat.le_of_ble_eq_true rfl, Nat.le_of_ble_eq_true rfl⟩ dX8_addGuard_56 (fun H locs hP hD hS => ?_)
            exact z_iret hx hb hr hlk hK hP hD hS dX8_addGuard_59 rfl rfl
        · skip
          have c_4 := bI_0.mp c_4
          exact absurd q3 c_4
    · skip
      have c_2 := bI_0.mp c_2
      exact absurd q1 c_2

set_option maxHeartbeats 4000000 in
set_option maxRecDepth 100000 in
theorem c_X8_addGuard_ok (l : Launch) (D : va_G) (cs : zCs) (a : Nat → Nat) (V : Nat → Int32) (G : Nat → Nat → Int32) (sn : Nat) (g o bd : Int32) (gn : Nat) (hsn : V 0 = nI sn) (hs4 : sn ≤ 4) (h8 : G 0 8 = nI gn) (hg4 : gn ≤ 4) (q0 : 0 ≤ g ∧ g ≤ 4) (q1 : 0 ≤ o ∧ o ≤ 4) (q2 : ¬ g = o) (q3 : 1 ≤ bd ∧ bd ≤ 99) (q4 : ¬ nI gn = 4) : zM l D cs yX8_addGuard cX8_addGuard 5 (some FieldType.int) 2 45 0 0 [.ref (a 0), .int g, .int o, .int bd] (refW cs a V G) (some (.int (nI gn))) (refW cs a (upd (upd V 0 (nI (min (sn + 1) 4))) 1 0) (zU (zU G 0 (upd (upd (upd (upd (G 0) (51 + 3 * gn) g) (51 + 3 * gn + 1) o) (51 + 3 * gn + 2) bd) 8 (nI (gn + 1)))) 1 (svF sn (G 1) (G 0)))) := by
  refine zM.of (own := RX8) (by decide) (Nat.le_of_ble_eq_true rfl) rfl ?_
  intro pq eq s mq below meth cq A ls hx hb hr hml hown hts hlk hnm hE hK hA hP hD hS hl
  have hl : lv_has ls 5 [(0, .ref (a 0)), (1, .int g), (2, .int o), (3, .int bd)] := hl
  have hg3 : gn < 4 := Nat.lt_of_le_of_ne hg4 (fun h => q4 (by rw [h]; rfl))
  refine lv_iload_n hx hb dX8_addGuard_0 rfl (lv_at hl 1 rfl) ?_
  refine z_callS (wn := (refW cs a V G)) ⟨hx, hb, hml, hown, hts⟩ zY_X8_isCylinder w_st_yX8_isCylinder w_ml_X8_48 [.int g] [] (c_X8_isCylinder l D cs g) hE hK hA hP hD hS [] rfl rfl rfl z_ins_nil rfl hl.1 (Nat.le_of_ble_eq_true rfl) ⟨Nat.le_of_ble_eq_true rfl, Nat.le_of_ble_eq_true rfl⟩ ⟨Nat.le_of_ble_eq_true rfl, Nat.le_of_ble_eq_true rfl⟩ dX8_addGuard_1 (fun H locs hP hD hS => ?_)
  refine lv_if_eq (tgt := 14) hx hb dX8_addGuard_4 (by decide) (fun c_1 => ?_) (fun c_1 => ?_)
  · skip
    have c_1 := bI_0.mp c_1
    exact absurd q0 c_1
  · skip
    have c_1 := bI_n0 c_1
    refine lv_iload_n hx hb dX8_addGuard_7 rfl (lv_at hl 2 rfl) ?_
    refine z_callS (wn := (refW cs a V G)) ⟨hx, hb, hml, hown, hts⟩ zY_X8_isCylinder w_st_yX8_isCylinder w_ml_X8_48 [.int o] [] (c_X8_isCylinder l D cs o) hE hK hA hP hD hS [] rfl rfl rfl z_ins_nil rfl hl.1 (Nat.le_of_ble_eq_true rfl) ⟨Nat.le_of_ble_eq_true rfl, Nat.le_of_ble_eq_true rfl⟩ ⟨Nat.le_of_ble_eq_true rfl, Nat.le_of_ble_eq_true rfl⟩ dX8_addGuard_8 (fun H locs hP hD hS => ?_)
    refine lv_if_ne (tgt := 20) hx hb dX8_addGuard_11 (by decide) (fun c_2 => ?_) (fun c_2 => ?_)
    · skip
      have c_2 := bI_n0 c_2
      refine lv_iload_n hx hb dX8_addGuard_20 rfl (lv_at hl 1 rfl) ?_
      refine lv_iload_n hx hb dX8_addGuard_21 rfl (lv_at hl 2 rfl) ?_
      refine lv_icmp_eq (tgt := 37) hx hb dX8_addGuard_22 (by decide) (fun c_3 => ?_) (fun c_3 => ?_)
      · skip
        exact absurd c_3 q2
      · skip
        refine lv_iload_n hx hb dX8_addGuard_25 rfl (lv_at hl 3 rfl) ?_
        refine lv_i2l (v := bd.toInt64) hx hb dX8_addGuard_26 rfl ?_
        refine lv_lconst (v := 1) hx hb dX8_addGuard_27 (by decide) ?_
        refine lv_ldc2 (v := 99) hx hb hown (hts _ w_ct_X8_88) dX8_addGuard_28 ?_
        refine z_callS (wn := (refW cs a V G)) ⟨hx, hb, hml, hown, hts⟩ zY_X8_in w_st_yX8_in w_ml_X8_40 [.long bd.toInt64, .long 1, .long 99] [] (c_X8_in l D cs bd.toInt64 1 99) hE hK hA hP hD hS [] rfl rfl rfl z_ins_nil rfl hl.1 (Nat.le_of_ble_eq_true rfl) ⟨Nat.le_of_ble_eq_true rfl, Nat.le_of_ble_eq_true rfl⟩ ⟨Nat.le_of_ble_eq_true rfl, Nat.le_of_ble_eq_true rfl⟩ dX8_addGuard_31 (fun H locs hP hD hS => ?_)
        refine z_top (y := bI (1 ≤ bd ∧ bd ≤ 99)) (bI_congr (in64 (by decide) (by decide))) ?_
        refine lv_if_ne (tgt := 43) hx hb dX8_addGuard_34 (by decide) (fun c_4 => ?_) (fun c_4 => ?_)
        · skip
          have c_4 := bI_n0 c_4
          refine lv_aload_n hx hb dX8_addGuard_43 rfl (lv_at hl 0 rfl) ?_
          refine va_get (D := D) (ci := 8) (v := .ref (a 1)) (C := RX8) (T := TX8) (N := 13) hx hb hts wsI_X8 hown hK hP 0 rfl rfl 0 (by decide) (hts _ w_fl_X8_7) (fun _ h9 => h9) rfl dX8_addGuard_44 ?_
          refine lv_bipush (v := 8) hx hb dX8_addGuard_47 (by decide) ?_
          refine z_iald (k := 8) hx hb hK hP 1 rfl (by decide) (by first | decide | omega) dX8_addGuard_49 ?_
          refine z_top (y := nI gn) h8 ?_
          refine lv_iconst (v := 4) hx hb dX8_addGuard_50 (by decide) ?_
          refine lv_icmp_ne (tgt := 60) hx hb dX8_addGuard_51 (by decide) (fun c_5 => ?_) (fun c_5 => ?_)
          · skip
            refine lv_aload_n hx hb dX8_addGuard_60 rfl (lv_at hl 0 rfl) ?_
            refine z_callV (wn := (refW cs a (upd V 0 (nI (min (sn + 1) 4))) (zU G 1 (svF sn (G 1) (G 0))))) ⟨hx, hb, hml, hown, hts⟩ zY_X8_save w_im_yX8_save w_se_yX8_save w_ml_X8_59 [] [] (c_X8_save l D cs a V G sn hsn hs4) hE hK hA hP hD hS [0, 1, 2, 3, 4, 5, 6] rfl rfl rfl rfl 8 rfl rfl rfl rfl hl.1 (Nat.le_of_ble_eq_true rfl) ⟨Nat.le_of_ble_eq_true rfl, Nat.le_of_ble_eq_true rfl⟩ ⟨Nat.le_of_ble_eq_true rfl, Nat.le_of_ble_eq_true rfl⟩ dX8_addGuard_61 (fun H locs hP hD hS => ?_)
            refine lv_bipush (v := 51) hx hb dX8_addGuard_64 (by decide) ?_
            refine lv_iconst (v := 3) hx hb dX8_addGuard_66 (by decide) ?_
            refine lv_aload_n hx hb dX8_addGuard_67 rfl (lv_at hl 0 rfl) ?_
            refine va_get (D := D) (ci := 8) (v := .ref (a 1)) (C := RX8) (T := TX8) (N := 13) hx hb hts wsI_X8 hown hK hP 0 rfl rfl 0 (by decide) (hts _ w_fl_X8_7) (fun _ h9 => h9) rfl dX8_addGuard_68 ?_
            refine lv_bipush (v := 8) hx hb dX8_addGuard_71 (by decide) ?_
            refine z_iald (k := 8) hx hb hK hP 1 rfl (by decide) (by first | decide | omega) dX8_addGuard_73 ?_
            refine z_top (y := nI gn) h8 ?_
            refine lv_imul hx hb dX8_addGuard_74 ?_
            refine z_top (y := nI (3 * gn)) (pk_mul 3 gn) ?_
            refine lv_iadd hx hb dX8_addGuard_75 ?_
            refine z_top (y := nI (51 + (3 * gn))) (nI_add 51 (3 * gn)) ?_
            refine lv_istore (lv' := [(4, .int (nI (51 + (3 * gn)))), (0, .ref (a 0)), (1, .int g), (2, .int o), (3, .int bd)]) hx hb dX8_addGuard_76 hl (by decide) rfl (fun ls hl => ?_)
            refine lv_aload_n hx hb dX8_addGuard_78 rfl (lv_at hl 1 rfl) ?_
            refine va_get (D := D) (ci := 8) (v := .ref (a 1)) (C := RX8) (T := TX8) (N := 13) hx hb hts wsI_X8 hown hK hP 0 rfl rfl 0 (by decide) (hts _ w_fl_X8_7) (fun _ h9 => h9) rfl dX8_addGuard_79 ?_
            refine lv_iload hx hb dX8_addGuard_82 (lv_at hl 0 rfl) ?_
            refine lv_iload_n hx hb dX8_addGuard_84 rfl (lv_at hl 2 rfl) ?_
            refine z_iast (k := 51 + (3 * gn)) hx hb hK hP hD hS 1 rfl (by omega) (by first | decide | omega) dX8_addGuard_85 (fun H locs hP hD hS => ?_)
            have hP : va_P D vwCl (refW cs a (upd V 0 (nI (min (sn + 1) 4))) (zU (zU G 0 (upd (G 0) (51 + (3 * gn)) g)) 1 (svF sn (G 1) (G 0)))) H := hP
            have hD : va_D A (refW cs a (upd V 0 (nI (min (sn + 1) 4))) (zU (zU G 0 (upd (G 0) (51 + (3 * gn)) g)) 1 (svF sn (G 1) (G 0)))) := hD
            refine lv_aload_n hx hb dX8_addGuard_86 rfl (lv_at hl 1 rfl) ?_
            refine va_get (D := D) (ci := 8) (v := .ref (a 1)) (C := RX8) (T := TX8) (N := 13) hx hb hts wsI_X8 hown hK hP 0 rfl rfl 0 (by decide) (hts _ w_fl_X8_7) (fun _ h9 => h9) rfl dX8_addGuard_87 ?_
            refine lv_iload hx hb dX8_addGuard_90 (lv_at hl 0 rfl) ?_
            refine lv_iconst (v := 1) hx hb dX8_addGuard_92 (by decide) ?_
            refine lv_iadd hx hb dX8_addGuard_93 ?_
            refine z_top (y := nI ((51 + (3 * gn)) + 1)) (nI_add (51 + (3 * gn)) 1) ?_
            refine lv_iload_n hx hb dX8_addGuard_94 rfl (lv_at hl 3 rfl) ?_
            refine z_iast (k := (51 + (3 * gn)) + 1) hx hb hK hP hD hS 1 rfl (by omega) (by first | decide | omega) dX8_addGuard_95 (fun H locs hP hD hS => ?_)
            have hP : va_P D vwCl (refW cs a (upd V 0 (nI (min (sn + 1) 4))) (zU (zU G 0 (upd (upd (G 0) (51 + (3 * gn)) g) ((51 + (3 * gn)) + 1) o)) 1 (svF sn (G 1) (G 0)))) H := hP
            have hD : va_D A (refW cs a (upd V 0 (nI (min (sn + 1) 4))) (zU (zU G 0 (upd (upd (G 0) (51 + (3 * gn)) g) ((51 + (3 * gn)) + 1) o)) 1 (svF sn (G 1) (G 0)))) := hD
            refine lv_aload_n hx hb dX8_addGuard_96 rfl (lv_at hl 1 rfl) ?_
            refine va_get (D := D) (ci := 8) (v := .ref (a 1)) (C := RX8) (T := TX8) (N := 13) hx hb hts wsI_X8 hown hK hP 0 rfl rfl 0 (by decide) (hts _ w_fl_X8_7) (fun _ h9 => h9) rfl dX8_addGuard_97 ?_
            refine lv_iload hx hb dX8_addGuard_100 (lv_at hl 0 rfl) ?_
            refine lv_iconst (v := 2) hx hb dX8_addGuard_102 (by decide) ?_
            refine lv_iadd hx hb dX8_addGuard_103 ?_
            refine z_top (y := nI ((51 + (3 * gn)) + 2)) (nI_add (51 + (3 * gn)) 2) ?_
            refine lv_iload_n hx hb dX8_addGuard_104 rfl (lv_at hl 4 rfl) ?_
            refine z_iast (k := (51 + (3 * gn)) + 2) hx hb hK hP hD hS 1 rfl (by omega) (by first | decide | omega) dX8_addGuard_105 (fun H locs hP hD hS => ?_)
            have hP : va_P D vwCl (refW cs a (upd V 0 (nI (min (sn + 1) 4))) (zU (zU G 0 (upd (upd (upd (G 0) (51 + (3 * gn)) g) ((51 + (3 * gn)) + 1) o) ((51 + (3 * gn)) + 2) bd)) 1 (svF sn (G 1) (G 0)))) H := hP
            have hD : va_D A (refW cs a (upd V 0 (nI (min (sn + 1) 4))) (zU (zU G 0 (upd (upd (upd (G 0) (51 + (3 * gn)) g) ((51 + (3 * gn)) + 1) o) ((51 + (3 * gn)) + 2) bd)) 1 (svF sn (G 1) (G 0)))) := hD
            refine lv_aload_n hx hb dX8_addGuard_106 rfl (lv_at hl 1 rfl) ?_
            refine va_get (D := D) (ci := 8) (v := .ref (a 1)) (C := RX8) (T := TX8) (N := 13) hx hb hts wsI_X8 hown hK hP 0 rfl rfl 0 (by decide) (hts _ w_fl_X8_7) (fun _ h9 => h9) rfl dX8_addGuard_107 ?_
            refine lv_bipush (v := 8) hx hb dX8_addGuard_110 (by decide) ?_
            refine lv_dup2_11 hx hb dX8_addGuard_112 rfl rfl ?_
            refine z_iald (k := 8) hx hb hK hP 1 rfl (by decide) (by first | decide | omega) dX8_addGuard_113 ?_
            refine z_top (y := nI gn) (show (upd (upd (upd (G 0) (51 + 3 * gn) g) (51 + 3 * gn + 1) o) (51 + 3 * gn + 2) bd) 8 = nI gn from (ex_upd (by omega)).trans ((ex_upd (by omega)).trans ((ex_upd (by omega)).trans h8))) ?_
            refine lv_iconst (v := 1) hx hb dX8_addGuard_114 (by decide) ?_
            refine lv_iadd hx hb dX8_addGuard_115 ?_
            refine z_top (y := nI (gn + 1)) (nI_add gn 1) ?_
            refine z_iast (k := 8) hx hb hK hP hD hS 1 rfl (by decide) (by first | decide | omega) dX8_addGuard_116 (fun H locs hP hD hS => ?_)
            have hP : va_P D vwCl (refW cs a (upd V 0 (nI (min (sn + 1) 4))) (zU (zU G 0 (upd (upd (upd (upd (G 0) (51 + (3 * gn)) g) ((51 + (3 * gn)) + 1) o) ((51 + (3 * gn)) + 2) bd) 8 (nI (gn + 1)))) 1 (svF sn (G 1) (G 0)))) H := hP
            have hD : va_D A (refW cs a (upd V 0 (nI (min (sn + 1) 4))) (zU (zU G 0 (upd (upd (upd (upd (G 0) (51 + (3 * gn)) g) ((51 + (3 * gn)) + 1) o) ((51 + (3 * gn)) + 2) bd) 8 (nI (gn + 1)))) 1 (svF sn (G 1) (G 0)))) := hD
            refine lv_aload_n hx hb dX8_addGuard_117 rfl (lv_at hl 1 rfl) ?_
            refine lv_aload_n hx hb dX8_addGuard_118 rfl (lv_at hl 1 rfl) ?_
            refine va_get (D := D) (ci := 8) (v := .ref (a 1)) (C := RX8) (T := TX8) (N := 13) hx hb hts wsI_X8 hown hK hP 0 rfl rfl 0 (by decide) (hts _ w_fl_X8_7) (fun _ h9 => h9) rfl dX8_addGuard_119 ?_
            refine lv_bipush (v := 8) hx hb dX8_addGuard_122 (by decide) ?_
            refine z_iald (k := 8) hx hb hK hP 1 rfl (by decide) (by first | decide | omega) dX8_addGuard_124 ?_
            refine z_top (y := nI (gn + 1)) (show (upd (upd (upd (upd (G 0) (51 + 3 * gn) g) (51 + 3 * gn + 1) o) (51 + 3 * gn + 2) bd) 8 (nI (gn + 1))) 8 = nI (gn + 1) from pk_us) ?_
            refine lv_iconst (v := 1) hx hb dX8_addGuard_125 (by decide) ?_
            refine lv_isub hx hb dX8_addGuard_126 ?_
            refine z_top (y := nI gn) (nI_pred gn) ?_
            refine z_callV (wn := (refW cs a (upd (upd V 0 (nI (min (sn + 1) 4))) 1 0) (zU (zU G 0 (upd (upd (upd (upd (G 0) (51 + (3 * gn)) g) ((51 + (3 * gn)) + 1) o) ((51 + (3 * gn)) + 2) bd) 8 (nI (gn + 1)))) 1 (svF sn (G 1) (G 0))))) ⟨hx, hb, hml, hown, hts⟩ zY_X8_fine w_im_yX8_fine w_se_yX8_fine w_ml_X8_65 [.int (nI gn)] [] (c_X8_fine l D cs a (upd V 0 (nI (min (sn + 1) 4))) (zU (zU G 0 (upd (upd (upd (upd (G 0) (51 + (3 * gn)) g) ((51 + (3 * gn)) + 1) o) ((51 + (3 * gn)) + 2) bd) 8 (nI (gn + 1)))) 1 (svF sn (G 1) (G 0))) (nI gn)) hE hK hA hP hD hS [0, 1, 2, 3, 4, 5, 6] rfl rfl rfl rfl 8 rfl rfl rfl rfl hl.1 (Nat.le_of_ble_eq_true rfl) ⟨Nat.le_of_ble_eq_true rfl, Nat.le_of_ble_eq_true rfl⟩ ⟨Nat.le_of_ble_eq_true rfl, Nat.le_of_ble_eq_true rfl⟩ dX8_addGuard_127 (fun H locs hP hD hS => ?_)
            exact z_iret hx hb hr hlk hK hP hD hS dX8_addGuard_130 rfl rfl
          · skip
            exact absurd c_5 q4
        · skip
          have c_4 := bI_0.mp c_4
          exact absurd q3 c_4
    · skip
      have c_2 := bI_0.mp c_2
      exact absurd q1 c_2

set_option maxHeartbeats 4000000 in
set_option maxRecDepth 100000 in
theorem c_X8_removeGuard_t1 (l : Launch) (D : va_G) (cs : zCs) (a : Nat → Nat) (V : Nat → Int32) (G : Nat → Nat → Int32) (sn : Nat) (g : Int32) (gn : Nat) (hsn : V 0 = nI sn) (hs4 : sn ≤ 4) (h8 : G 0 8 = nI gn) (hg4 : gn ≤ 4) (hbad : ¬ (0 ≤ g ∧ g ≤ (G 0) 8 - 1)) : zM l D cs yX8_removeGuard cX8_removeGuard 3 (some FieldType.int) 2 46 0 0 [.ref (a 0), .int g] (refW cs a V G) (some (.int 0)) (refW cs a (upd V 1 1) G) := by
  refine zM.of (own := RX8) (by decide) (Nat.le_of_ble_eq_true rfl) rfl ?_
  intro pq eq s mq below meth cq A ls hx hb hr hml hown hts hlk hnm hE hK hA hP hD hS hl
  have hl : lv_has ls 3 [(0, .ref (a 0)), (1, .int g)] := hl
  refine lv_aload_n hx hb dX8_removeGuard_0 rfl (lv_at hl 0 rfl) ?_
  refine lv_iload_n hx hb dX8_removeGuard_1 rfl (lv_at hl 1 rfl) ?_
  refine z_callV (wn := (refW cs a V G)) ⟨hx, hb, hml, hown, hts⟩ zY_X8_isGuard w_im_yX8_isGuard w_se_yX8_isGuard w_ml_X8_90 [.int g] [] (c_X8_isGuard l D cs a V G g gn h8 (by omega)) hE hK hA hP hD hS [0, 1, 2, 3, 4, 5, 6] rfl rfl rfl rfl 8 rfl rfl rfl rfl hl.1 (Nat.le_of_ble_eq_true rfl) ⟨Nat.le_of_ble_eq_true rfl, Nat.le_of_ble_eq_true rfl⟩ ⟨Nat.le_of_ble_eq_true rfl, Nat.le_of_ble_eq_true rfl⟩ dX8_removeGuard_2 (fun H locs hP hD hS => ?_)
  refine lv_if_ne (tgt := 14) hx hb dX8_removeGuard_5 (by decide) (fun c_1 => ?_) (fun c_1 => ?_)
  · skip
    have c_1 := bI_n0 c_1
    exact absurd c_1 hbad
  · skip
    have c_1 := bI_0.mp c_1
    refine lv_aload_n hx hb dX8_removeGuard_8 rfl (lv_at hl 0 rfl) ?_
    refine lv_iconst (v := 1) hx hb dX8_removeGuard_9 (by decide) ?_
    refine z_callV (wn := (refW cs a (upd V 1 1) G)) ⟨hx, hb, hml, hown, hts⟩ zY_X8_throwing w_im_yX8_throwing w_se_yX8_throwing w_ml_X8_55 [.int 1] [] (c_X8_throwing l D cs a V G 1) hE hK hA hP hD hS [0, 1, 2, 3, 4, 5, 6] rfl rfl rfl rfl 8 rfl rfl rfl rfl hl.1 (Nat.le_of_ble_eq_true rfl) ⟨Nat.le_of_ble_eq_true rfl, Nat.le_of_ble_eq_true rfl⟩ ⟨Nat.le_of_ble_eq_true rfl, Nat.le_of_ble_eq_true rfl⟩ dX8_removeGuard_10 (fun H locs hP hD hS => ?_)
    exact z_iret hx hb hr hlk hK hP hD hS dX8_removeGuard_13 rfl rfl

set_option maxHeartbeats 4000000 in
set_option maxRecDepth 100000 in
theorem c_X8_removeGuard_ok (l : Launch) (D : va_G) (cs : zCs) (a : Nat → Nat) (V : Nat → Int32) (G : Nat → Nat → Int32) (sn : Nat) (g : Int32) (gn : Nat) (hsn : V 0 = nI sn) (hs4 : sn ≤ 4) (h8 : G 0 8 = nI gn) (hg4 : gn ≤ 4) (q0 : 0 ≤ g ∧ g ≤ (G 0) 8 - 1) : zM l D cs yX8_removeGuard cX8_removeGuard 3 (some FieldType.int) 2 46 0 0 [.ref (a 0), .int g] (refW cs a V G) (some (.int (nI (gn - 1)))) (refW cs a (upd (upd V 0 (nI (min (sn + 1) 4))) 1 0) (zU (zU G 0 (cpF (51 + 3 * (gn - 1)) (dnF (upd (G 0) 8 (nI (gn - 1))) (51 + 3 * nN g) (51 + 3 * (gn - 1))) (fun _ => 0) 3)) 1 (svF sn (G 1) (G 0)))) := by
  refine zM.of (own := RX8) (by decide) (Nat.le_of_ble_eq_true rfl) rfl ?_
  intro pq eq s mq below meth cq A ls hx hb hr hml hown hts hlk hnm hE hK hA hP hD hS hl
  have hl : lv_has ls 3 [(0, .ref (a 0)), (1, .int g)] := hl
  refine lv_aload_n hx hb dX8_removeGuard_0 rfl (lv_at hl 0 rfl) ?_
  refine lv_iload_n hx hb dX8_removeGuard_1 rfl (lv_at hl 1 rfl) ?_
  refine z_callV (wn := (refW cs a V G)) ⟨hx, hb, hml, hown, hts⟩ zY_X8_isGuard w_im_yX8_isGuard w_se_yX8_isGuard w_ml_X8_90 [.int g] [] (c_X8_isGuard l D cs a V G g gn h8 (by omega)) hE hK hA hP hD hS [0, 1, 2, 3, 4, 5, 6] rfl rfl rfl rfl 8 rfl rfl rfl rfl hl.1 (Nat.le_of_ble_eq_true rfl) ⟨Nat.le_of_ble_eq_true rfl, Nat.le_of_ble_eq_true rfl⟩ ⟨Nat.le_of_ble_eq_true rfl, Nat.le_of_ble_eq_true rfl⟩ dX8_removeGuard_2 (fun H locs hP hD hS => ?_)
  refine lv_if_ne (tgt := 14) hx hb dX8_removeGuard_5 (by decide) (fun c_1 => ?_) (fun c_1 => ?_)
  · skip
    have c_1 := bI_n0 c_1
    obtain ⟨k, hk, rfl⟩ := z_natR h8 (by omega) c_1
    have hNk := nN_nI (k := k) (by omega)
    refine lv_aload_n hx hb dX8_removeGuard_14 rfl (lv_at hl 0 rfl) ?_
    refine z_callV (wn := (refW cs a (upd V 0 (nI (min (sn + 1) 4))) (zU G 1 (svF sn (G 1) (G 0))))) ⟨hx, hb, hml, hown, hts⟩ zY_X8_save w_im_yX8_save w_se_yX8_save w_ml_X8_59 [] [] (c_X8_save l D cs a V G sn hsn hs4) hE hK hA hP hD hS [0, 1, 2, 3, 4, 5, 6] rfl rfl rfl rfl 8 rfl rfl rfl rfl hl.1 (Nat.le_of_ble_eq_true rfl) ⟨Nat.le_of_ble_eq_true rfl, Nat.le_of_ble_eq_true rfl⟩ ⟨Nat.le_of_ble_eq_true rfl, Nat.le_of_ble_eq_true rfl⟩ dX8_removeGuard_15 (fun H locs hP hD hS => ?_)
    refine lv_aload_n hx hb dX8_removeGuard_18 rfl (lv_at hl 0 rfl) ?_
    refine va_get (D := D) (ci := 8) (v := .ref (a 1)) (C := RX8) (T := TX8) (N := 13) hx hb hts wsI_X8 hown hK hP 0 rfl rfl 0 (by decide) (hts _ w_fl_X8_7) (fun _ h9 => h9) rfl dX8_removeGuard_19 ?_
    refine lv_bipush (v := 8) hx hb dX8_removeGuard_22 (by decide) ?_
    refine lv_dup2_11 hx hb dX8_removeGuard_24 rfl rfl ?_
    refine z_iald (k := 8) hx hb hK hP 1 rfl (by decide) (by first | decide | omega) dX8_removeGuard_25 ?_
    refine z_top (y := nI gn) h8 ?_
    refine lv_iconst (v := 1) hx hb dX8_removeGuard_26 (by decide) ?_
    refine lv_isub hx hb dX8_removeGuard_27 ?_
    refine z_top (y := nI (gn - 1)) (pk_sub (b := 1) (by omega)) ?_
    refine z_iast (k := 8) hx hb hK hP hD hS 1 rfl (by decide) (by first | decide | omega) dX8_removeGuard_28 (fun H locs hP hD hS => ?_)
    have hP : va_P D vwCl (refW cs a (upd V 0 (nI (min (sn + 1) 4))) (zU (zU G 0 (upd (G 0) 8 (nI (gn - 1)))) 1 (svF sn (G 1) (G 0)))) H := hP
    have hD : va_D A (refW cs a (upd V 0 (nI (min (sn + 1) 4))) (zU (zU G 0 (upd (G 0) 8 (nI (gn - 1)))) 1 (svF sn (G 1) (G 0)))) := hD
    refine lv_iconst (v := 3) hx hb dX8_removeGuard_29 (by decide) ?_
    refine lv_iload_n hx hb dX8_removeGuard_30 rfl (lv_at hl 1 rfl) ?_
    refine lv_imul hx hb dX8_removeGuard_31 ?_
    refine z_top (y := nI (3 * k)) (pk_mul 3 k) ?_
    refine lv_istore_n (lv' := [(2, .int (nI (3 * k))), (0, .ref (a 0)), (1, .int (nI k))]) hx hb dX8_removeGuard_32 rfl hl (by decide) rfl (fun ls hl => ?_)
    have lp33 : ∀ (z : Nat) (j : Nat), (3 * k ≤ j) → (j ≤ 3 * (gn - 1)) → (3 * (gn - 1) + 1 ≤ j + z) → ∀ (H : Heap) (locs : List Loc) (ls : Array Slot), va_P D vwCl (refW cs a (upd V 0 (nI (min (sn + 1) 4))) (zU (zU G 0 (dnF (upd (G 0) 8 (nI (gn - 1))) (51 + 3 * k) (51 + j))) 1 (svF sn (G 1) (G 0)))) H → va_D A (refW cs a (upd V 0 (nI (min (sn + 1) 4))) (zU (zU G 0 (dnF (upd (G 0) 8 (nI (gn - 1))) (51 + 3 * k) (51 + j))) 1 (svF sn (G 1) (G 0)))) → va_S A s.heap H locs → lv_has ls 3 [(0, .ref (a 0)), (1, .int (nI k)), (2, .int (nI j))] → W pq l eq ({ frames := 2, cells := 0, slots := 0, locals := 46 } : Room) s mq ([.ref (a 0), .int (nI k)] : List Value).toArray below meth cq H locs 0 0 (MQ below (zQ D cs (some (.int (nI (gn - 1)))) (refW cs a (upd (upd V 0 (nI (min (sn + 1) 4))) 1 0) (zU (zU G 0 (cpF (51 + 3 * (gn - 1)) (dnF (upd (G 0) 8 (nI (gn - 1))) (51 + 3 * nN (nI k)) (51 + 3 * (gn - 1))) (fun _ => 0) 3)) 1 (svF sn (G 1) (G 0)))) A) ([.ref (a 0), .int (nI k)] : List Value).toArray s 0 0 A) (F0 mq 33 ls []) := by
      intro z
      induction z with
      | zero =>
        intro j hj0 hj1 hj2 H locs ls hP hD hS hl
        omega
      | succ z ih =>
        intro j hj0 hj1 hj2 H locs ls hP hD hS hl
        refine lv_iload_n hx hb dX8_removeGuard_33 rfl (lv_at hl 2 rfl) ?_
        refine lv_iconst (v := 3) hx hb dX8_removeGuard_34 (by decide) ?_
        refine lv_aload_n hx hb dX8_removeGuard_35 rfl (lv_at hl 0 rfl) ?_
        refine va_get (D := D) (ci := 8) (v := .ref (a 1)) (C := RX8) (T := TX8) (N := 13) hx hb hts wsI_X8 hown hK hP 0 rfl rfl 0 (by decide) (hts _ w_fl_X8_7) (fun _ h9 => h9) rfl dX8_removeGuard_36 ?_
        refine lv_bipush (v := 8) hx hb dX8_removeGuard_39 (by decide) ?_
        refine z_iald (k := 8) hx hb hK hP 1 rfl (by decide) (by first | decide | omega) dX8_removeGuard_41 ?_
        refine z_top (y := nI (gn - 1)) (show (dnF (upd (G 0) 8 (nI (gn - 1))) (51 + 3 * k) (51 + j)) 8 = nI (gn - 1) from (dn_out (by omega)).trans pk_us) ?_
        refine lv_imul hx hb dX8_removeGuard_42 ?_
        refine z_top (y := nI (3 * (gn - 1))) (pk_mul 3 (gn - 1)) ?_
        refine lv_icmp_ge (tgt := 72) hx hb dX8_removeGuard_43 (by decide) (fun c_2 => ?_) (fun c_2 => ?_)
        · skip
          have ej := z_leK (n := (3 * (gn - 1))) rfl (by omega) hj1 c_2
          subst ej
          refine lv_iconst (v := 0) hx hb dX8_removeGuard_72 (by decide) ?_
          refine lv_istore_n (lv' := [(2, .int 0), (0, .ref (a 0)), (1, .int (nI k))]) hx hb dX8_removeGuard_73 rfl hl (by decide) rfl (fun ls hl => ?_)
          have lp74 : ∀ (z2 : Nat) (t : Nat), (t ≤ 3) → (3 + 1 ≤ t + z2) → ∀ (H : Heap) (locs : List Loc) (ls : Array Slot), va_P D vwCl (refW cs a (upd V 0 (nI (min (sn + 1) 4))) (zU (zU G 0 (cpF (51 + 3 * (gn - 1)) (dnF (upd (G 0) 8 (nI (gn - 1))) (51 + 3 * k) (51 + 3 * (gn - 1))) (fun _ => 0) t)) 1 (svF sn (G 1) (G 0)))) H → va_D A (refW cs a (upd V 0 (nI (min (sn + 1) 4))) (zU (zU G 0 (cpF (51 + 3 * (gn - 1)) (dnF (upd (G 0) 8 (nI (gn - 1))) (51 + 3 * k) (51 + 3 * (gn - 1))) (fun _ => 0) t)) 1 (svF sn (G 1) (G 0)))) → va_S A s.heap H locs → lv_has ls 3 [(0, .ref (a 0)), (1, .int (nI k)), (2, .int (nI t))] → W pq l eq ({ frames := 2, cells := 0, slots := 0, locals := 46 } : Room) s mq ([.ref (a 0), .int (nI k)] : List Value).toArray below meth cq H locs 0 0 (MQ below (zQ D cs (some (.int (nI (gn - 1)))) (refW cs a (upd (upd V 0 (nI (min (sn + 1) 4))) 1 0) (zU (zU G 0 (cpF (51 + 3 * (gn - 1)) (dnF (upd (G 0) 8 (nI (gn - 1))) (51 + 3 * nN (nI k)) (51 + 3 * (gn - 1))) (fun _ => 0) 3)) 1 (svF sn (G 1) (G 0)))) A) ([.ref (a 0), .int (nI k)] : List Value).toArray s 0 0 A) (F0 mq 74 ls []) := by
            intro z2
            induction z2 with
            | zero =>
              intro t ht1 ht2 H locs ls hP hD hS hl
              omega
            | succ z2 ih2 =>
              intro t ht1 ht2 H locs ls hP hD hS hl
              refine lv_iload_n hx hb dX8_removeGuard_74 rfl (lv_at hl 2 rfl) ?_
              refine lv_iconst (v := 3) hx hb dX8_removeGuard_75 (by decide) ?_
              refine lv_icmp_ge (tgt := 105) hx hb dX8_removeGuard_76 (by decide) (fun c_3 => ?_) (fun c_3 => ?_)
              · skip
                have et := z_leK (n := 3) rfl (by omega) ht1 c_3
                subst et
                refine lv_aload_n hx hb dX8_removeGuard_105 rfl (lv_at hl 0 rfl) ?_
                refine lv_aload_n hx hb dX8_removeGuard_106 rfl (lv_at hl 0 rfl) ?_
                refine va_get (D := D) (ci := 8) (v := .ref (a 1)) (C := RX8) (T := TX8) (N := 13) hx hb hts wsI_X8 hown hK hP 0 rfl rfl 0 (by decide) (hts _ w_fl_X8_7) (fun _ h9 => h9) rfl dX8_removeGuard_107 ?_
                refine lv_bipush (v := 8) hx hb dX8_removeGuard_110 (by decide) ?_
                refine z_iald (k := 8) hx hb hK hP 1 rfl (by decide) (by first | decide | omega) dX8_removeGuard_112 ?_
                refine z_top (y := nI (gn - 1)) (show (cpF (51 + 3 * (gn - 1)) (dnF (upd (G 0) 8 (nI (gn - 1))) (51 + 3 * k) (51 + 3 * (gn - 1))) (fun _ => 0) 3) 8 = nI (gn - 1) from (cp_out (by omega)).trans ((dn_out (by omega)).trans pk_us)) ?_
                refine z_callV (wn := (refW cs a (upd (upd V 0 (nI (min (sn + 1) 4))) 1 0) (zU (zU G 0 (cpF (51 + 3 * (gn - 1)) (dnF (upd (G 0) 8 (nI (gn - 1))) (51 + 3 * k) (51 + 3 * (gn - 1))) (fun _ => 0) 3)) 1 (svF sn (G 1) (G 0))))) ⟨hx, hb, hml, hown, hts⟩ zY_X8_fine w_im_yX8_fine w_se_yX8_fine w_ml_X8_65 [.int (nI (gn - 1))] [] (c_X8_fine l D cs a (upd V 0 (nI (min (sn + 1) 4))) (zU (zU G 0 (cpF (51 + 3 * (gn - 1)) (dnF (upd (G 0) 8 (nI (gn - 1))) (51 + 3 * k) (51 + 3 * (gn - 1))) (fun _ => 0) 3)) 1 (svF sn (G 1) (G 0))) (nI (gn - 1))) hE hK hA hP hD hS [0, 1, 2, 3, 4, 5, 6] rfl rfl rfl rfl 8 rfl rfl rfl rfl hl.1 (Nat.le_of_ble_eq_true rfl) ⟨Nat.le_of_ble_eq_true rfl, Nat.le_of_ble_eq_true rfl⟩ ⟨Nat.le_of_ble_eq_true rfl, Nat.le_of_ble_eq_true rfl⟩ dX8_removeGuard_113 (fun H locs hP hD hS => ?_)
                exact z_iret hx hb hr hlk hK hP hD hS dX8_removeGuard_116 rfl (by simp only [hNk])
              · skip
                have gt : t < 3 := z_geK (n := 3) rfl (by omega) ht1 c_3
                refine lv_aload_n hx hb dX8_removeGuard_79 rfl (lv_at hl 0 rfl) ?_
                refine va_get (D := D) (ci := 8) (v := .ref (a 1)) (C := RX8) (T := TX8) (N := 13) hx hb hts wsI_X8 hown hK hP 0 rfl rfl 0 (by decide) (hts _ w_fl_X8_7) (fun _ h9 => h9) rfl dX8_removeGuard_80 ?_
                refine lv_bipush (v := 51) hx hb dX8_removeGuard_83 (by decide) ?_
                refine lv_iconst (v := 3) hx hb dX8_removeGuard_85 (by decide) ?_
                refine lv_aload_n hx hb dX8_removeGuard_86 rfl (lv_at hl 0 rfl) ?_
                refine va_get (D := D) (ci := 8) (v := .ref (a 1)) (C := RX8) (T := TX8) (N := 13) hx hb hts wsI_X8 hown hK hP 0 rfl rfl 0 (by decide) (hts _ w_fl_X8_7) (fun _ h9 => h9) rfl dX8_removeGuard_87 ?_
                refine lv_bipush (v := 8) hx hb dX8_removeGuard_90 (by decide) ?_
                refine z_iald (k := 8) hx hb hK hP 1 rfl (by decide) (by first | decide | omega) dX8_removeGuard_92 ?_
                refine z_top (y := nI (gn - 1)) (show (cpF (51 + 3 * (gn - 1)) (dnF (upd (G 0) 8 (nI (gn - 1))) (51 + 3 * k) (51 + 3 * (gn - 1))) (fun _ => 0) t) 8 = nI (gn - 1) from (cp_out (by omega)).trans ((dn_out (by omega)).trans pk_us)) ?_
                refine lv_imul hx hb dX8_removeGuard_93 ?_
                refine z_top (y := nI (3 * (gn - 1))) (pk_mul 3 (gn - 1)) ?_
                refine lv_iadd hx hb dX8_removeGuard_94 ?_
                refine z_top (y := nI (51 + (3 * (gn - 1)))) (nI_add 51 (3 * (gn - 1))) ?_
                refine lv_iload_n hx hb dX8_removeGuard_95 rfl (lv_at hl 2 rfl) ?_
                refine lv_iadd hx hb dX8_removeGuard_96 ?_
                refine z_top (y := nI ((51 + (3 * (gn - 1))) + t)) (nI_add (51 + (3 * (gn - 1))) t) ?_
                refine lv_iconst (v := 0) hx hb dX8_removeGuard_97 (by decide) ?_
                refine z_iast (k := (51 + (3 * (gn - 1))) + t) hx hb hK hP hD hS 1 rfl (by omega) (by first | decide | omega) dX8_removeGuard_98 (fun H locs hP hD hS => ?_)
                have hP : va_P D vwCl (refW cs a (upd V 0 (nI (min (sn + 1) 4))) (zU (zU G 0 (upd (cpF (51 + 3 * (gn - 1)) (dnF (upd (G 0) 8 (nI (gn - 1))) (51 + 3 * k) (51 + 3 * (gn - 1))) (fun _ => 0) t) ((51 + (3 * (gn - 1))) + t) 0)) 1 (svF sn (G 1) (G 0)))) H := hP
                have hD : va_D A (refW cs a (upd V 0 (nI (min (sn + 1) 4))) (zU (zU G 0 (upd (cpF (51 + 3 * (gn - 1)) (dnF (upd (G 0) 8 (nI (gn - 1))) (51 + 3 * k) (51 + 3 * (gn - 1))) (fun _ => 0) t) ((51 + (3 * (gn - 1))) + t) 0)) 1 (svF sn (G 1) (G 0)))) := hD
                refine lv_iinc (v := nI (t + 1)) (lv' := [(2, .int (nI (t + 1))), (0, .ref (a 0)), (1, .int (nI k))]) hx hb dX8_removeGuard_99 hl (k := 2) rfl (show nI t + Int32.ofInt 1 = nI (t + 1) from nI_add t 1) (by decide) rfl (fun ls hl => ?_)
                refine lv_goto (tgt := 74) hx hb dX8_removeGuard_102 (by decide) ?_
                rw [cp_s (by rfl)] at hP hD
                exact ih2 (t + 1) (by omega) (by omega) _ _ _ hP hD hS (lv_sub hl [1, 2, 0] rfl)
          have hP := z_eqP (w2 := (refW cs a (upd V 0 (nI (min (sn + 1) 4))) (zU (zU G 0 (cpF (51 + 3 * (gn - 1)) (dnF (upd (G 0) 8 (nI (gn - 1))) (51 + 3 * k) (51 + 3 * (gn - 1))) (fun _ => 0) 0)) 1 (svF sn (G 1) (G 0))))) (by rw [cp_0]; first | done | rfl) hP
          have hD : va_D A (refW cs a (upd V 0 (nI (min (sn + 1) 4))) (zU (zU G 0 (cpF (51 + 3 * (gn - 1)) (dnF (upd (G 0) 8 (nI (gn - 1))) (51 + 3 * k) (51 + 3 * (gn - 1))) (fun _ => 0) 0)) 1 (svF sn (G 1) (G 0)))) := z_eqD (by rw [cp_0]; first | done | rfl) hD
          exact lp74 (3 + 1) 0 (Nat.zero_le _) (by omega) _ _ _ hP hD hS (lv_sub hl [1, 2, 0] rfl)
        · skip
          have gj : j < 3 * (gn - 1) := z_geK (n := 3 * (gn - 1)) rfl (by omega) hj1 c_2
          refine lv_aload_n hx hb dX8_removeGuard_46 rfl (lv_at hl 0 rfl) ?_
          refine va_get (D := D) (ci := 8) (v := .ref (a 1)) (C := RX8) (T := TX8) (N := 13) hx hb hts wsI_X8 hown hK hP 0 rfl rfl 0 (by decide) (hts _ w_fl_X8_7) (fun _ h9 => h9) rfl dX8_removeGuard_47 ?_
          refine lv_bipush (v := 51) hx hb dX8_removeGuard_50 (by decide) ?_
          refine lv_iload_n hx hb dX8_removeGuard_52 rfl (lv_at hl 2 rfl) ?_
          refine lv_iadd hx hb dX8_removeGuard_53 ?_
          refine z_top (y := nI (51 + j)) (nI_add 51 j) ?_
          refine lv_aload_n hx hb dX8_removeGuard_54 rfl (lv_at hl 0 rfl) ?_
          refine va_get (D := D) (ci := 8) (v := .ref (a 1)) (C := RX8) (T := TX8) (N := 13) hx hb hts wsI_X8 hown hK hP 0 rfl rfl 0 (by decide) (hts _ w_fl_X8_7) (fun _ h9 => h9) rfl dX8_removeGuard_55 ?_
          refine lv_bipush (v := 51) hx hb dX8_removeGuard_58 (by decide) ?_
          refine lv_iload_n hx hb dX8_removeGuard_60 rfl (lv_at hl 2 rfl) ?_
          refine lv_iadd hx hb dX8_removeGuard_61 ?_
          refine z_top (y := nI (51 + j)) (nI_add 51 j) ?_
          refine lv_iconst (v := 3) hx hb dX8_removeGuard_62 (by decide) ?_
          refine lv_iadd hx hb dX8_removeGuard_63 ?_
          refine z_top (y := nI ((51 + j) + 3)) (nI_add (51 + j) 3) ?_
          refine z_iald (k := (51 + j) + 3) hx hb hK hP 1 rfl (by omega) (by first | decide | omega) dX8_removeGuard_64 ?_
          refine z_iast (k := 51 + j) hx hb hK hP hD hS 1 rfl (by omega) (by first | decide | omega) dX8_removeGuard_65 (fun H locs hP hD hS => ?_)
          have hP : va_P D vwCl (refW cs a (upd V 0 (nI (min (sn + 1) 4))) (zU (zU G 0 (upd (dnF (upd (G 0) 8 (nI (gn - 1))) (51 + 3 * k) (51 + j)) (51 + j) ((dnF (upd (G 0) 8 (nI (gn - 1))) (51 + 3 * k) (51 + j)) ((51 + j) + 3)))) 1 (svF sn (G 1) (G 0)))) H := hP
          have hD : va_D A (refW cs a (upd V 0 (nI (min (sn + 1) 4))) (zU (zU G 0 (upd (dnF (upd (G 0) 8 (nI (gn - 1))) (51 + 3 * k) (51 + j)) (51 + j) ((dnF (upd (G 0) 8 (nI (gn - 1))) (51 + 3 * k) (51 + j)) ((51 + j) + 3)))) 1 (svF sn (G 1) (G 0)))) := hD
          refine lv_iinc (v := nI (j + 1)) (lv' := [(2, .int (nI (j + 1))), (0, .ref (a 0)), (1, .int (nI k))]) hx hb dX8_removeGuard_66 hl (k := 2) rfl (show nI j + Int32.ofInt 1 = nI (j + 1) from nI_add j 1) (by decide) rfl (fun ls hl => ?_)
          refine lv_goto (tgt := 33) hx hb dX8_removeGuard_69 (by decide) ?_
          rw [dn_s (by omega)] at hP hD
          exact ih (j + 1) (by omega) (by omega) (by omega) _ _ _ hP hD hS (lv_sub hl [1, 2, 0] rfl)
    have hP := z_eqP (w2 := (refW cs a (upd V 0 (nI (min (sn + 1) 4))) (zU (zU G 0 (dnF (upd (G 0) 8 (nI (gn - 1))) (51 + 3 * k) (51 + 3 * k))) 1 (svF sn (G 1) (G 0))))) (by rw [dn_0]; first | done | rfl) hP
    have hD : va_D A (refW cs a (upd V 0 (nI (min (sn + 1) 4))) (zU (zU G 0 (dnF (upd (G 0) 8 (nI (gn - 1))) (51 + 3 * k) (51 + 3 * k))) 1 (svF sn (G 1) (G 0)))) := z_eqD (by rw [dn_0]; first | done | rfl) hD
    exact lp33 (3 * (gn - 1) + 1) (3 * k) (Nat.le_refl _) (by omega) (by omega) _ _ _ hP hD hS (lv_sub hl [1, 2, 0] rfl)
  · skip
    have c_1 := bI_0.mp c_1
    exact absurd q0 c_1

set_option maxHeartbeats 4000000 in
set_option maxRecDepth 100000 in
theorem c_X8_turn_t1 (l : Launch) (D : va_G) (cs : zCs) (a : Nat → Nat) (V : Nat → Int32) (G : Nat → Nat → Int32) (sn : Nat) (n0 : Nat) (st : Int32) (hsn : V 0 = nI sn) (hs4 : sn ≤ 4) (h0 : G 0 0 = nI n0) (hn0 : n0 ≤ 16) (hbad : ¬ (0 ≤ st ∧ st ≤ (G 0) 0 - 1)) : zM l D cs yX8_turn cX8_turn 3 (some FieldType.int) 2 46 0 0 [.ref (a 0), .int st] (refW cs a V G) (some (.int 0)) (refW cs a (upd V 1 1) G) := by
  refine zM.of (own := RX8) (by decide) (Nat.le_of_ble_eq_true rfl) rfl ?_
  intro pq eq s mq below meth cq A ls hx hb hr hml hown hts hlk hnm hE hK hA hP hD hS hl
  have hl : lv_has ls 3 [(0, .ref (a 0)), (1, .int st)] := hl
  refine lv_aload_n hx hb dX8_turn_0 rfl (lv_at hl 0 rfl) ?_
  refine lv_iload_n hx hb dX8_turn_1 rfl (lv_at hl 1 rfl) ?_
  refine z_callV (wn := (refW cs a V G)) ⟨hx, hb, hml, hown, hts⟩ zY_X8_isStep w_im_yX8_isStep w_se_yX8_isStep w_ml_X8_52 [.int st] [] (c_X8_isStep l D cs a V G st n0 h0 (by omega)) hE hK hA hP hD hS [0, 1, 2, 3, 4, 5, 6] rfl rfl rfl rfl 8 rfl rfl rfl rfl hl.1 (Nat.le_of_ble_eq_true rfl) ⟨Nat.le_of_ble_eq_true rfl, Nat.le_of_ble_eq_true rfl⟩ ⟨Nat.le_of_ble_eq_true rfl, Nat.le_of_ble_eq_true rfl⟩ dX8_turn_2 (fun H locs hP hD hS => ?_)
  refine lv_if_ne (tgt := 14) hx hb dX8_turn_5 (by decide) (fun c_1 => ?_) (fun c_1 => ?_)
  · skip
    have c_1 := bI_n0 c_1
    exact absurd c_1 hbad
  · skip
    have c_1 := bI_0.mp c_1
    refine lv_aload_n hx hb dX8_turn_8 rfl (lv_at hl 0 rfl) ?_
    refine lv_iconst (v := 1) hx hb dX8_turn_9 (by decide) ?_
    refine z_callV (wn := (refW cs a (upd V 1 1) G)) ⟨hx, hb, hml, hown, hts⟩ zY_X8_throwing w_im_yX8_throwing w_se_yX8_throwing w_ml_X8_55 [.int 1] [] (c_X8_throwing l D cs a V G 1) hE hK hA hP hD hS [0, 1, 2, 3, 4, 5, 6] rfl rfl rfl rfl 8 rfl rfl rfl rfl hl.1 (Nat.le_of_ble_eq_true rfl) ⟨Nat.le_of_ble_eq_true rfl, Nat.le_of_ble_eq_true rfl⟩ ⟨Nat.le_of_ble_eq_true rfl, Nat.le_of_ble_eq_true rfl⟩ dX8_turn_10 (fun H locs hP hD hS => ?_)
    exact z_iret hx hb hr hlk hK hP hD hS dX8_turn_13 rfl rfl

set_option maxHeartbeats 4000000 in
set_option maxRecDepth 100000 in
theorem c_X8_turn_ok (l : Launch) (D : va_G) (cs : zCs) (a : Nat → Nat) (V : Nat → Int32) (G : Nat → Nat → Int32) (sn : Nat) (n0 : Nat) (st : Int32) (hsn : V 0 = nI sn) (hs4 : sn ≤ 4) (h0 : G 0 0 = nI n0) (hn0 : n0 ≤ 16) (q0 : 0 ≤ st ∧ st ≤ (G 0) 0 - 1) : zM l D cs yX8_turn cX8_turn 3 (some FieldType.int) 2 46 0 0 [.ref (a 0), .int st] (refW cs a V G) (some (.int ((G 0) 1))) (refW cs a (upd (upd V 0 (nI (min (sn + 1) 4))) 1 0) (zU (zU G 0 (upd (upd (G 0) 1 st) 2 0)) 1 (svF sn (G 1) (G 0)))) := by
  refine zM.of (own := RX8) (by decide) (Nat.le_of_ble_eq_true rfl) rfl ?_
  intro pq eq s mq below meth cq A ls hx hb hr hml hown hts hlk hnm hE hK hA hP hD hS hl
  have hl : lv_has ls 3 [(0, .ref (a 0)), (1, .int st)] := hl
  refine lv_aload_n hx hb dX8_turn_0 rfl (lv_at hl 0 rfl) ?_
  refine lv_iload_n hx hb dX8_turn_1 rfl (lv_at hl 1 rfl) ?_
  refine z_callV (wn := (refW cs a V G)) ⟨hx, hb, hml, hown, hts⟩ zY_X8_isStep w_im_yX8_isStep w_se_yX8_isStep w_ml_X8_52 [.int st] [] (c_X8_isStep l D cs a V G st n0 h0 (by omega)) hE hK hA hP hD hS [0, 1, 2, 3, 4, 5, 6] rfl rfl rfl rfl 8 rfl rfl rfl rfl hl.1 (Nat.le_of_ble_eq_true rfl) ⟨Nat.le_of_ble_eq_true rfl, Nat.le_of_ble_eq_true rfl⟩ ⟨Nat.le_of_ble_eq_true rfl, Nat.le_of_ble_eq_true rfl⟩ dX8_turn_2 (fun H locs hP hD hS => ?_)
  refine lv_if_ne (tgt := 14) hx hb dX8_turn_5 (by decide) (fun c_1 => ?_) (fun c_1 => ?_)
  · skip
    have c_1 := bI_n0 c_1
    refine lv_aload_n hx hb dX8_turn_14 rfl (lv_at hl 0 rfl) ?_
    refine z_callV (wn := (refW cs a (upd V 0 (nI (min (sn + 1) 4))) (zU G 1 (svF sn (G 1) (G 0))))) ⟨hx, hb, hml, hown, hts⟩ zY_X8_save w_im_yX8_save w_se_yX8_save w_ml_X8_59 [] [] (c_X8_save l D cs a V G sn hsn hs4) hE hK hA hP hD hS [0, 1, 2, 3, 4, 5, 6] rfl rfl rfl rfl 8 rfl rfl rfl rfl hl.1 (Nat.le_of_ble_eq_true rfl) ⟨Nat.le_of_ble_eq_true rfl, Nat.le_of_ble_eq_true rfl⟩ ⟨Nat.le_of_ble_eq_true rfl, Nat.le_of_ble_eq_true rfl⟩ dX8_turn_15 (fun H locs hP hD hS => ?_)
    refine lv_aload_n hx hb dX8_turn_18 rfl (lv_at hl 0 rfl) ?_
    refine va_get (D := D) (ci := 8) (v := .ref (a 1)) (C := RX8) (T := TX8) (N := 13) hx hb hts wsI_X8 hown hK hP 0 rfl rfl 0 (by decide) (hts _ w_fl_X8_7) (fun _ h9 => h9) rfl dX8_turn_19 ?_
    refine lv_iconst (v := 1) hx hb dX8_turn_22 (by decide) ?_
    refine z_iald (k := 1) hx hb hK hP 1 rfl (by decide) (by first | decide | omega) dX8_turn_23 ?_
    refine lv_istore_n (lv' := [(2, .int ((G 0) 1)), (0, .ref (a 0)), (1, .int st)]) hx hb dX8_turn_24 rfl hl (by decide) rfl (fun ls hl => ?_)
    refine lv_aload_n hx hb dX8_turn_25 rfl (lv_at hl 1 rfl) ?_
    refine va_get (D := D) (ci := 8) (v := .ref (a 1)) (C := RX8) (T := TX8) (N := 13) hx hb hts wsI_X8 hown hK hP 0 rfl rfl 0 (by decide) (hts _ w_fl_X8_7) (fun _ h9 => h9) rfl dX8_turn_26 ?_
    refine lv_iconst (v := 1) hx hb dX8_turn_29 (by decide) ?_
    refine lv_iload_n hx hb dX8_turn_30 rfl (lv_at hl 2 rfl) ?_
    refine z_iast (k := 1) hx hb hK hP hD hS 1 rfl (by decide) (by first | decide | omega) dX8_turn_31 (fun H locs hP hD hS => ?_)
    have hP : va_P D vwCl (refW cs a (upd V 0 (nI (min (sn + 1) 4))) (zU (zU G 0 (upd (G 0) 1 st)) 1 (svF sn (G 1) (G 0)))) H := hP
    have hD : va_D A (refW cs a (upd V 0 (nI (min (sn + 1) 4))) (zU (zU G 0 (upd (G 0) 1 st)) 1 (svF sn (G 1) (G 0)))) := hD
    refine lv_aload_n hx hb dX8_turn_32 rfl (lv_at hl 1 rfl) ?_
    refine va_get (D := D) (ci := 8) (v := .ref (a 1)) (C := RX8) (T := TX8) (N := 13) hx hb hts wsI_X8 hown hK hP 0 rfl rfl 0 (by decide) (hts _ w_fl_X8_7) (fun _ h9 => h9) rfl dX8_turn_33 ?_
    refine lv_iconst (v := 2) hx hb dX8_turn_36 (by decide) ?_
    refine lv_iconst (v := 0) hx hb dX8_turn_37 (by decide) ?_
    refine z_iast (k := 2) hx hb hK hP hD hS 1 rfl (by decide) (by first | decide | omega) dX8_turn_38 (fun H locs hP hD hS => ?_)
    have hP : va_P D vwCl (refW cs a (upd V 0 (nI (min (sn + 1) 4))) (zU (zU G 0 (upd (upd (G 0) 1 st) 2 0)) 1 (svF sn (G 1) (G 0)))) H := hP
    have hD : va_D A (refW cs a (upd V 0 (nI (min (sn + 1) 4))) (zU (zU G 0 (upd (upd (G 0) 1 st) 2 0)) 1 (svF sn (G 1) (G 0)))) := hD
    refine lv_aload_n hx hb dX8_turn_39 rfl (lv_at hl 1 rfl) ?_
    refine lv_iload_n hx hb dX8_turn_40 rfl (lv_at hl 0 rfl) ?_
    refine z_callV (wn := (refW cs a (upd (upd V 0 (nI (min (sn + 1) 4))) 1 0) (zU (zU G 0 (upd (upd (G 0) 1 st) 2 0)) 1 (svF sn (G 1) (G 0))))) ⟨hx, hb, hml, hown, hts⟩ zY_X8_fine w_im_yX8_fine w_se_yX8_fine w_ml_X8_65 [.int ((G 0) 1)] [] (c_X8_fine l D cs a (upd V 0 (nI (min (sn + 1) 4))) (zU (zU G 0 (upd (upd (G 0) 1 st) 2 0)) 1 (svF sn (G 1) (G 0))) ((G 0) 1)) hE hK hA hP hD hS [0, 1, 2, 3, 4, 5, 6] rfl rfl rfl rfl 8 rfl rfl rfl rfl hl.1 (Nat.le_of_ble_eq_true rfl) ⟨Nat.le_of_ble_eq_true rfl, Nat.le_of_ble_eq_true rfl⟩ ⟨Nat.le_of_ble_eq_true rfl, Nat.le_of_ble_eq_true rfl⟩ dX8_turn_41 (fun H locs hP hD hS => ?_)
    exact z_iret hx hb hr hlk hK hP hD hS dX8_turn_44 rfl rfl
  · skip
    have c_1 := bI_0.mp c_1
    exact absurd q0 c_1

set_option maxHeartbeats 4000000 in
set_option maxRecDepth 100000 in
theorem c_X8_run_t1 (l : Launch) (D : va_G) (cs : zCs) (a : Nat → Nat) (V : Nat → Int32) (G : Nat → Nat → Int32) (sn : Nat) (tk : Int32) (hsn : V 0 = nI sn) (hs4 : sn ≤ 4) (hbad : ¬ (1 ≤ tk ∧ tk ≤ 500)) : zM l D cs yX8_run cX8_run 4 (some FieldType.int) 5 112 0 0 [.ref (a 0), .int tk] (refW cs a V G) (some (.int 0)) (refW cs a (upd V 1 1) G) := by
  refine zM.of (own := RX8) (by decide) (Nat.le_of_ble_eq_true rfl) rfl ?_
  intro pq eq s mq below meth cq A ls hx hb hr hml hown hts hlk hnm hE hK hA hP hD hS hl
  have hl : lv_has ls 4 [(0, .ref (a 0)), (1, .int tk)] := hl
  refine lv_iload_n hx hb dX8_run_0 rfl (lv_at hl 1 rfl) ?_
  refine lv_i2l (v := tk.toInt64) hx hb dX8_run_1 rfl ?_
  refine lv_lconst (v := 1) hx hb dX8_run_2 (by decide) ?_
  refine lv_ldc2 (v := 500) hx hb hown (hts _ w_ct_X8_83) dX8_run_3 ?_
  refine z_callS (wn := (refW cs a V G)) ⟨hx, hb, hml, hown, hts⟩ zY_X8_in w_st_yX8_in w_ml_X8_40 [.long tk.toInt64, .long 1, .long 500] [] (c_X8_in l D cs tk.toInt64 1 500) hE hK hA hP hD hS [] rfl rfl rfl z_ins_nil rfl hl.1 (Nat.le_of_ble_eq_true rfl) ⟨Nat.le_of_ble_eq_true rfl, Nat.le_of_ble_eq_true rfl⟩ ⟨Nat.le_of_ble_eq_true rfl, Nat.le_of_ble_eq_true rfl⟩ dX8_run_6 (fun H locs hP hD hS => ?_)
  refine z_top (y := bI (1 ≤ tk ∧ tk ≤ 500)) (bI_congr (in64 (by decide) (by decide))) ?_
  refine lv_if_ne (tgt := 18) hx hb dX8_run_9 (by decide) (fun c_1 => ?_) (fun c_1 => ?_)
  · skip
    have c_1 := bI_n0 c_1
    exact absurd c_1 hbad
  · skip
    have c_1 := bI_0.mp c_1
    refine lv_aload_n hx hb dX8_run_12 rfl (lv_at hl 0 rfl) ?_
    refine lv_iconst (v := 1) hx hb dX8_run_13 (by decide) ?_
    refine z_callV (wn := (refW cs a (upd V 1 1) G)) ⟨hx, hb, hml, hown, hts⟩ zY_X8_throwing w_im_yX8_throwing w_se_yX8_throwing w_ml_X8_55 [.int 1] [] (c_X8_throwing l D cs a V G 1) hE hK hA hP hD hS [0, 1, 2, 3, 4, 5, 6] rfl rfl rfl rfl 8 rfl rfl rfl rfl hl.1 (Nat.le_of_ble_eq_true rfl) ⟨Nat.le_of_ble_eq_true rfl, Nat.le_of_ble_eq_true rfl⟩ ⟨Nat.le_of_ble_eq_true rfl, Nat.le_of_ble_eq_true rfl⟩ dX8_run_14 (fun H locs hP hD hS => ?_)
    exact z_iret hx hb hr hlk hK hP hD hS dX8_run_17 rfl rfl

set_option maxHeartbeats 4000000 in
set_option maxRecDepth 100000 in
theorem c_X8_run_t2 (l : Launch) (D : va_G) (cs : zCs) (a : Nat → Nat) (V : Nat → Int32) (G : Nat → Nat → Int32) (sn : Nat) (tk : Int32) (hsn : V 0 = nI sn) (hs4 : sn ≤ 4) (q0 : 1 ≤ tk ∧ tk ≤ 500) (hbad : ¬ ((G 0) 9 + tk ≤ 100000)) : zM l D cs yX8_run cX8_run 4 (some FieldType.int) 5 112 0 0 [.ref (a 0), .int tk] (refW cs a V G) (some (.int 0)) (refW cs a (upd V 1 2) G) := by
  refine zM.of (own := RX8) (by decide) (Nat.le_of_ble_eq_true rfl) rfl ?_
  intro pq eq s mq below meth cq A ls hx hb hr hml hown hts hlk hnm hE hK hA hP hD hS hl
  have hl : lv_has ls 4 [(0, .ref (a 0)), (1, .int tk)] := hl
  refine lv_iload_n hx hb dX8_run_0 rfl (lv_at hl 1 rfl) ?_
  refine lv_i2l (v := tk.toInt64) hx hb dX8_run_1 rfl ?_
  refine lv_lconst (v := 1) hx hb dX8_run_2 (by decide) ?_
  refine lv_ldc2 (v := 500) hx hb hown (hts _ w_ct_X8_83) dX8_run_3 ?_
  refine z_callS (wn := (refW cs a V G)) ⟨hx, hb, hml, hown, hts⟩ zY_X8_in w_st_yX8_in w_ml_X8_40 [.long tk.toInt64, .long 1, .long 500] [] (c_X8_in l D cs tk.toInt64 1 500) hE hK hA hP hD hS [] rfl rfl rfl z_ins_nil rfl hl.1 (Nat.le_of_ble_eq_true rfl) ⟨Nat.le_of_ble_eq_true rfl, Nat.le_of_ble_eq_true rfl⟩ ⟨Nat.le_of_ble_eq_true rfl, Nat.le_of_ble_eq_true rfl⟩ dX8_run_6 (fun H locs hP hD hS => ?_)
  refine z_top (y := bI (1 ≤ tk ∧ tk ≤ 500)) (bI_congr (in64 (by decide) (by decide))) ?_
  refine lv_if_ne (tgt := 18) hx hb dX8_run_9 (by decide) (fun c_1 => ?_) (fun c_1 => ?_)
  · skip
    have c_1 := bI_n0 c_1
    refine lv_aload_n hx hb dX8_run_18 rfl (lv_at hl 0 rfl) ?_
    refine va_get (D := D) (ci := 8) (v := .ref (a 1)) (C := RX8) (T := TX8) (N := 13) hx hb hts wsI_X8 hown hK hP 0 rfl rfl 0 (by decide) (hts _ w_fl_X8_7) (fun _ h9 => h9) rfl dX8_run_19 ?_
    refine lv_bipush (v := 9) hx hb dX8_run_22 (by decide) ?_
    refine z_iald (k := 9) hx hb hK hP 1 rfl (by decide) (by first | decide | omega) dX8_run_24 ?_
    refine lv_iload_n hx hb dX8_run_25 rfl (lv_at hl 1 rfl) ?_
    refine lv_iadd hx hb dX8_run_26 ?_
    refine lv_ldc (v := 100000) hx hb hown (hts _ w_ct_X8_117) dX8_run_27 ?_
    refine lv_icmp_le (tgt := 38) hx hb dX8_run_29 (by decide) (fun c_2 => ?_) (fun c_2 => ?_)
    · skip
      exact absurd c_2 hbad
    · skip
      refine lv_aload_n hx hb dX8_run_32 rfl (lv_at hl 0 rfl) ?_
      refine lv_iconst (v := 2) hx hb dX8_run_33 (by decide) ?_
      refine z_callV (wn := (refW cs a (upd V 1 2) G)) ⟨hx, hb, hml, hown, hts⟩ zY_X8_throwing w_im_yX8_throwing w_se_yX8_throwing w_ml_X8_55 [.int 2] [] (c_X8_throwing l D cs a V G 2) hE hK hA hP hD hS [0, 1, 2, 3, 4, 5, 6] rfl rfl rfl rfl 8 rfl rfl rfl rfl hl.1 (Nat.le_of_ble_eq_true rfl) ⟨Nat.le_of_ble_eq_true rfl, Nat.le_of_ble_eq_true rfl⟩ ⟨Nat.le_of_ble_eq_true rfl, Nat.le_of_ble_eq_true rfl⟩ dX8_run_34 (fun H locs hP hD hS => ?_)
      exact z_iret hx hb hr hlk hK hP hD hS dX8_run_37 rfl rfl
  · skip
    have c_1 := bI_0.mp c_1
    exact absurd q0 c_1

set_option maxHeartbeats 4000000 in
set_option maxRecDepth 100000 in
theorem c_X8_run_ok (l : Launch) (D : va_G) (cs : zCs) (a : Nat → Nat) (V : Nat → Int32) (G : Nat → Nat → Int32) (sn : Nat) (tk : Int32) (hsn : V 0 = nI sn) (hs4 : sn ≤ 4) (hok : rOK (G 0)) (q0 : 1 ≤ tk ∧ tk ≤ 500) (q1 : (G 0) 9 + tk ≤ 100000) : zM l D cs yX8_run cX8_run 4 (some FieldType.int) 5 112 0 0 [.ref (a 0), .int tk] (refW cs a V G) (some (.int ((rTi ((G 0), V 2, V 3) (nN tk)).1 10 - (G 0) 10))) (refW cs a (upd (upd (upd (upd V 0 (nI (min (sn + 1) 4))) 1 0) 2 ((rTi ((G 0), V 2, V 3) (nN tk)).2.1)) 3 ((rTi ((G 0), V 2, V 3) (nN tk)).2.2)) (zU (zU G 0 ((rTi ((G 0), V 2, V 3) (nN tk)).1)) 1 (svF sn (G 1) (G 0)))) := by
  refine zM.of (own := RX8) (by decide) (Nat.le_of_ble_eq_true rfl) rfl ?_
  intro pq eq s mq below meth cq A ls hx hb hr hml hown hts hlk hnm hE hK hA hP hD hS hl
  have hl : lv_has ls 4 [(0, .ref (a 0)), (1, .int tk)] := hl
  refine lv_iload_n hx hb dX8_run_0 rfl (lv_at hl 1 rfl) ?_
  refine lv_i2l (v := tk.toInt64) hx hb dX8_run_1 rfl ?_
  refine lv_lconst (v := 1) hx hb dX8_run_2 (by decide) ?_
  refine lv_ldc2 (v := 500) hx hb hown (hts _ w_ct_X8_83) dX8_run_3 ?_
  refine z_callS (wn := (refW cs a V G)) ⟨hx, hb, hml, hown, hts⟩ zY_X8_in w_st_yX8_in w_ml_X8_40 [.long tk.toInt64, .long 1, .long 500] [] (c_X8_in l D cs tk.toInt64 1 500) hE hK hA hP hD hS [] rfl rfl rfl z_ins_nil rfl hl.1 (Nat.le_of_ble_eq_true rfl) ⟨Nat.le_of_ble_eq_true rfl, Nat.le_of_ble_eq_true rfl⟩ ⟨Nat.le_of_ble_eq_true rfl, Nat.le_of_ble_eq_true rfl⟩ dX8_run_6 (fun H locs hP hD hS => ?_)
  refine z_top (y := bI (1 ≤ tk ∧ tk ≤ 500)) (bI_congr (in64 (by decide) (by decide))) ?_
  refine lv_if_ne (tgt := 18) hx hb dX8_run_9 (by decide) (fun c_1 => ?_) (fun c_1 => ?_)
  · skip
    have c_1 := bI_n0 c_1
    refine lv_aload_n hx hb dX8_run_18 rfl (lv_at hl 0 rfl) ?_
    refine va_get (D := D) (ci := 8) (v := .ref (a 1)) (C := RX8) (T := TX8) (N := 13) hx hb hts wsI_X8 hown hK hP 0 rfl rfl 0 (by decide) (hts _ w_fl_X8_7) (fun _ h9 => h9) rfl dX8_run_19 ?_
    refine lv_bipush (v := 9) hx hb dX8_run_22 (by decide) ?_
    refine z_iald (k := 9) hx hb hK hP 1 rfl (by decide) (by first | decide | omega) dX8_run_24 ?_
    refine lv_iload_n hx hb dX8_run_25 rfl (lv_at hl 1 rfl) ?_
    refine lv_iadd hx hb dX8_run_26 ?_
    refine lv_ldc (v := 100000) hx hb hown (hts _ w_ct_X8_117) dX8_run_27 ?_
    refine lv_icmp_le (tgt := 38) hx hb dX8_run_29 (by decide) (fun c_2 => ?_) (fun c_2 => ?_)
    · skip
      obtain ⟨T, hT, rfl⟩ := z_nat500 c_1
      have hNT := nN_nI (k := T) (by omega)
      refine lv_aload_n hx hb dX8_run_38 rfl (lv_at hl 0 rfl) ?_
      refine z_callV (wn := (refW cs a (upd V 0 (nI (min (sn + 1) 4))) (zU G 1 (svF sn (G 1) (G 0))))) ⟨hx, hb, hml, hown, hts⟩ zY_X8_save w_im_yX8_save w_se_yX8_save w_ml_X8_59 [] [] (c_X8_save l D cs a V G sn hsn hs4) hE hK hA hP hD hS [0, 1, 2, 3, 4, 5, 6] rfl rfl rfl rfl 8 rfl rfl rfl rfl hl.1 (Nat.le_of_ble_eq_true rfl) ⟨Nat.le_of_ble_eq_true rfl, Nat.le_of_ble_eq_true rfl⟩ ⟨Nat.le_of_ble_eq_true rfl, Nat.le_of_ble_eq_true rfl⟩ dX8_run_39 (fun H locs hP hD hS => ?_)
      refine lv_aload_n hx hb dX8_run_42 rfl (lv_at hl 0 rfl) ?_
      refine va_get (D := D) (ci := 8) (v := .ref (a 1)) (C := RX8) (T := TX8) (N := 13) hx hb hts wsI_X8 hown hK hP 0 rfl rfl 0 (by decide) (hts _ w_fl_X8_7) (fun _ h9 => h9) rfl dX8_run_43 ?_
      refine lv_bipush (v := 10) hx hb dX8_run_46 (by decide) ?_
      refine z_iald (k := 10) hx hb hK hP 1 rfl (by decide) (by first | decide | omega) dX8_run_48 ?_
      refine lv_istore_n (lv' := [(2, .int ((G 0) 10)), (0, .ref (a 0)), (1, .int (nI T))]) hx hb dX8_run_49 rfl hl (by decide) rfl (fun ls hl => ?_)
      refine lv_iconst (v := 0) hx hb dX8_run_50 (by decide) ?_
      refine lv_istore_n (lv' := [(3, .int 0), (2, .int ((G 0) 10)), (0, .ref (a 0)), (1, .int (nI T))]) hx hb dX8_run_51 rfl hl (by decide) rfl (fun ls hl => ?_)
      have lp52 : ∀ (z : Nat) (i : Nat), (i ≤ T) → (T + 1 ≤ i + z) → ∀ (H : Heap) (locs : List Loc) (ls : Array Slot), va_P D vwCl (refW cs a (upd (upd (upd V 0 (nI (min (sn + 1) 4))) 2 ((rTi ((G 0), V 2, V 3) i).2.1)) 3 ((rTi ((G 0), V 2, V 3) i).2.2)) (zU (zU G 0 ((rTi ((G 0), V 2, V 3) i).1)) 1 (svF sn (G 1) (G 0)))) H → va_D A (refW cs a (upd (upd (upd V 0 (nI (min (sn + 1) 4))) 2 ((rTi ((G 0), V 2, V 3) i).2.1)) 3 ((rTi ((G 0), V 2, V 3) i).2.2)) (zU (zU G 0 ((rTi ((G 0), V 2, V 3) i).1)) 1 (svF sn (G 1) (G 0)))) → va_S A s.heap H locs → lv_has ls 4 [(0, .ref (a 0)), (1, .int (nI T)), (2, .int ((G 0) 10)), (3, .int (nI i))] → W pq l eq ({ frames := 5, cells := 0, slots := 0, locals := 112 } : Room) s mq ([.ref (a 0), .int (nI T)] : List Value).toArray below meth cq H locs 0 0 (MQ below (zQ D cs (some (.int ((rTi ((G 0), V 2, V 3) (nN (nI T))).1 10 - (G 0) 10))) (refW cs a (upd (upd (upd (upd V 0 (nI (min (sn + 1) 4))) 1 0) 2 ((rTi ((G 0), V 2, V 3) (nN (nI T))).2.1)) 3 ((rTi ((G 0), V 2, V 3) (nN (nI T))).2.2)) (zU (zU G 0 ((rTi ((G 0), V 2, V 3) (nN (nI T))).1)) 1 (svF sn (G 1) (G 0)))) A) ([.ref (a 0), .int (nI T)] : List Value).toArray s 0 0 A) (F0 mq 52 ls []) := by
        intro z
        induction z with
        | zero =>
          intro i hi1 hi2 H locs ls hP hD hS hl
          omega
        | succ z ih =>
          intro i hi1 hi2 H locs ls hP hD hS hl
          refine lv_iload_n hx hb dX8_run_52 rfl (lv_at hl 3 rfl) ?_
          refine lv_iload_n hx hb dX8_run_53 rfl (lv_at hl 1 rfl) ?_
          refine lv_icmp_ge (tgt := 67) hx hb dX8_run_54 (by decide) (fun c_3 => ?_) (fun c_3 => ?_)
          · skip
            have ei : T = i := (z_leK (n := T) rfl (by omega) hi1 c_3).symm
            subst ei
            refine lv_aload_n hx hb dX8_run_67 rfl (lv_at hl 0 rfl) ?_
            refine lv_aload_n hx hb dX8_run_68 rfl (lv_at hl 0 rfl) ?_
            refine va_get (D := D) (ci := 8) (v := .ref (a 1)) (C := RX8) (T := TX8) (N := 13) hx hb hts wsI_X8 hown hK hP 0 rfl rfl 0 (by decide) (hts _ w_fl_X8_7) (fun _ h9 => h9) rfl dX8_run_69 ?_
            refine lv_bipush (v := 10) hx hb dX8_run_72 (by decide) ?_
            refine z_iald (k := 10) hx hb hK hP 1 rfl (by decide) (by first | decide | omega) dX8_run_74 ?_
            refine lv_iload_n hx hb dX8_run_75 rfl (lv_at hl 2 rfl) ?_
            refine lv_isub hx hb dX8_run_76 ?_
            refine z_callV (wn := (refW cs a (upd (upd (upd (upd V 0 (nI (min (sn + 1) 4))) 1 0) 2 ((rTi ((G 0), V 2, V 3) T).2.1)) 3 ((rTi ((G 0), V 2, V 3) T).2.2)) (zU (zU G 0 ((rTi ((G 0), V 2, V 3) T).1)) 1 (svF sn (G 1) (G 0))))) ⟨hx, hb, hml, hown, hts⟩ zY_X8_fine w_im_yX8_fine w_se_yX8_fine w_ml_X8_65 [.int ((((rTi ((G 0), V 2, V 3) T).1) 10) - ((G 0) 10))] [] (c_X8_fine l D cs a (upd (upd (upd V 0 (nI (min (sn + 1) 4))) 2 ((rTi ((G 0), V 2, V 3) T).2.1)) 3 ((rTi ((G 0), V 2, V 3) T).2.2)) (zU (zU G 0 ((rTi ((G 0), V 2, V 3) T).1)) 1 (svF sn (G 1) (G 0))) ((((rTi ((G 0), V 2, V 3) T).1) 10) - ((G 0) 10))) hE hK hA hP hD hS [0, 1, 2, 3, 4, 5, 6] rfl rfl rfl rfl 8 rfl rfl rfl rfl hl.1 (Nat.le_of_ble_eq_true rfl) ⟨Nat.le_of_ble_eq_true rfl, Nat.le_of_ble_eq_true rfl⟩ ⟨Nat.le_of_ble_eq_true rfl, Nat.le_of_ble_eq_true rfl⟩ dX8_run_77 (fun H locs hP hD hS => ?_)
            exact z_iret hx hb hr hlk hK hP hD hS dX8_run_80 (by simp only [hNT]) (by simp only [hNT])
          · skip
            have gi : i < T := z_geK (n := T) rfl (by omega) hi1 c_3
            refine lv_aload_n hx hb dX8_run_57 rfl (lv_at hl 0 rfl) ?_
            refine z_callV (wn := (refW cs a (upd (upd (upd V 0 (nI (min (sn + 1) 4))) 2 (bI (rWent (rT0 ((rTi ((G 0), V 2, V 3) i).1))))) 3 (bI (rAllN (rT0 ((rTi ((G 0), V 2, V 3) i).1)) 5))) (zU (zU G 0 (rTk ((rTi ((G 0), V 2, V 3) i).1))) 1 (svF sn (G 1) (G 0))))) ⟨hx, hb, hml, hown, hts⟩ zY_X8_tick w_im_yX8_tick w_se_yX8_tick w_ml_X8_118 [] [] (c_X8_tick l D cs a (upd (upd (upd V 0 (nI (min (sn + 1) 4))) 2 ((rTi ((G 0), V 2, V 3) i).2.1)) 3 ((rTi ((G 0), V 2, V 3) i).2.2)) (zU (zU G 0 ((rTi ((G 0), V 2, V 3) i).1)) 1 (svF sn (G 1) (G 0))) (rOK_Ti hok)) hE hK hA hP hD hS [0, 1, 2, 3, 4, 5, 6] rfl rfl rfl rfl 8 rfl rfl rfl rfl hl.1 (Nat.le_of_ble_eq_true rfl) ⟨Nat.le_of_ble_eq_true rfl, Nat.le_of_ble_eq_true rfl⟩ ⟨Nat.le_of_ble_eq_true rfl, Nat.le_of_ble_eq_true rfl⟩ dX8_run_58 (fun H locs hP hD hS => ?_)
            refine lv_iinc (v := nI (i + 1)) (lv' := [(3, .int (nI (i + 1))), (0, .ref (a 0)), (1, .int (nI T)), (2, .int ((G 0) 10))]) hx hb dX8_run_61 hl (k := 3) rfl (show nI i + Int32.ofInt 1 = nI (i + 1) from nI_add i 1) (by decide) rfl (fun ls hl => ?_)
            refine lv_goto (tgt := 52) hx hb dX8_run_64 (by decide) ?_
            exact ih (i + 1) (by omega) (by omega) _ _ _ hP hD hS (lv_sub hl [1, 2, 3, 0] rfl)
      have hP := z_eqP (w2 := (refW cs a (upd (upd (upd V 0 (nI (min (sn + 1) 4))) 2 ((rTi ((G 0), V 2, V 3) 0).2.1)) 3 ((rTi ((G 0), V 2, V 3) 0).2.2)) (zU (zU G 0 ((rTi ((G 0), V 2, V 3) 0).1)) 1 (svF sn (G 1) (G 0))))) (by first | done | rfl) hP
      have hD : va_D A (refW cs a (upd (upd (upd V 0 (nI (min (sn + 1) 4))) 2 ((rTi ((G 0), V 2, V 3) 0).2.1)) 3 ((rTi ((G 0), V 2, V 3) 0).2.2)) (zU (zU G 0 ((rTi ((G 0), V 2, V 3) 0).1)) 1 (svF sn (G 1) (G 0)))) := z_eqD (by first | done | rfl) hD
      exact lp52 (T + 1) 0 (Nat.zero_le _) (by omega) _ _ _ hP hD hS (lv_sub hl [2, 3, 1, 0] rfl)
    · skip
      exact absurd q1 c_2
  · skip
    have c_1 := bI_0.mp c_1
    exact absurd q0 c_1

set_option maxHeartbeats 4000000 in
set_option maxRecDepth 100000 in
theorem c_X8_cam_t1 (l : Launch) (D : va_G) (cs : zCs) (a : Nat → Nat) (V : Nat → Int32) (G : Nat → Nat → Int32) (n0 : Nat) (tr st : Int32) (h0 : G 0 0 = nI n0) (hn0 : n0 ≤ 16) (hbad : ¬ ((0 ≤ tr ∧ tr ≤ 4) ∧ (0 ≤ st ∧ st ≤ (G 0) 0 - 1))) : zM l D cs yX8_cam cX8_cam 4 (some FieldType.boolean) 2 46 0 0 [.ref (a 0), .int tr, .int st] (refW cs a V G) (some (.int 0)) (refW cs a (upd V 1 1) G) := by
  refine zM.of (own := RX8) (by decide) (Nat.le_of_ble_eq_true rfl) rfl ?_
  intro pq eq s mq below meth cq A ls hx hb hr hml hown hts hlk hnm hE hK hA hP hD hS hl
  have hl : lv_has ls 4 [(0, .ref (a 0)), (1, .int tr), (2, .int st)] := hl
  refine lv_iload_n hx hb dX8_cam_0 rfl (lv_at hl 1 rfl) ?_
  refine z_callS (wn := (refW cs a V G)) ⟨hx, hb, hml, hown, hts⟩ zY_X8_isCylinder w_st_yX8_isCylinder w_ml_X8_48 [.int tr] [] (c_X8_isCylinder l D cs tr) hE hK hA hP hD hS [] rfl rfl rfl z_ins_nil rfl hl.1 (Nat.le_of_ble_eq_true rfl) ⟨Nat.le_of_ble_eq_true rfl, Nat.le_of_ble_eq_true rfl⟩ ⟨Nat.le_of_ble_eq_true rfl, Nat.le_of_ble_eq_true rfl⟩ dX8_cam_1 (fun H locs hP hD hS => ?_)
  refine lv_if_eq (tgt := 19) hx hb dX8_cam_4 (by decide) (fun c_1 => ?_) (fun c_1 => ?_)
  · skip
    have c_1 := bI_0.mp c_1
    refine lv_iconst (v := 0) hx hb dX8_cam_19 (by decide) ?_
    refine lv_istore_n (lv' := [(3, .int 0), (0, .ref (a 0)), (1, .int tr), (2, .int st)]) hx hb dX8_cam_20 rfl hl (by decide) rfl (fun ls hl => ?_)
    refine lv_aload_n hx hb dX8_cam_21 rfl (lv_at hl 1 rfl) ?_
    refine lv_iload_n hx hb dX8_cam_22 rfl (lv_at hl 0 rfl) ?_
    refine lv_if_eq (tgt := 30) hx hb dX8_cam_23 (by decide) (fun c_2 => ?_) (fun c_2 => ?_)
    · skip
      refine lv_iconst (v := 1) hx hb dX8_cam_30 (by decide) ?_
      refine va_put (D := D) (ci := 8) (v := .int 1) (C := RX8) (T := TX8) (N := 13) hx hb hts wsI_X8 tyX8 tyX8_ok nmX8 hown hK hP hD hS 0 rfl rfl 4 (by decide) (hts _ w_fl_X8_31) (fun _ h9 => h9) rfl (tyX8_ok 4 (by decide)) rfl rfl (Nat.le_of_ble_eq_true rfl) dX8_cam_31 (fun H locs hP hD hS => ?_)
      have hP : va_P D vwCl (refW cs a (upd V 1 1) G) H := hP
      have hD : va_D A (refW cs a (upd V 1 1) G) := hD
      refine lv_iload_n hx hb dX8_cam_34 rfl (lv_at hl 0 rfl) ?_
      refine lv_if_eq (tgt := 51) hx hb dX8_cam_35 (by decide) (fun c_3 => ?_) (fun c_3 => ?_)
      · skip
        refine lv_iconst (v := 0) hx hb dX8_cam_51 (by decide) ?_
        exact z_zret hx hb hr hlk hK hP hD hS dX8_cam_52 rfl rfl rfl
      · skip
        exact absurd (by decide) c_3
    · skip
      exact absurd (by decide) c_2
  · skip
    have c_1 := bI_n0 c_1
    refine lv_aload_n hx hb dX8_cam_7 rfl (lv_at hl 0 rfl) ?_
    refine lv_iload_n hx hb dX8_cam_8 rfl (lv_at hl 2 rfl) ?_
    refine z_callV (wn := (refW cs a V G)) ⟨hx, hb, hml, hown, hts⟩ zY_X8_isStep w_im_yX8_isStep w_se_yX8_isStep w_ml_X8_52 [.int st] [] (c_X8_isStep l D cs a V G st n0 h0 (by omega)) hE hK hA hP hD hS [0, 1, 2, 3, 4, 5, 6] rfl rfl rfl rfl 8 rfl rfl rfl rfl hl.1 (Nat.le_of_ble_eq_true rfl) ⟨Nat.le_of_ble_eq_true rfl, Nat.le_of_ble_eq_true rfl⟩ ⟨Nat.le_of_ble_eq_true rfl, Nat.le_of_ble_eq_true rfl⟩ dX8_cam_9 (fun H locs hP hD hS => ?_)
    refine lv_if_eq (tgt := 19) hx hb dX8_cam_12 (by decide) (fun c_4 => ?_) (fun c_4 => ?_)
    · skip
      have c_4 := bI_0.mp c_4
      refine lv_iconst (v := 0) hx hb dX8_cam_19 (by decide) ?_
      refine lv_istore_n (lv' := [(3, .int 0), (0, .ref (a 0)), (1, .int tr), (2, .int st)]) hx hb dX8_cam_20 rfl hl (by decide) rfl (fun ls hl => ?_)
      refine lv_aload_n hx hb dX8_cam_21 rfl (lv_at hl 1 rfl) ?_
      refine lv_iload_n hx hb dX8_cam_22 rfl (lv_at hl 0 rfl) ?_
      refine lv_if_eq (tgt := 30) hx hb dX8_cam_23 (by decide) (fun c_5 => ?_) (fun c_5 => ?_)
      · skip
        refine lv_iconst (v := 1) hx hb dX8_cam_30 (by decide) ?_
        refine va_put (D := D) (ci := 8) (v := .int 1) (C := RX8) (T := TX8) (N := 13) hx hb hts wsI_X8 tyX8 tyX8_ok nmX8 hown hK hP hD hS 0 rfl rfl 4 (by decide) (hts _ w_fl_X8_31) (fun _ h9 => h9) rfl (tyX8_ok 4 (by decide)) rfl rfl (Nat.le_of_ble_eq_true rfl) dX8_cam_31 (fun H locs hP hD hS => ?_)
        have hP : va_P D vwCl (refW cs a (upd V 1 1) G) H := hP
        have hD : va_D A (refW cs a (upd V 1 1) G) := hD
        refine lv_iload_n hx hb dX8_cam_34 rfl (lv_at hl 0 rfl) ?_
        refine lv_if_eq (tgt := 51) hx hb dX8_cam_35 (by decide) (fun c_6 => ?_) (fun c_6 => ?_)
        · skip
          refine lv_iconst (v := 0) hx hb dX8_cam_51 (by decide) ?_
          exact z_zret hx hb hr hlk hK hP hD hS dX8_cam_52 rfl rfl rfl
        · skip
          exact absurd (by decide) c_6
      · skip
        exact absurd (by decide) c_5
    · skip
      have c_4 := bI_n0 c_4
      exact absurd ⟨c_1, c_4⟩ hbad

set_option maxHeartbeats 4000000 in
set_option maxRecDepth 100000 in
theorem c_X8_cam_ok (l : Launch) (D : va_G) (cs : zCs) (a : Nat → Nat) (V : Nat → Int32) (G : Nat → Nat → Int32) (n0 : Nat) (tr st : Int32) (h0 : G 0 0 = nI n0) (hn0 : n0 ≤ 16) (q0 : 0 ≤ tr ∧ tr ≤ 4) (q1 : 0 ≤ st ∧ st ≤ (G 0) 0 - 1) : zM l D cs yX8_cam cX8_cam 4 (some FieldType.boolean) 2 46 0 0 [.ref (a 0), .int tr, .int st] (refW cs a V G) (some (.int (bI (rHas (G 0) (nN tr) st)))) (refW cs a (upd V 1 0) G) := by
  refine zM.of (own := RX8) (by decide) (Nat.le_of_ble_eq_true rfl) rfl ?_
  intro pq eq s mq below meth cq A ls hx hb hr hml hown hts hlk hnm hE hK hA hP hD hS hl
  have hl : lv_has ls 4 [(0, .ref (a 0)), (1, .int tr), (2, .int st)] := hl
  refine lv_iload_n hx hb dX8_cam_0 rfl (lv_at hl 1 rfl) ?_
  refine z_callS (wn := (refW cs a V G)) ⟨hx, hb, hml, hown, hts⟩ zY_X8_isCylinder w_st_yX8_isCylinder w_ml_X8_48 [.int tr] [] (c_X8_isCylinder l D cs tr) hE hK hA hP hD hS [] rfl rfl rfl z_ins_nil rfl hl.1 (Nat.le_of_ble_eq_true rfl) ⟨Nat.le_of_ble_eq_true rfl, Nat.le_of_ble_eq_true rfl⟩ ⟨Nat.le_of_ble_eq_true rfl, Nat.le_of_ble_eq_true rfl⟩ dX8_cam_1 (fun H locs hP hD hS => ?_)
  refine lv_if_eq (tgt := 19) hx hb dX8_cam_4 (by decide) (fun c_1 => ?_) (fun c_1 => ?_)
  · skip
    have c_1 := bI_0.mp c_1
    exact absurd q0 c_1
  · skip
    have c_1 := bI_n0 c_1
    refine lv_aload_n hx hb dX8_cam_7 rfl (lv_at hl 0 rfl) ?_
    refine lv_iload_n hx hb dX8_cam_8 rfl (lv_at hl 2 rfl) ?_
    refine z_callV (wn := (refW cs a V G)) ⟨hx, hb, hml, hown, hts⟩ zY_X8_isStep w_im_yX8_isStep w_se_yX8_isStep w_ml_X8_52 [.int st] [] (c_X8_isStep l D cs a V G st n0 h0 (by omega)) hE hK hA hP hD hS [0, 1, 2, 3, 4, 5, 6] rfl rfl rfl rfl 8 rfl rfl rfl rfl hl.1 (Nat.le_of_ble_eq_true rfl) ⟨Nat.le_of_ble_eq_true rfl, Nat.le_of_ble_eq_true rfl⟩ ⟨Nat.le_of_ble_eq_true rfl, Nat.le_of_ble_eq_true rfl⟩ dX8_cam_9 (fun H locs hP hD hS => ?_)
    refine lv_if_eq (tgt := 19) hx hb dX8_cam_12 (by decide) (fun c_2 => ?_) (fun c_2 => ?_)
    · skip
      have c_2 := bI_0.mp c_2
      exact absurd q1 c_2
    · skip
      have c_2 := bI_n0 c_2
      refine lv_iconst (v := 1) hx hb dX8_cam_15 (by decide) ?_
      refine lv_goto (tgt := 20) hx hb dX8_cam_16 (by decide) ?_
      refine lv_istore_n (lv' := [(3, .int 1), (0, .ref (a 0)), (1, .int tr), (2, .int st)]) hx hb dX8_cam_20 rfl hl (by decide) rfl (fun ls hl => ?_)
      refine lv_aload_n hx hb dX8_cam_21 rfl (lv_at hl 1 rfl) ?_
      refine lv_iload_n hx hb dX8_cam_22 rfl (lv_at hl 0 rfl) ?_
      refine lv_if_eq (tgt := 30) hx hb dX8_cam_23 (by decide) (fun c_3 => ?_) (fun c_3 => ?_)
      · skip
        exact absurd c_3 (by decide)
      · skip
        refine lv_iconst (v := 0) hx hb dX8_cam_26 (by decide) ?_
        refine lv_goto (tgt := 31) hx hb dX8_cam_27 (by decide) ?_
        refine va_put (D := D) (ci := 8) (v := .int 0) (C := RX8) (T := TX8) (N := 13) hx hb hts wsI_X8 tyX8 tyX8_ok nmX8 hown hK hP hD hS 0 rfl rfl 4 (by decide) (hts _ w_fl_X8_31) (fun _ h9 => h9) rfl (tyX8_ok 4 (by decide)) rfl rfl (Nat.le_of_ble_eq_true rfl) dX8_cam_31 (fun H locs hP hD hS => ?_)
        have hP : va_P D vwCl (refW cs a (upd V 1 0) G) H := hP
        have hD : va_D A (refW cs a (upd V 1 0) G) := hD
        refine lv_iload_n hx hb dX8_cam_34 rfl (lv_at hl 0 rfl) ?_
        refine lv_if_eq (tgt := 51) hx hb dX8_cam_35 (by decide) (fun c_4 => ?_) (fun c_4 => ?_)
        · skip
          exact absurd c_4 (by decide)
        · skip
          obtain ⟨k, hk, rfl⟩ := z_nat4 c_1
          have hNk := nN_nI (k := k) (by omega)
          refine lv_aload_n hx hb dX8_cam_38 rfl (lv_at hl 1 rfl) ?_
          refine lv_iload_n hx hb dX8_cam_39 rfl (lv_at hl 2 rfl) ?_
          refine lv_iload_n hx hb dX8_cam_40 rfl (lv_at hl 3 rfl) ?_
          refine z_callV (wn := (refW cs a (upd V 1 0) G)) ⟨hx, hb, hml, hown, hts⟩ zY_X8_hasCam w_im_yX8_hasCam w_se_yX8_hasCam w_ml_X8_44 [.int (nI k), .int st] [] (c_X8_hasCam l D cs a (upd V 1 0) G k st hk) hE hK hA hP hD hS [0, 1, 2, 3, 4, 5, 6] rfl rfl rfl rfl 8 rfl rfl rfl rfl hl.1 (Nat.le_of_ble_eq_true rfl) ⟨Nat.le_of_ble_eq_true rfl, Nat.le_of_ble_eq_true rfl⟩ ⟨Nat.le_of_ble_eq_true rfl, Nat.le_of_ble_eq_true rfl⟩ dX8_cam_41 (fun H locs hP hD hS => ?_)
          refine lv_if_eq (tgt := 51) hx hb dX8_cam_44 (by decide) (fun c_5 => ?_) (fun c_5 => ?_)
          · skip
            have c_5 := bI_0.mp c_5
            refine lv_iconst (v := 0) hx hb dX8_cam_51 (by decide) ?_
            exact z_zret hx hb hr hlk hK hP hD hS dX8_cam_52 rfl (by rw [hNk, bI_f c_5]) rfl
          · skip
            have c_5 := bI_n0 c_5
            refine lv_iconst (v := 1) hx hb dX8_cam_47 (by decide) ?_
            refine lv_goto (tgt := 52) hx hb dX8_cam_48 (by decide) ?_
            exact z_zret hx hb hr hlk hK hP hD hS dX8_cam_52 rfl (by rw [hNk, bI_t c_5]) rfl

set_option maxHeartbeats 4000000 in
set_option maxRecDepth 100000 in
theorem c_X8_cylinderOf (l : Launch) (D : va_G) (cs : zCs) (a : Nat → Nat) (V : Nat → Int32) (G : Nat → Nat → Int32) (c j : Nat) (hc : c < 5) (hj : j < 8) (hok : rOK (G 0)) : zM l D cs yX8_cylinderOf cX8_cylinderOf 3 (some FieldType.int) 3 66 0 0 [.ref (a 0), .int (nI c), .int (nI j)] (refW cs a V G) (some (.int (rcyl (G 0) c j))) (refW cs a V G) := by
  refine zM.of (own := RX8) (by decide) (Nat.le_of_ble_eq_true rfl) rfl ?_
  intro pq eq s mq below meth cq A ls hx hb hr hml hown hts hlk hnm hE hK hA hP hD hS hl
  have hl : lv_has ls 3 [(0, .ref (a 0)), (1, .int (nI c)), (2, .int (nI j))] := hl
  obtain ⟨-, -, ⟨gn, hg4, h8, ho⟩, hz⟩ := id hok
  refine lv_iload_n hx hb dX8_cylinderOf_0 rfl (lv_at hl 2 rfl) ?_
  rcases (show j = 0 ∨ j = 1 ∨ j = 2 ∨ j = 3 ∨ j = 4 ∨ j = 5 ∨ j = 6 ∨ j = 7 by omega) with rfl | rfl | rfl | rfl | rfl | rfl | rfl | rfl
  · skip
    refine lv_tableOut (tgt := 61) hx hb dX8_cylinderOf_1 (by decide) (by decide) ?_
    refine lv_aload_n hx hb dX8_cylinderOf_61 rfl (lv_at hl 0 rfl) ?_
    refine va_get (D := D) (ci := 8) (v := .ref (a 1)) (C := RX8) (T := TX8) (N := 13) hx hb hts wsI_X8 hown hK hP 0 rfl rfl 0 (by decide) (hts _ w_fl_X8_7) (fun _ h9 => h9) rfl dX8_cylinderOf_62 ?_
    refine lv_bipush (v := 21) hx hb dX8_cylinderOf_65 (by decide) ?_
    refine lv_bipush (v := 6) hx hb dX8_cylinderOf_67 (by decide) ?_
    refine lv_iload_n hx hb dX8_cylinderOf_69 rfl (lv_at hl 1 rfl) ?_
    refine lv_imul hx hb dX8_cylinderOf_70 ?_
    refine z_top (y := nI (6 * c)) (pk_mul 6 c) ?_
    refine lv_iadd hx hb dX8_cylinderOf_71 ?_
    refine z_top (y := nI (21 + (6 * c))) (nI_add 21 (6 * c)) ?_
    refine lv_iload_n hx hb dX8_cylinderOf_72 rfl (lv_at hl 2 rfl) ?_
    refine lv_iadd hx hb dX8_cylinderOf_73 ?_
    refine z_top (y := nI ((21 + (6 * c)) + 0)) (nI_add (21 + (6 * c)) 0) ?_
    refine z_iald (k := (21 + (6 * c)) + 0) hx hb hK hP 1 rfl (by omega) (by first | decide | omega) dX8_cylinderOf_74 ?_
    exact z_iret hx hb hr hlk hK hP hD hS dX8_cylinderOf_75 rfl rfl
  · skip
    refine lv_tableOut (tgt := 61) hx hb dX8_cylinderOf_1 (by decide) (by decide) ?_
    refine lv_aload_n hx hb dX8_cylinderOf_61 rfl (lv_at hl 0 rfl) ?_
    refine va_get (D := D) (ci := 8) (v := .ref (a 1)) (C := RX8) (T := TX8) (N := 13) hx hb hts wsI_X8 hown hK hP 0 rfl rfl 0 (by decide) (hts _ w_fl_X8_7) (fun _ h9 => h9) rfl dX8_cylinderOf_62 ?_
    refine lv_bipush (v := 21) hx hb dX8_cylinderOf_65 (by decide) ?_
    refine lv_bipush (v := 6) hx hb dX8_cylinderOf_67 (by decide) ?_
    refine lv_iload_n hx hb dX8_cylinderOf_69 rfl (lv_at hl 1 rfl) ?_
    refine lv_imul hx hb dX8_cylinderOf_70 ?_
    refine z_top (y := nI (6 * c)) (pk_mul 6 c) ?_
    refine lv_iadd hx hb dX8_cylinderOf_71 ?_
    refine z_top (y := nI (21 + (6 * c))) (nI_add 21 (6 * c)) ?_
    refine lv_iload_n hx hb dX8_cylinderOf_72 rfl (lv_at hl 2 rfl) ?_
    refine lv_iadd hx hb dX8_cylinderOf_73 ?_
    refine z_top (y := nI ((21 + (6 * c)) + 1)) (nI_add (21 + (6 * c)) 1) ?_
    refine z_iald (k := (21 + (6 * c)) + 1) hx hb hK hP 1 rfl (by omega) (by first | decide | omega) dX8_cylinderOf_74 ?_
    exact z_iret hx hb hr hlk hK hP hD hS dX8_cylinderOf_75 rfl rfl
  · skip
    refine lv_tableOut (tgt := 61) hx hb dX8_cylinderOf_1 (by decide) (by decide) ?_
    refine lv_aload_n hx hb dX8_cylinderOf_61 rfl (lv_at hl 0 rfl) ?_
    refine va_get (D := D) (ci := 8) (v := .ref (a 1)) (C := RX8) (T := TX8) (N := 13) hx hb hts wsI_X8 hown hK hP 0 rfl rfl 0 (by decide) (hts _ w_fl_X8_7) (fun _ h9 => h9) rfl dX8_cylinderOf_62 ?_
    refine lv_bipush (v := 21) hx hb dX8_cylinderOf_65 (by decide) ?_
    refine lv_bipush (v := 6) hx hb dX8_cylinderOf_67 (by decide) ?_
    refine lv_iload_n hx hb dX8_cylinderOf_69 rfl (lv_at hl 1 rfl) ?_
    refine lv_imul hx hb dX8_cylinderOf_70 ?_
    refine z_top (y := nI (6 * c)) (pk_mul 6 c) ?_
    refine lv_iadd hx hb dX8_cylinderOf_71 ?_
    refine z_top (y := nI (21 + (6 * c))) (nI_add 21 (6 * c)) ?_
    refine lv_iload_n hx hb dX8_cylinderOf_72 rfl (lv_at hl 2 rfl) ?_
    refine lv_iadd hx hb dX8_cylinderOf_73 ?_
    refine z_top (y := nI ((21 + (6 * c)) + 2)) (nI_add (21 + (6 * c)) 2) ?_
    refine z_iald (k := (21 + (6 * c)) + 2) hx hb hK hP 1 rfl (by omega) (by first | decide | omega) dX8_cylinderOf_74 ?_
    exact z_iret hx hb hr hlk hK hP hD hS dX8_cylinderOf_75 rfl rfl
  · skip
    refine lv_tableOut (tgt := 61) hx hb dX8_cylinderOf_1 (by decide) (by decide) ?_
    refine lv_aload_n hx hb dX8_cylinderOf_61 rfl (lv_at hl 0 rfl) ?_
    refine va_get (D := D) (ci := 8) (v := .ref (a 1)) (C := RX8) (T := TX8) (N := 13) hx hb hts wsI_X8 hown hK hP 0 rfl rfl 0 (by decide) (hts _ w_fl_X8_7) (fun _ h9 => h9) rfl dX8_cylinderOf_62 ?_
    refine lv_bipush (v := 21) hx hb dX8_cylinderOf_65 (by decide) ?_
    refine lv_bipush (v := 6) hx hb dX8_cylinderOf_67 (by decide) ?_
    refine lv_iload_n hx hb dX8_cylinderOf_69 rfl (lv_at hl 1 rfl) ?_
    refine lv_imul hx hb dX8_cylinderOf_70 ?_
    refine z_top (y := nI (6 * c)) (pk_mul 6 c) ?_
    refine lv_iadd hx hb dX8_cylinderOf_71 ?_
    refine z_top (y := nI (21 + (6 * c))) (nI_add 21 (6 * c)) ?_
    refine lv_iload_n hx hb dX8_cylinderOf_72 rfl (lv_at hl 2 rfl) ?_
    refine lv_iadd hx hb dX8_cylinderOf_73 ?_
    refine z_top (y := nI ((21 + (6 * c)) + 3)) (nI_add (21 + (6 * c)) 3) ?_
    refine z_iald (k := (21 + (6 * c)) + 3) hx hb hK hP 1 rfl (by omega) (by first | decide | omega) dX8_cylinderOf_74 ?_
    exact z_iret hx hb hr hlk hK hP hD hS dX8_cylinderOf_75 rfl rfl
  · skip
    refine lv_tableIn (tgt := 32) (off := 31) hx hb dX8_cylinderOf_1 (by decide) (by decide) (by decide) (by decide) ?_
    refine lv_aload_n hx hb dX8_cylinderOf_32 rfl (lv_at hl 0 rfl) ?_
    refine lv_iload_n hx hb dX8_cylinderOf_33 rfl (lv_at hl 1 rfl) ?_
    refine z_callV (wn := (refW cs a V G)) ⟨hx, hb, hml, hown, hts⟩ zY_X8_camsOf w_im_yX8_camsOf w_se_yX8_camsOf w_ml_X8_62 [.int (nI c)] [] (c_X8_camsOf l D cs a V G c hc) hE hK hA hP hD hS [0, 1, 2, 3, 4, 5, 6] rfl rfl rfl rfl 8 rfl rfl rfl rfl hl.1 (Nat.le_of_ble_eq_true rfl) ⟨Nat.le_of_ble_eq_true rfl, Nat.le_of_ble_eq_true rfl⟩ ⟨Nat.le_of_ble_eq_true rfl, Nat.le_of_ble_eq_true rfl⟩ dX8_cylinderOf_34 (fun H locs hP hD hS => ?_)
    exact z_iret hx hb hr hlk hK hP hD hS dX8_cylinderOf_37 rfl rfl
  · skip
    refine lv_tableIn (tgt := 38) (off := 37) hx hb dX8_cylinderOf_1 (by decide) (by decide) (by decide) (by decide) ?_
    refine lv_aload_n hx hb dX8_cylinderOf_38 rfl (lv_at hl 0 rfl) ?_
    refine lv_iload_n hx hb dX8_cylinderOf_39 rfl (lv_at hl 1 rfl) ?_
    refine z_callV (wn := (refW cs a V G)) ⟨hx, hb, hml, hown, hts⟩ zY_X8_mayMove w_im_yX8_mayMove w_se_yX8_mayMove w_ml_X8_96 [.int (nI c)] [] (c_X8_mayMove l D cs a V G c gn hc hg4 h8 ho) hE hK hA hP hD hS [0, 1, 2, 3, 4, 5, 6] rfl rfl rfl rfl 8 rfl rfl rfl rfl hl.1 (Nat.le_of_ble_eq_true rfl) ⟨Nat.le_of_ble_eq_true rfl, Nat.le_of_ble_eq_true rfl⟩ ⟨Nat.le_of_ble_eq_true rfl, Nat.le_of_ble_eq_true rfl⟩ dX8_cylinderOf_40 (fun H locs hP hD hS => ?_)
    exact z_iret hx hb hr hlk hK hP hD hS dX8_cylinderOf_43 rfl rfl
  · skip
    refine lv_tableIn (tgt := 44) (off := 43) hx hb dX8_cylinderOf_1 (by decide) (by decide) (by decide) (by decide) ?_
    refine lv_aload_n hx hb dX8_cylinderOf_44 rfl (lv_at hl 0 rfl) ?_
    refine va_get (D := D) (ci := 8) (v := .ref (a 1)) (C := RX8) (T := TX8) (N := 13) hx hb hts wsI_X8 hown hK hP 0 rfl rfl 0 (by decide) (hts _ w_fl_X8_7) (fun _ h9 => h9) rfl dX8_cylinderOf_45 ?_
    refine lv_bipush (v := 21) hx hb dX8_cylinderOf_48 (by decide) ?_
    refine lv_bipush (v := 6) hx hb dX8_cylinderOf_50 (by decide) ?_
    refine lv_iload_n hx hb dX8_cylinderOf_52 rfl (lv_at hl 1 rfl) ?_
    refine lv_imul hx hb dX8_cylinderOf_53 ?_
    refine z_top (y := nI (6 * c)) (pk_mul 6 c) ?_
    refine lv_iadd hx hb dX8_cylinderOf_54 ?_
    refine z_top (y := nI (21 + (6 * c))) (nI_add 21 (6 * c)) ?_
    refine lv_iload_n hx hb dX8_cylinderOf_55 rfl (lv_at hl 2 rfl) ?_
    refine lv_iadd hx hb dX8_cylinderOf_56 ?_
    refine z_top (y := nI ((21 + (6 * c)) + 6)) (nI_add (21 + (6 * c)) 6) ?_
    refine lv_iconst (v := 2) hx hb dX8_cylinderOf_57 (by decide) ?_
    refine lv_isub hx hb dX8_cylinderOf_58 ?_
    refine z_top (y := nI (21 + 6 * c + 4)) ((pk_sub (b := 2) (by omega)).trans (by rw [show 21 + 6 * c + 6 - 2 = 21 + 6 * c + 4 by omega])) ?_
    refine z_iald (k := 21 + 6 * c + 4) hx hb hK hP 1 rfl (by omega) (by first | decide | omega) dX8_cylinderOf_59 ?_
    exact z_iret hx hb hr hlk hK hP hD hS dX8_cylinderOf_60 rfl rfl
  · skip
    refine lv_tableIn (tgt := 44) (off := 43) hx hb dX8_cylinderOf_1 (by decide) (by decide) (by decide) (by decide) ?_
    refine lv_aload_n hx hb dX8_cylinderOf_44 rfl (lv_at hl 0 rfl) ?_
    refine va_get (D := D) (ci := 8) (v := .ref (a 1)) (C := RX8) (T := TX8) (N := 13) hx hb hts wsI_X8 hown hK hP 0 rfl rfl 0 (by decide) (hts _ w_fl_X8_7) (fun _ h9 => h9) rfl dX8_cylinderOf_45 ?_
    refine lv_bipush (v := 21) hx hb dX8_cylinderOf_48 (by decide) ?_
    refine lv_bipush (v := 6) hx hb dX8_cylinderOf_50 (by decide) ?_
    refine lv_iload_n hx hb dX8_cylinderOf_52 rfl (lv_at hl 1 rfl) ?_
    refine lv_imul hx hb dX8_cylinderOf_53 ?_
    refine z_top (y := nI (6 * c)) (pk_mul 6 c) ?_
    refine lv_iadd hx hb dX8_cylinderOf_54 ?_
    refine z_top (y := nI (21 + (6 * c))) (nI_add 21 (6 * c)) ?_
    refine lv_iload_n hx hb dX8_cylinderOf_55 rfl (lv_at hl 2 rfl) ?_
    refine lv_iadd hx hb dX8_cylinderOf_56 ?_
    refine z_top (y := nI ((21 + (6 * c)) + 7)) (nI_add (21 + (6 * c)) 7) ?_
    refine lv_iconst (v := 2) hx hb dX8_cylinderOf_57 (by decide) ?_
    refine lv_isub hx hb dX8_cylinderOf_58 ?_
    refine z_top (y := nI (21 + 6 * c + 5)) ((pk_sub (b := 2) (by omega)).trans (by rw [show 21 + 6 * c + 7 - 2 = 21 + 6 * c + 5 by omega])) ?_
    refine z_iald (k := 21 + 6 * c + 5) hx hb hK hP 1 rfl (by omega) (by first | decide | omega) dX8_cylinderOf_59 ?_
    exact z_iret hx hb hr hlk hK hP hD hS dX8_cylinderOf_60 rfl rfl

set_option maxHeartbeats 4000000 in
set_option maxRecDepth 100000 in
theorem c_X8_cylinder_t1 (l : Launch) (D : va_G) (cs : zCs) (a : Nat → Nat) (V : Nat → Int32) (G : Nat → Nat → Int32) (cy wh : Int32) (hok : rOK (G 0)) (hbad : ¬ (0 ≤ cy ∧ cy ≤ 4)) : zM l D cs yX8_cylinder cX8_cylinder 3 (some FieldType.int) 4 88 0 0 [.ref (a 0), .int cy, .int wh] (refW cs a V G) (some (.int 0)) (refW cs a (upd V 1 1) G) := by
  refine zM.of (own := RX8) (by decide) (Nat.le_of_ble_eq_true rfl) rfl ?_
  intro pq eq s mq below meth cq A ls hx hb hr hml hown hts hlk hnm hE hK hA hP hD hS hl
  have hl : lv_has ls 3 [(0, .ref (a 0)), (1, .int cy), (2, .int wh)] := hl
  refine lv_iload_n hx hb dX8_cylinder_0 rfl (lv_at hl 1 rfl) ?_
  refine z_callS (wn := (refW cs a V G)) ⟨hx, hb, hml, hown, hts⟩ zY_X8_isCylinder w_st_yX8_isCylinder w_ml_X8_48 [.int cy] [] (c_X8_isCylinder l D cs cy) hE hK hA hP hD hS [] rfl rfl rfl z_ins_nil rfl hl.1 (Nat.le_of_ble_eq_true rfl) ⟨Nat.le_of_ble_eq_true rfl, Nat.le_of_ble_eq_true rfl⟩ ⟨Nat.le_of_ble_eq_true rfl, Nat.le_of_ble_eq_true rfl⟩ dX8_cylinder_1 (fun H locs hP hD hS => ?_)
  refine lv_if_ne (tgt := 13) hx hb dX8_cylinder_4 (by decide) (fun c_1 => ?_) (fun c_1 => ?_)
  · skip
    have c_1 := bI_n0 c_1
    exact absurd c_1 hbad
  · skip
    have c_1 := bI_0.mp c_1
    refine lv_aload_n hx hb dX8_cylinder_7 rfl (lv_at hl 0 rfl) ?_
    refine lv_iconst (v := 1) hx hb dX8_cylinder_8 (by decide) ?_
    refine z_callV (wn := (refW cs a (upd V 1 1) G)) ⟨hx, hb, hml, hown, hts⟩ zY_X8_throwing w_im_yX8_throwing w_se_yX8_throwing w_ml_X8_55 [.int 1] [] (c_X8_throwing l D cs a V G 1) hE hK hA hP hD hS [0, 1, 2, 3, 4, 5, 6] rfl rfl rfl rfl 8 rfl rfl rfl rfl hl.1 (Nat.le_of_ble_eq_true rfl) ⟨Nat.le_of_ble_eq_true rfl, Nat.le_of_ble_eq_true rfl⟩ ⟨Nat.le_of_ble_eq_true rfl, Nat.le_of_ble_eq_true rfl⟩ dX8_cylinder_9 (fun H locs hP hD hS => ?_)
    exact z_iret hx hb hr hlk hK hP hD hS dX8_cylinder_12 rfl rfl

set_option maxHeartbeats 4000000 in
set_option maxRecDepth 100000 in
theorem c_X8_cylinder_t2 (l : Launch) (D : va_G) (cs : zCs) (a : Nat → Nat) (V : Nat → Int32) (G : Nat → Nat → Int32) (cy wh : Int32) (hok : rOK (G 0)) (q0 : 0 ≤ cy ∧ cy ≤ 4) (hbad : ¬ (0 ≤ wh ∧ wh ≤ 7)) : zM l D cs yX8_cylinder cX8_cylinder 3 (some FieldType.int) 4 88 0 0 [.ref (a 0), .int cy, .int wh] (refW cs a V G) (some (.int 0)) (refW cs a (upd V 1 2) G) := by
  refine zM.of (own := RX8) (by decide) (Nat.le_of_ble_eq_true rfl) rfl ?_
  intro pq eq s mq below meth cq A ls hx hb hr hml hown hts hlk hnm hE hK hA hP hD hS hl
  have hl : lv_has ls 3 [(0, .ref (a 0)), (1, .int cy), (2, .int wh)] := hl
  refine lv_iload_n hx hb dX8_cylinder_0 rfl (lv_at hl 1 rfl) ?_
  refine z_callS (wn := (refW cs a V G)) ⟨hx, hb, hml, hown, hts⟩ zY_X8_isCylinder w_st_yX8_isCylinder w_ml_X8_48 [.int cy] [] (c_X8_isCylinder l D cs cy) hE hK hA hP hD hS [] rfl rfl rfl z_ins_nil rfl hl.1 (Nat.le_of_ble_eq_true rfl) ⟨Nat.le_of_ble_eq_true rfl, Nat.le_of_ble_eq_true rfl⟩ ⟨Nat.le_of_ble_eq_true rfl, Nat.le_of_ble_eq_true rfl⟩ dX8_cylinder_1 (fun H locs hP hD hS => ?_)
  refine lv_if_ne (tgt := 13) hx hb dX8_cylinder_4 (by decide) (fun c_1 => ?_) (fun c_1 => ?_)
  · skip
    have c_1 := bI_n0 c_1
    refine lv_iload_n hx hb dX8_cylinder_13 rfl (lv_at hl 2 rfl) ?_
    refine lv_i2l (v := wh.toInt64) hx hb dX8_cylinder_14 rfl ?_
    refine lv_lconst (v := 0) hx hb dX8_cylinder_15 (by decide) ?_
    refine lv_ldc2 (v := 7) hx hb hown (hts _ w_ct_X8_121) dX8_cylinder_16 ?_
    refine z_callS (wn := (refW cs a V G)) ⟨hx, hb, hml, hown, hts⟩ zY_X8_in w_st_yX8_in w_ml_X8_40 [.long wh.toInt64, .long 0, .long 7] [] (c_X8_in l D cs wh.toInt64 0 7) hE hK hA hP hD hS [] rfl rfl rfl z_ins_nil rfl hl.1 (Nat.le_of_ble_eq_true rfl) ⟨Nat.le_of_ble_eq_true rfl, Nat.le_of_ble_eq_true rfl⟩ ⟨Nat.le_of_ble_eq_true rfl, Nat.le_of_ble_eq_true rfl⟩ dX8_cylinder_19 (fun H locs hP hD hS => ?_)
    refine z_top (y := bI (0 ≤ wh ∧ wh ≤ 7)) (bI_congr (in64 (by decide) (by decide))) ?_
    refine lv_if_eq (tgt := 38) hx hb dX8_cylinder_22 (by decide) (fun c_2 => ?_) (fun c_2 => ?_)
    · skip
      have c_2 := bI_0.mp c_2
      refine lv_aload_n hx hb dX8_cylinder_38 rfl (lv_at hl 0 rfl) ?_
      refine lv_iconst (v := 2) hx hb dX8_cylinder_39 (by decide) ?_
      refine z_callV (wn := (refW cs a (upd V 1 2) G)) ⟨hx, hb, hml, hown, hts⟩ zY_X8_throwing w_im_yX8_throwing w_se_yX8_throwing w_ml_X8_55 [.int 2] [] (c_X8_throwing l D cs a V G 2) hE hK hA hP hD hS [0, 1, 2, 3, 4, 5, 6] rfl rfl rfl rfl 8 rfl rfl rfl rfl hl.1 (Nat.le_of_ble_eq_true rfl) ⟨Nat.le_of_ble_eq_true rfl, Nat.le_of_ble_eq_true rfl⟩ ⟨Nat.le_of_ble_eq_true rfl, Nat.le_of_ble_eq_true rfl⟩ dX8_cylinder_40 (fun H locs hP hD hS => ?_)
      exact z_iret hx hb hr hlk hK hP hD hS dX8_cylinder_43 rfl rfl
    · skip
      have c_2 := bI_n0 c_2
      exact absurd c_2 hbad
  · skip
    have c_1 := bI_0.mp c_1
    exact absurd q0 c_1

set_option maxHeartbeats 4000000 in
set_option maxRecDepth 100000 in
theorem c_X8_cylinder_ok (l : Launch) (D : va_G) (cs : zCs) (a : Nat → Nat) (V : Nat → Int32) (G : Nat → Nat → Int32) (cy wh : Int32) (hok : rOK (G 0)) (q0 : 0 ≤ cy ∧ cy ≤ 4) (q1 : 0 ≤ wh ∧ wh ≤ 7) : zM l D cs yX8_cylinder cX8_cylinder 3 (some FieldType.int) 4 88 0 0 [.ref (a 0), .int cy, .int wh] (refW cs a V G) (some (.int (rcyl (G 0) (nN cy) (nN wh)))) (refW cs a (upd V 1 0) G) := by
  refine zM.of (own := RX8) (by decide) (Nat.le_of_ble_eq_true rfl) rfl ?_
  intro pq eq s mq below meth cq A ls hx hb hr hml hown hts hlk hnm hE hK hA hP hD hS hl
  have hl : lv_has ls 3 [(0, .ref (a 0)), (1, .int cy), (2, .int wh)] := hl
  refine lv_iload_n hx hb dX8_cylinder_0 rfl (lv_at hl 1 rfl) ?_
  refine z_callS (wn := (refW cs a V G)) ⟨hx, hb, hml, hown, hts⟩ zY_X8_isCylinder w_st_yX8_isCylinder w_ml_X8_48 [.int cy] [] (c_X8_isCylinder l D cs cy) hE hK hA hP hD hS [] rfl rfl rfl z_ins_nil rfl hl.1 (Nat.le_of_ble_eq_true rfl) ⟨Nat.le_of_ble_eq_true rfl, Nat.le_of_ble_eq_true rfl⟩ ⟨Nat.le_of_ble_eq_true rfl, Nat.le_of_ble_eq_true rfl⟩ dX8_cylinder_1 (fun H locs hP hD hS => ?_)
  refine lv_if_ne (tgt := 13) hx hb dX8_cylinder_4 (by decide) (fun c_1 => ?_) (fun c_1 => ?_)
  · skip
    have c_1 := bI_n0 c_1
    refine lv_iload_n hx hb dX8_cylinder_13 rfl (lv_at hl 2 rfl) ?_
    refine lv_i2l (v := wh.toInt64) hx hb dX8_cylinder_14 rfl ?_
    refine lv_lconst (v := 0) hx hb dX8_cylinder_15 (by decide) ?_
    refine lv_ldc2 (v := 7) hx hb hown (hts _ w_ct_X8_121) dX8_cylinder_16 ?_
    refine z_callS (wn := (refW cs a V G)) ⟨hx, hb, hml, hown, hts⟩ zY_X8_in w_st_yX8_in w_ml_X8_40 [.long wh.toInt64, .long 0, .long 7] [] (c_X8_in l D cs wh.toInt64 0 7) hE hK hA hP hD hS [] rfl rfl rfl z_ins_nil rfl hl.1 (Nat.le_of_ble_eq_true rfl) ⟨Nat.le_of_ble_eq_true rfl, Nat.le_of_ble_eq_true rfl⟩ ⟨Nat.le_of_ble_eq_true rfl, Nat.le_of_ble_eq_true rfl⟩ dX8_cylinder_19 (fun H locs hP hD hS => ?_)
    refine z_top (y := bI (0 ≤ wh ∧ wh ≤ 7)) (bI_congr (in64 (by decide) (by decide))) ?_
    refine lv_if_eq (tgt := 38) hx hb dX8_cylinder_22 (by decide) (fun c_2 => ?_) (fun c_2 => ?_)
    · skip
      have c_2 := bI_0.mp c_2
      exact absurd q1 c_2
    · skip
      have c_2 := bI_n0 c_2
      obtain ⟨k, hk, rfl⟩ := z_nat4 c_1
      have hNk := nN_nI (k := k) (by omega)
      obtain ⟨j, hj, rfl⟩ := z_nat7 c_2
      have hNj := nN_nI (k := j) (by omega)
      refine lv_aload_n hx hb dX8_cylinder_25 rfl (lv_at hl 0 rfl) ?_
      refine lv_aload_n hx hb dX8_cylinder_26 rfl (lv_at hl 0 rfl) ?_
      refine lv_iload_n hx hb dX8_cylinder_27 rfl (lv_at hl 1 rfl) ?_
      refine lv_iload_n hx hb dX8_cylinder_28 rfl (lv_at hl 2 rfl) ?_
      refine z_callV (wn := (refW cs a V G)) ⟨hx, hb, hml, hown, hts⟩ zY_X8_cylinderOf w_im_yX8_cylinderOf w_se_yX8_cylinderOf w_ml_X8_123 [.int (nI k), .int (nI j)] [.ref (a 0)] (c_X8_cylinderOf l D cs a V G k j hk hj hok) hE hK hA hP hD hS [0, 1, 2, 3, 4, 5, 6] rfl rfl rfl rfl 8 rfl rfl rfl rfl hl.1 (Nat.le_of_ble_eq_true rfl) ⟨Nat.le_of_ble_eq_true rfl, Nat.le_of_ble_eq_true rfl⟩ ⟨Nat.le_of_ble_eq_true rfl, Nat.le_of_ble_eq_true rfl⟩ dX8_cylinder_29 (fun H locs hP hD hS => ?_)
      refine z_callV (wn := (refW cs a (upd V 1 0) G)) ⟨hx, hb, hml, hown, hts⟩ zY_X8_fine w_im_yX8_fine w_se_yX8_fine w_ml_X8_65 [.int (rcyl (G 0) k j)] [] (c_X8_fine l D cs a V G (rcyl (G 0) k j)) hE hK hA hP hD hS [0, 1, 2, 3, 4, 5, 6] rfl rfl rfl rfl 8 rfl rfl rfl rfl hl.1 (Nat.le_of_ble_eq_true rfl) ⟨Nat.le_of_ble_eq_true rfl, Nat.le_of_ble_eq_true rfl⟩ ⟨Nat.le_of_ble_eq_true rfl, Nat.le_of_ble_eq_true rfl⟩ dX8_cylinder_32 (fun H locs hP hD hS => ?_)
      refine lv_goto (tgt := 43) hx hb dX8_cylinder_35 (by decide) ?_
      exact z_iret hx hb hr hlk hK hP hD hS dX8_cylinder_43 (by simp only [hNk, hNj]) rfl
  · skip
    have c_1 := bI_0.mp c_1
    exact absurd q0 c_1

set_option maxHeartbeats 4000000 in
set_option maxRecDepth 100000 in
theorem c_X8_guardOf (l : Launch) (D : va_G) (cs : zCs) (a : Nat → Nat) (V : Nat → Int32) (G : Nat → Nat → Int32) (g o j : Nat) (hg : g < 4) (hj : j < 4) (ho : o < 5) (eo : G 0 (51 + 3 * g + 1) = nI o) : zM l D cs yX8_guardOf cX8_guardOf 3 (some FieldType.int) 2 42 0 0 [.ref (a 0), .int (nI g), .int (nI j)] (refW cs a V G) (some (.int (rgrd (G 0) g j))) (refW cs a V G) := by
  refine zM.of (own := RX8) (by decide) (Nat.le_of_ble_eq_true rfl) rfl ?_
  intro pq eq s mq below meth cq A ls hx hb hr hml hown hts hlk hnm hE hK hA hP hD hS hl
  have hl : lv_has ls 3 [(0, .ref (a 0)), (1, .int (nI g)), (2, .int (nI j))] := hl
  refine lv_iload_n hx hb dX8_guardOf_0 rfl (lv_at hl 2 rfl) ?_
  refine lv_iconst (v := 3) hx hb dX8_guardOf_1 (by decide) ?_
  refine lv_icmp_ge (tgt := 21) hx hb dX8_guardOf_2 (by decide) (fun c_1 => ?_) (fun c_1 => ?_)
  · skip
    have h4 : ¬ j < 3 := fun h => absurd ((nI_leI (a := 3) (by omega) (by omega)).mp c_1) (by omega)
    refine lv_aload_n hx hb dX8_guardOf_21 rfl (lv_at hl 0 rfl) ?_
    refine lv_iload_n hx hb dX8_guardOf_22 rfl (lv_at hl 1 rfl) ?_
    refine z_callV (wn := (refW cs a V G)) ⟨hx, hb, hml, hown, hts⟩ zY_X8_holds w_im_yX8_holds w_se_yX8_holds w_ml_X8_93 [.int (nI g)] [] (c_X8_holds l D cs a V G g o hg ho eo) hE hK hA hP hD hS [0, 1, 2, 3, 4, 5, 6] rfl rfl rfl rfl 8 rfl rfl rfl rfl hl.1 (Nat.le_of_ble_eq_true rfl) ⟨Nat.le_of_ble_eq_true rfl, Nat.le_of_ble_eq_true rfl⟩ ⟨Nat.le_of_ble_eq_true rfl, Nat.le_of_ble_eq_true rfl⟩ dX8_guardOf_23 (fun H locs hP hD hS => ?_)
    refine lv_if_eq (tgt := 33) hx hb dX8_guardOf_26 (by decide) (fun c_2 => ?_) (fun c_2 => ?_)
    · skip
      have c_2 := bI_0.mp c_2
      refine lv_iconst (v := 0) hx hb dX8_guardOf_33 (by decide) ?_
      exact z_iret hx hb hr hlk hK hP hD hS dX8_guardOf_34 (by rw [show rgrd (G 0) g j = _ from if_neg h4, bI_f c_2]) rfl
    · skip
      have c_2 := bI_n0 c_2
      refine lv_iconst (v := 1) hx hb dX8_guardOf_29 (by decide) ?_
      refine lv_goto (tgt := 34) hx hb dX8_guardOf_30 (by decide) ?_
      exact z_iret hx hb hr hlk hK hP hD hS dX8_guardOf_34 (by rw [show rgrd (G 0) g j = _ from if_neg h4, bI_t c_2]) rfl
  · skip
    have h4 : j < 3 := Nat.lt_of_not_le (fun h => c_1 ((nI_leI (a := 3) (by omega) (by omega)).mpr h))
    refine lv_aload_n hx hb dX8_guardOf_5 rfl (lv_at hl 0 rfl) ?_
    refine va_get (D := D) (ci := 8) (v := .ref (a 1)) (C := RX8) (T := TX8) (N := 13) hx hb hts wsI_X8 hown hK hP 0 rfl rfl 0 (by decide) (hts _ w_fl_X8_7) (fun _ h9 => h9) rfl dX8_guardOf_6 ?_
    refine lv_bipush (v := 51) hx hb dX8_guardOf_9 (by decide) ?_
    refine lv_iconst (v := 3) hx hb dX8_guardOf_11 (by decide) ?_
    refine lv_iload_n hx hb dX8_guardOf_12 rfl (lv_at hl 1 rfl) ?_
    refine lv_imul hx hb dX8_guardOf_13 ?_
    refine z_top (y := nI (3 * g)) (pk_mul 3 g) ?_
    refine lv_iadd hx hb dX8_guardOf_14 ?_
    refine z_top (y := nI (51 + (3 * g))) (nI_add 51 (3 * g)) ?_
    refine lv_iload_n hx hb dX8_guardOf_15 rfl (lv_at hl 2 rfl) ?_
    refine lv_iadd hx hb dX8_guardOf_16 ?_
    refine z_top (y := nI ((51 + (3 * g)) + j)) (nI_add (51 + (3 * g)) j) ?_
    refine z_iald (k := (51 + (3 * g)) + j) hx hb hK hP 1 rfl (by omega) (by first | decide | omega) dX8_guardOf_17 ?_
    refine lv_goto (tgt := 34) hx hb dX8_guardOf_18 (by decide) ?_
    exact z_iret hx hb hr hlk hK hP hD hS dX8_guardOf_34 (by rw [show rgrd (G 0) g j = _ from if_pos h4]) rfl

set_option maxHeartbeats 4000000 in
set_option maxRecDepth 100000 in
theorem c_X8_guard_t1 (l : Launch) (D : va_G) (cs : zCs) (a : Nat → Nat) (V : Nat → Int32) (G : Nat → Nat → Int32) (g wh : Int32) (gn : Nat) (h8 : G 0 8 = nI gn) (hg4 : gn ≤ 4) (ho : ∀ j, j < gn → ∃ o, o < 5 ∧ G 0 (51 + 3 * j + 1) = nI o) (hbad : ¬ (0 ≤ g ∧ g ≤ (G 0) 8 - 1)) : zM l D cs yX8_guard cX8_guard 3 (some FieldType.int) 3 64 0 0 [.ref (a 0), .int g, .int wh] (refW cs a V G) (some (.int 0)) (refW cs a (upd V 1 1) G) := by
  refine zM.of (own := RX8) (by decide) (Nat.le_of_ble_eq_true rfl) rfl ?_
  intro pq eq s mq below meth cq A ls hx hb hr hml hown hts hlk hnm hE hK hA hP hD hS hl
  have hl : lv_has ls 3 [(0, .ref (a 0)), (1, .int g), (2, .int wh)] := hl
  refine lv_aload_n hx hb dX8_guard_0 rfl (lv_at hl 0 rfl) ?_
  refine lv_iload_n hx hb dX8_guard_1 rfl (lv_at hl 1 rfl) ?_
  refine z_callV (wn := (refW cs a V G)) ⟨hx, hb, hml, hown, hts⟩ zY_X8_isGuard w_im_yX8_isGuard w_se_yX8_isGuard w_ml_X8_90 [.int g] [] (c_X8_isGuard l D cs a V G g gn h8 (by omega)) hE hK hA hP hD hS [0, 1, 2, 3, 4, 5, 6] rfl rfl rfl rfl 8 rfl rfl rfl rfl hl.1 (Nat.le_of_ble_eq_true rfl) ⟨Nat.le_of_ble_eq_true rfl, Nat.le_of_ble_eq_true rfl⟩ ⟨Nat.le_of_ble_eq_true rfl, Nat.le_of_ble_eq_true rfl⟩ dX8_guard_2 (fun H locs hP hD hS => ?_)
  refine lv_if_ne (tgt := 14) hx hb dX8_guard_5 (by decide) (fun c_1 => ?_) (fun c_1 => ?_)
  · skip
    have c_1 := bI_n0 c_1
    exact absurd c_1 hbad
  · skip
    have c_1 := bI_0.mp c_1
    refine lv_aload_n hx hb dX8_guard_8 rfl (lv_at hl 0 rfl) ?_
    refine lv_iconst (v := 1) hx hb dX8_guard_9 (by decide) ?_
    refine z_callV (wn := (refW cs a (upd V 1 1) G)) ⟨hx, hb, hml, hown, hts⟩ zY_X8_throwing w_im_yX8_throwing w_se_yX8_throwing w_ml_X8_55 [.int 1] [] (c_X8_throwing l D cs a V G 1) hE hK hA hP hD hS [0, 1, 2, 3, 4, 5, 6] rfl rfl rfl rfl 8 rfl rfl rfl rfl hl.1 (Nat.le_of_ble_eq_true rfl) ⟨Nat.le_of_ble_eq_true rfl, Nat.le_of_ble_eq_true rfl⟩ ⟨Nat.le_of_ble_eq_true rfl, Nat.le_of_ble_eq_true rfl⟩ dX8_guard_10 (fun H locs hP hD hS => ?_)
    exact z_iret hx hb hr hlk hK hP hD hS dX8_guard_13 rfl rfl

set_option maxHeartbeats 4000000 in
set_option maxRecDepth 100000 in
theorem c_X8_guard_t2 (l : Launch) (D : va_G) (cs : zCs) (a : Nat → Nat) (V : Nat → Int32) (G : Nat → Nat → Int32) (g wh : Int32) (gn : Nat) (h8 : G 0 8 = nI gn) (hg4 : gn ≤ 4) (ho : ∀ j, j < gn → ∃ o, o < 5 ∧ G 0 (51 + 3 * j + 1) = nI o) (q0 : 0 ≤ g ∧ g ≤ (G 0) 8 - 1) (hbad : ¬ (0 ≤ wh ∧ wh ≤ 3)) : zM l D cs yX8_guard cX8_guard 3 (some FieldType.int) 3 64 0 0 [.ref (a 0), .int g, .int wh] (refW cs a V G) (some (.int 0)) (refW cs a (upd V 1 2) G) := by
  refine zM.of (own := RX8) (by decide) (Nat.le_of_ble_eq_true rfl) rfl ?_
  intro pq eq s mq below meth cq A ls hx hb hr hml hown hts hlk hnm hE hK hA hP hD hS hl
  have hl : lv_has ls 3 [(0, .ref (a 0)), (1, .int g), (2, .int wh)] := hl
  refine lv_aload_n hx hb dX8_guard_0 rfl (lv_at hl 0 rfl) ?_
  refine lv_iload_n hx hb dX8_guard_1 rfl (lv_at hl 1 rfl) ?_
  refine z_callV (wn := (refW cs a V G)) ⟨hx, hb, hml, hown, hts⟩ zY_X8_isGuard w_im_yX8_isGuard w_se_yX8_isGuard w_ml_X8_90 [.int g] [] (c_X8_isGuard l D cs a V G g gn h8 (by omega)) hE hK hA hP hD hS [0, 1, 2, 3, 4, 5, 6] rfl rfl rfl rfl 8 rfl rfl rfl rfl hl.1 (Nat.le_of_ble_eq_true rfl) ⟨Nat.le_of_ble_eq_true rfl, Nat.le_of_ble_eq_true rfl⟩ ⟨Nat.le_of_ble_eq_true rfl, Nat.le_of_ble_eq_true rfl⟩ dX8_guard_2 (fun H locs hP hD hS => ?_)
  refine lv_if_ne (tgt := 14) hx hb dX8_guard_5 (by decide) (fun c_1 => ?_) (fun c_1 => ?_)
  · skip
    have c_1 := bI_n0 c_1
    refine lv_iload_n hx hb dX8_guard_14 rfl (lv_at hl 2 rfl) ?_
    refine lv_i2l (v := wh.toInt64) hx hb dX8_guard_15 rfl ?_
    refine lv_lconst (v := 0) hx hb dX8_guard_16 (by decide) ?_
    refine lv_ldc2 (v := 3) hx hb hown (hts _ w_ct_X8_127) dX8_guard_17 ?_
    refine z_callS (wn := (refW cs a V G)) ⟨hx, hb, hml, hown, hts⟩ zY_X8_in w_st_yX8_in w_ml_X8_40 [.long wh.toInt64, .long 0, .long 3] [] (c_X8_in l D cs wh.toInt64 0 3) hE hK hA hP hD hS [] rfl rfl rfl z_ins_nil rfl hl.1 (Nat.le_of_ble_eq_true rfl) ⟨Nat.le_of_ble_eq_true rfl, Nat.le_of_ble_eq_true rfl⟩ ⟨Nat.le_of_ble_eq_true rfl, Nat.le_of_ble_eq_true rfl⟩ dX8_guard_20 (fun H locs hP hD hS => ?_)
    refine z_top (y := bI (0 ≤ wh ∧ wh ≤ 3)) (bI_congr (in64 (by decide) (by decide))) ?_
    refine lv_if_eq (tgt := 39) hx hb dX8_guard_23 (by decide) (fun c_2 => ?_) (fun c_2 => ?_)
    · skip
      have c_2 := bI_0.mp c_2
      refine lv_aload_n hx hb dX8_guard_39 rfl (lv_at hl 0 rfl) ?_
      refine lv_iconst (v := 2) hx hb dX8_guard_40 (by decide) ?_
      refine z_callV (wn := (refW cs a (upd V 1 2) G)) ⟨hx, hb, hml, hown, hts⟩ zY_X8_throwing w_im_yX8_throwing w_se_yX8_throwing w_ml_X8_55 [.int 2] [] (c_X8_throwing l D cs a V G 2) hE hK hA hP hD hS [0, 1, 2, 3, 4, 5, 6] rfl rfl rfl rfl 8 rfl rfl rfl rfl hl.1 (Nat.le_of_ble_eq_true rfl) ⟨Nat.le_of_ble_eq_true rfl, Nat.le_of_ble_eq_true rfl⟩ ⟨Nat.le_of_ble_eq_true rfl, Nat.le_of_ble_eq_true rfl⟩ dX8_guard_41 (fun H locs hP hD hS => ?_)
      exact z_iret hx hb hr hlk hK hP hD hS dX8_guard_44 rfl rfl
    · skip
      have c_2 := bI_n0 c_2
      exact absurd c_2 hbad
  · skip
    have c_1 := bI_0.mp c_1
    exact absurd q0 c_1

set_option maxHeartbeats 4000000 in
set_option maxRecDepth 100000 in
theorem c_X8_guard_ok (l : Launch) (D : va_G) (cs : zCs) (a : Nat → Nat) (V : Nat → Int32) (G : Nat → Nat → Int32) (g wh : Int32) (gn : Nat) (h8 : G 0 8 = nI gn) (hg4 : gn ≤ 4) (ho : ∀ j, j < gn → ∃ o, o < 5 ∧ G 0 (51 + 3 * j + 1) = nI o) (q0 : 0 ≤ g ∧ g ≤ (G 0) 8 - 1) (q1 : 0 ≤ wh ∧ wh ≤ 3) : zM l D cs yX8_guard cX8_guard 3 (some FieldType.int) 3 64 0 0 [.ref (a 0), .int g, .int wh] (refW cs a V G) (some (.int (rgrd (G 0) (nN g) (nN wh)))) (refW cs a (upd V 1 0) G) := by
  refine zM.of (own := RX8) (by decide) (Nat.le_of_ble_eq_true rfl) rfl ?_
  intro pq eq s mq below meth cq A ls hx hb hr hml hown hts hlk hnm hE hK hA hP hD hS hl
  have hl : lv_has ls 3 [(0, .ref (a 0)), (1, .int g), (2, .int wh)] := hl
  refine lv_aload_n hx hb dX8_guard_0 rfl (lv_at hl 0 rfl) ?_
  refine lv_iload_n hx hb dX8_guard_1 rfl (lv_at hl 1 rfl) ?_
  refine z_callV (wn := (refW cs a V G)) ⟨hx, hb, hml, hown, hts⟩ zY_X8_isGuard w_im_yX8_isGuard w_se_yX8_isGuard w_ml_X8_90 [.int g] [] (c_X8_isGuard l D cs a V G g gn h8 (by omega)) hE hK hA hP hD hS [0, 1, 2, 3, 4, 5, 6] rfl rfl rfl rfl 8 rfl rfl rfl rfl hl.1 (Nat.le_of_ble_eq_true rfl) ⟨Nat.le_of_ble_eq_true rfl, Nat.le_of_ble_eq_true rfl⟩ ⟨Nat.le_of_ble_eq_true rfl, Nat.le_of_ble_eq_true rfl⟩ dX8_guard_2 (fun H locs hP hD hS => ?_)
  refine lv_if_ne (tgt := 14) hx hb dX8_guard_5 (by decide) (fun c_1 => ?_) (fun c_1 => ?_)
  · skip
    have c_1 := bI_n0 c_1
    refine lv_iload_n hx hb dX8_guard_14 rfl (lv_at hl 2 rfl) ?_
    refine lv_i2l (v := wh.toInt64) hx hb dX8_guard_15 rfl ?_
    refine lv_lconst (v := 0) hx hb dX8_guard_16 (by decide) ?_
    refine lv_ldc2 (v := 3) hx hb hown (hts _ w_ct_X8_127) dX8_guard_17 ?_
    refine z_callS (wn := (refW cs a V G)) ⟨hx, hb, hml, hown, hts⟩ zY_X8_in w_st_yX8_in w_ml_X8_40 [.long wh.toInt64, .long 0, .long 3] [] (c_X8_in l D cs wh.toInt64 0 3) hE hK hA hP hD hS [] rfl rfl rfl z_ins_nil rfl hl.1 (Nat.le_of_ble_eq_true rfl) ⟨Nat.le_of_ble_eq_true rfl, Nat.le_of_ble_eq_true rfl⟩ ⟨Nat.le_of_ble_eq_true rfl, Nat.le_of_ble_eq_true rfl⟩ dX8_guard_20 (fun H locs hP hD hS => ?_)
    refine z_top (y := bI (0 ≤ wh ∧ wh ≤ 3)) (bI_congr (in64 (by decide) (by decide))) ?_
    refine lv_if_eq (tgt := 39) hx hb dX8_guard_23 (by decide) (fun c_2 => ?_) (fun c_2 => ?_)
    · skip
      have c_2 := bI_0.mp c_2
      exact absurd q1 c_2
    · skip
      have c_2 := bI_n0 c_2
      obtain ⟨k, hk, rfl⟩ := z_natR h8 (by omega) c_1
      have hNk := nN_nI (k := k) (by omega)
      obtain ⟨j, hj, rfl⟩ := z_nat3 c_2
      have hNj := nN_nI (k := j) (by omega)
      refine lv_aload_n hx hb dX8_guard_26 rfl (lv_at hl 0 rfl) ?_
      refine lv_aload_n hx hb dX8_guard_27 rfl (lv_at hl 0 rfl) ?_
      refine lv_iload_n hx hb dX8_guard_28 rfl (lv_at hl 1 rfl) ?_
      refine lv_iload_n hx hb dX8_guard_29 rfl (lv_at hl 2 rfl) ?_
      obtain ⟨o, ho5, eo⟩ := ho k hk
      refine z_callV (wn := (refW cs a V G)) ⟨hx, hb, hml, hown, hts⟩ zY_X8_guardOf w_im_yX8_guardOf w_se_yX8_guardOf w_ml_X8_129 [.int (nI k), .int (nI j)] [.ref (a 0)] (c_X8_guardOf l D cs a V G k o j (by omega) hj ho5 eo) hE hK hA hP hD hS [0, 1, 2, 3, 4, 5, 6] rfl rfl rfl rfl 8 rfl rfl rfl rfl hl.1 (Nat.le_of_ble_eq_true rfl) ⟨Nat.le_of_ble_eq_true rfl, Nat.le_of_ble_eq_true rfl⟩ ⟨Nat.le_of_ble_eq_true rfl, Nat.le_of_ble_eq_true rfl⟩ dX8_guard_30 (fun H locs hP hD hS => ?_)
      refine z_callV (wn := (refW cs a (upd V 1 0) G)) ⟨hx, hb, hml, hown, hts⟩ zY_X8_fine w_im_yX8_fine w_se_yX8_fine w_ml_X8_65 [.int (rgrd (G 0) k j)] [] (c_X8_fine l D cs a V G (rgrd (G 0) k j)) hE hK hA hP hD hS [0, 1, 2, 3, 4, 5, 6] rfl rfl rfl rfl 8 rfl rfl rfl rfl hl.1 (Nat.le_of_ble_eq_true rfl) ⟨Nat.le_of_ble_eq_true rfl, Nat.le_of_ble_eq_true rfl⟩ ⟨Nat.le_of_ble_eq_true rfl, Nat.le_of_ble_eq_true rfl⟩ dX8_guard_33 (fun H locs hP hD hS => ?_)
      refine lv_goto (tgt := 44) hx hb dX8_guard_36 (by decide) ?_
      exact z_iret hx hb hr hlk hK hP hD hS dX8_guard_44 (by simp only [hNk, hNj]) rfl
  · skip
    have c_1 := bI_0.mp c_1
    exact absurd q0 c_1

set_option maxHeartbeats 4000000 in
set_option maxRecDepth 100000 in
theorem c_X8_value_t1 (l : Launch) (D : va_G) (cs : zCs) (a : Nat → Nat) (V : Nat → Int32) (G : Nat → Nat → Int32) (wh : Int32) (hbad : ¬ (0 ≤ wh ∧ wh ≤ 15)) : zM l D cs yX8_value cX8_value 2 (some FieldType.int) 1 25 0 0 [.ref (a 0), .int wh] (refW cs a V G) (some (.int 0)) (refW cs a (upd V 1 1) G) := by
  refine zM.of (own := RX8) (by decide) (Nat.le_of_ble_eq_true rfl) rfl ?_
  intro pq eq s mq below meth cq A ls hx hb hr hml hown hts hlk hnm hE hK hA hP hD hS hl
  have hl : lv_has ls 2 [(0, .ref (a 0)), (1, .int wh)] := hl
  refine lv_iload_n hx hb dX8_value_0 rfl (lv_at hl 1 rfl) ?_
  refine lv_i2l (v := wh.toInt64) hx hb dX8_value_1 rfl ?_
  refine lv_lconst (v := 0) hx hb dX8_value_2 (by decide) ?_
  refine lv_ldc2 (v := 15) hx hb hown (hts _ w_ct_X8_132) dX8_value_3 ?_
  refine z_callS (wn := (refW cs a V G)) ⟨hx, hb, hml, hown, hts⟩ zY_X8_in w_st_yX8_in w_ml_X8_40 [.long wh.toInt64, .long 0, .long 15] [] (c_X8_in l D cs wh.toInt64 0 15) hE hK hA hP hD hS [] rfl rfl rfl z_ins_nil rfl hl.1 (Nat.le_of_ble_eq_true rfl) ⟨Nat.le_of_ble_eq_true rfl, Nat.le_of_ble_eq_true rfl⟩ ⟨Nat.le_of_ble_eq_true rfl, Nat.le_of_ble_eq_true rfl⟩ dX8_value_6 (fun H locs hP hD hS => ?_)
  refine z_top (y := bI (0 ≤ wh ∧ wh ≤ 15)) (bI_congr (in64 (by decide) (by decide))) ?_
  refine lv_if_eq (tgt := 25) hx hb dX8_value_9 (by decide) (fun c_1 => ?_) (fun c_1 => ?_)
  · skip
    have c_1 := bI_0.mp c_1
    refine lv_aload_n hx hb dX8_value_25 rfl (lv_at hl 0 rfl) ?_
    refine lv_iconst (v := 1) hx hb dX8_value_26 (by decide) ?_
    refine z_callV (wn := (refW cs a (upd V 1 1) G)) ⟨hx, hb, hml, hown, hts⟩ zY_X8_throwing w_im_yX8_throwing w_se_yX8_throwing w_ml_X8_55 [.int 1] [] (c_X8_throwing l D cs a V G 1) hE hK hA hP hD hS [0, 1, 2, 3, 4, 5, 6] rfl rfl rfl rfl 8 rfl rfl rfl rfl hl.1 (Nat.le_of_ble_eq_true rfl) ⟨Nat.le_of_ble_eq_true rfl, Nat.le_of_ble_eq_true rfl⟩ ⟨Nat.le_of_ble_eq_true rfl, Nat.le_of_ble_eq_true rfl⟩ dX8_value_27 (fun H locs hP hD hS => ?_)
    exact z_iret hx hb hr hlk hK hP hD hS dX8_value_30 rfl rfl
  · skip
    have c_1 := bI_n0 c_1
    exact absurd c_1 hbad

set_option maxHeartbeats 4000000 in
set_option maxRecDepth 100000 in
theorem c_X8_value_ok (l : Launch) (D : va_G) (cs : zCs) (a : Nat → Nat) (V : Nat → Int32) (G : Nat → Nat → Int32) (wh : Int32) (q0 : 0 ≤ wh ∧ wh ≤ 15) : zM l D cs yX8_value cX8_value 2 (some FieldType.int) 1 25 0 0 [.ref (a 0), .int wh] (refW cs a V G) (some (.int ((G 0) (nN wh)))) (refW cs a (upd V 1 0) G) := by
  refine zM.of (own := RX8) (by decide) (Nat.le_of_ble_eq_true rfl) rfl ?_
  intro pq eq s mq below meth cq A ls hx hb hr hml hown hts hlk hnm hE hK hA hP hD hS hl
  have hl : lv_has ls 2 [(0, .ref (a 0)), (1, .int wh)] := hl
  refine lv_iload_n hx hb dX8_value_0 rfl (lv_at hl 1 rfl) ?_
  refine lv_i2l (v := wh.toInt64) hx hb dX8_value_1 rfl ?_
  refine lv_lconst (v := 0) hx hb dX8_value_2 (by decide) ?_
  refine lv_ldc2 (v := 15) hx hb hown (hts _ w_ct_X8_132) dX8_value_3 ?_
  refine z_callS (wn := (refW cs a V G)) ⟨hx, hb, hml, hown, hts⟩ zY_X8_in w_st_yX8_in w_ml_X8_40 [.long wh.toInt64, .long 0, .long 15] [] (c_X8_in l D cs wh.toInt64 0 15) hE hK hA hP hD hS [] rfl rfl rfl z_ins_nil rfl hl.1 (Nat.le_of_ble_eq_true rfl) ⟨Nat.le_of_ble_eq_true rfl, Nat.le_of_ble_eq_true rfl⟩ ⟨Nat.le_of_ble_eq_true rfl, Nat.le_of_ble_eq_true rfl⟩ dX8_value_6 (fun H locs hP hD hS => ?_)
  refine z_top (y := bI (0 ≤ wh ∧ wh ≤ 15)) (bI_congr (in64 (by decide) (by decide))) ?_
  refine lv_if_eq (tgt := 25) hx hb dX8_value_9 (by decide) (fun c_1 => ?_) (fun c_1 => ?_)
  · skip
    have c_1 := bI_0.mp c_1
    exact absurd q0 c_1
  · skip
    have c_1 := bI_n0 c_1
    obtain ⟨k, hk, rfl⟩ := z_nat15 c_1
    have hNk := nN_nI (k := k) (by omega)
    refine lv_aload_n hx hb dX8_value_12 rfl (lv_at hl 0 rfl) ?_
    refine lv_aload_n hx hb dX8_value_13 rfl (lv_at hl 0 rfl) ?_
    refine va_get (D := D) (ci := 8) (v := .ref (a 1)) (C := RX8) (T := TX8) (N := 13) hx hb hts wsI_X8 hown hK hP 0 rfl rfl 0 (by decide) (hts _ w_fl_X8_7) (fun _ h9 => h9) rfl dX8_value_14 ?_
    refine lv_iload_n hx hb dX8_value_17 rfl (lv_at hl 1 rfl) ?_
    refine z_iald (k := k) hx hb hK hP 1 rfl (by omega) (by first | decide | omega) dX8_value_18 ?_
    refine z_callV (wn := (refW cs a (upd V 1 0) G)) ⟨hx, hb, hml, hown, hts⟩ zY_X8_fine w_im_yX8_fine w_se_yX8_fine w_ml_X8_65 [.int ((G 0) k)] [] (c_X8_fine l D cs a V G ((G 0) k)) hE hK hA hP hD hS [0, 1, 2, 3, 4, 5, 6] rfl rfl rfl rfl 8 rfl rfl rfl rfl hl.1 (Nat.le_of_ble_eq_true rfl) ⟨Nat.le_of_ble_eq_true rfl, Nat.le_of_ble_eq_true rfl⟩ ⟨Nat.le_of_ble_eq_true rfl, Nat.le_of_ble_eq_true rfl⟩ dX8_value_19 (fun H locs hP hD hS => ?_)
    refine lv_goto (tgt := 30) hx hb dX8_value_22 (by decide) ?_
    exact z_iret hx hb hr hlk hK hP hD hS dX8_value_30 (by simp only [hNk]) rfl

set_option maxHeartbeats 4000000 in
set_option maxRecDepth 100000 in
theorem c_X8_chart_t1 (l : Launch) (D : va_G) (cs : zCs) (a : Nat → Nat) (V : Nat → Int32) (G : Nat → Nat → Int32) (n0 : Nat) (cy st : Int32) (h0 : G 0 0 = nI n0) (hn0 : n0 ≤ 16) (hbad : ¬ ((0 ≤ cy ∧ cy ≤ 4) ∧ (0 ≤ st ∧ st ≤ (G 0) 0 - 1))) : zM l D cs yX8_chart cX8_chart 3 (some FieldType.int) 2 46 0 0 [.ref (a 0), .int cy, .int st] (refW cs a V G) (some (.int 0)) (refW cs a (upd V 1 1) G) := by
  refine zM.of (own := RX8) (by decide) (Nat.le_of_ble_eq_true rfl) rfl ?_
  intro pq eq s mq below meth cq A ls hx hb hr hml hown hts hlk hnm hE hK hA hP hD hS hl
  have hl : lv_has ls 3 [(0, .ref (a 0)), (1, .int cy), (2, .int st)] := hl
  refine lv_iload_n hx hb dX8_chart_0 rfl (lv_at hl 1 rfl) ?_
  refine z_callS (wn := (refW cs a V G)) ⟨hx, hb, hml, hown, hts⟩ zY_X8_isCylinder w_st_yX8_isCylinder w_ml_X8_48 [.int cy] [] (c_X8_isCylinder l D cs cy) hE hK hA hP hD hS [] rfl rfl rfl z_ins_nil rfl hl.1 (Nat.le_of_ble_eq_true rfl) ⟨Nat.le_of_ble_eq_true rfl, Nat.le_of_ble_eq_true rfl⟩ ⟨Nat.le_of_ble_eq_true rfl, Nat.le_of_ble_eq_true rfl⟩ dX8_chart_1 (fun H locs hP hD hS => ?_)
  refine lv_if_eq (tgt := 36) hx hb dX8_chart_4 (by decide) (fun c_1 => ?_) (fun c_1 => ?_)
  · skip
    have c_1 := bI_0.mp c_1
    refine lv_aload_n hx hb dX8_chart_36 rfl (lv_at hl 0 rfl) ?_
    refine lv_iconst (v := 1) hx hb dX8_chart_37 (by decide) ?_
    refine z_callV (wn := (refW cs a (upd V 1 1) G)) ⟨hx, hb, hml, hown, hts⟩ zY_X8_throwing w_im_yX8_throwing w_se_yX8_throwing w_ml_X8_55 [.int 1] [] (c_X8_throwing l D cs a V G 1) hE hK hA hP hD hS [0, 1, 2, 3, 4, 5, 6] rfl rfl rfl rfl 8 rfl rfl rfl rfl hl.1 (Nat.le_of_ble_eq_true rfl) ⟨Nat.le_of_ble_eq_true rfl, Nat.le_of_ble_eq_true rfl⟩ ⟨Nat.le_of_ble_eq_true rfl, Nat.le_of_ble_eq_true rfl⟩ dX8_chart_38 (fun H locs hP hD hS => ?_)
    exact z_iret hx hb hr hlk hK hP hD hS dX8_chart_41 rfl rfl
  · skip
    have c_1 := bI_n0 c_1
    refine lv_aload_n hx hb dX8_chart_7 rfl (lv_at hl 0 rfl) ?_
    refine lv_iload_n hx hb dX8_chart_8 rfl (lv_at hl 2 rfl) ?_
    refine z_callV (wn := (refW cs a V G)) ⟨hx, hb, hml, hown, hts⟩ zY_X8_isStep w_im_yX8_isStep w_se_yX8_isStep w_ml_X8_52 [.int st] [] (c_X8_isStep l D cs a V G st n0 h0 (by omega)) hE hK hA hP hD hS [0, 1, 2, 3, 4, 5, 6] rfl rfl rfl rfl 8 rfl rfl rfl rfl hl.1 (Nat.le_of_ble_eq_true rfl) ⟨Nat.le_of_ble_eq_true rfl, Nat.le_of_ble_eq_true rfl⟩ ⟨Nat.le_of_ble_eq_true rfl, Nat.le_of_ble_eq_true rfl⟩ dX8_chart_9 (fun H locs hP hD hS => ?_)
    refine lv_if_eq (tgt := 36) hx hb dX8_chart_12 (by decide) (fun c_2 => ?_) (fun c_2 => ?_)
    · skip
      have c_2 := bI_0.mp c_2
      refine lv_aload_n hx hb dX8_chart_36 rfl (lv_at hl 0 rfl) ?_
      refine lv_iconst (v := 1) hx hb dX8_chart_37 (by decide) ?_
      refine z_callV (wn := (refW cs a (upd V 1 1) G)) ⟨hx, hb, hml, hown, hts⟩ zY_X8_throwing w_im_yX8_throwing w_se_yX8_throwing w_ml_X8_55 [.int 1] [] (c_X8_throwing l D cs a V G 1) hE hK hA hP hD hS [0, 1, 2, 3, 4, 5, 6] rfl rfl rfl rfl 8 rfl rfl rfl rfl hl.1 (Nat.le_of_ble_eq_true rfl) ⟨Nat.le_of_ble_eq_true rfl, Nat.le_of_ble_eq_true rfl⟩ ⟨Nat.le_of_ble_eq_true rfl, Nat.le_of_ble_eq_true rfl⟩ dX8_chart_38 (fun H locs hP hD hS => ?_)
      exact z_iret hx hb hr hlk hK hP hD hS dX8_chart_41 rfl rfl
    · skip
      have c_2 := bI_n0 c_2
      exact absurd ⟨c_1, c_2⟩ hbad

set_option maxHeartbeats 4000000 in
set_option maxRecDepth 100000 in
theorem c_X8_chart_ok (l : Launch) (D : va_G) (cs : zCs) (a : Nat → Nat) (V : Nat → Int32) (G : Nat → Nat → Int32) (n0 : Nat) (cy st : Int32) (h0 : G 0 0 = nI n0) (hn0 : n0 ≤ 16) (q0 : 0 ≤ cy ∧ cy ≤ 4) (q1 : 0 ≤ st ∧ st ≤ (G 0) 0 - 1) : zM l D cs yX8_chart cX8_chart 3 (some FieldType.int) 2 46 0 0 [.ref (a 0), .int cy, .int st] (refW cs a V G) (some (.int ((G 0) (63 + 16 * nN cy + nN st)))) (refW cs a (upd V 1 0) G) := by
  refine zM.of (own := RX8) (by decide) (Nat.le_of_ble_eq_true rfl) rfl ?_
  intro pq eq s mq below meth cq A ls hx hb hr hml hown hts hlk hnm hE hK hA hP hD hS hl
  have hl : lv_has ls 3 [(0, .ref (a 0)), (1, .int cy), (2, .int st)] := hl
  refine lv_iload_n hx hb dX8_chart_0 rfl (lv_at hl 1 rfl) ?_
  refine z_callS (wn := (refW cs a V G)) ⟨hx, hb, hml, hown, hts⟩ zY_X8_isCylinder w_st_yX8_isCylinder w_ml_X8_48 [.int cy] [] (c_X8_isCylinder l D cs cy) hE hK hA hP hD hS [] rfl rfl rfl z_ins_nil rfl hl.1 (Nat.le_of_ble_eq_true rfl) ⟨Nat.le_of_ble_eq_true rfl, Nat.le_of_ble_eq_true rfl⟩ ⟨Nat.le_of_ble_eq_true rfl, Nat.le_of_ble_eq_true rfl⟩ dX8_chart_1 (fun H locs hP hD hS => ?_)
  refine lv_if_eq (tgt := 36) hx hb dX8_chart_4 (by decide) (fun c_1 => ?_) (fun c_1 => ?_)
  · skip
    have c_1 := bI_0.mp c_1
    exact absurd q0 c_1
  · skip
    have c_1 := bI_n0 c_1
    refine lv_aload_n hx hb dX8_chart_7 rfl (lv_at hl 0 rfl) ?_
    refine lv_iload_n hx hb dX8_chart_8 rfl (lv_at hl 2 rfl) ?_
    refine z_callV (wn := (refW cs a V G)) ⟨hx, hb, hml, hown, hts⟩ zY_X8_isStep w_im_yX8_isStep w_se_yX8_isStep w_ml_X8_52 [.int st] [] (c_X8_isStep l D cs a V G st n0 h0 (by omega)) hE hK hA hP hD hS [0, 1, 2, 3, 4, 5, 6] rfl rfl rfl rfl 8 rfl rfl rfl rfl hl.1 (Nat.le_of_ble_eq_true rfl) ⟨Nat.le_of_ble_eq_true rfl, Nat.le_of_ble_eq_true rfl⟩ ⟨Nat.le_of_ble_eq_true rfl, Nat.le_of_ble_eq_true rfl⟩ dX8_chart_9 (fun H locs hP hD hS => ?_)
    refine lv_if_eq (tgt := 36) hx hb dX8_chart_12 (by decide) (fun c_2 => ?_) (fun c_2 => ?_)
    · skip
      have c_2 := bI_0.mp c_2
      exact absurd q1 c_2
    · skip
      have c_2 := bI_n0 c_2
      obtain ⟨k, hk, rfl⟩ := z_nat4 c_1
      have hNk := nN_nI (k := k) (by omega)
      obtain ⟨j, hj, rfl⟩ := z_natR h0 hn0 c_2
      have hNj := nN_nI (k := j) (by omega)
      refine lv_aload_n hx hb dX8_chart_15 rfl (lv_at hl 0 rfl) ?_
      refine lv_aload_n hx hb dX8_chart_16 rfl (lv_at hl 0 rfl) ?_
      refine va_get (D := D) (ci := 8) (v := .ref (a 1)) (C := RX8) (T := TX8) (N := 13) hx hb hts wsI_X8 hown hK hP 0 rfl rfl 0 (by decide) (hts _ w_fl_X8_7) (fun _ h9 => h9) rfl dX8_chart_17 ?_
      refine lv_bipush (v := 63) hx hb dX8_chart_20 (by decide) ?_
      refine lv_bipush (v := 16) hx hb dX8_chart_22 (by decide) ?_
      refine lv_iload_n hx hb dX8_chart_24 rfl (lv_at hl 1 rfl) ?_
      refine lv_imul hx hb dX8_chart_25 ?_
      refine z_top (y := nI (16 * k)) (pk_mul 16 k) ?_
      refine lv_iadd hx hb dX8_chart_26 ?_
      refine z_top (y := nI (63 + (16 * k))) (nI_add 63 (16 * k)) ?_
      refine lv_iload_n hx hb dX8_chart_27 rfl (lv_at hl 2 rfl) ?_
      refine lv_iadd hx hb dX8_chart_28 ?_
      refine z_top (y := nI ((63 + (16 * k)) + j)) (nI_add (63 + (16 * k)) j) ?_
      refine z_iald (k := (63 + (16 * k)) + j) hx hb hK hP 1 rfl (by omega) (by first | decide | omega) dX8_chart_29 ?_
      refine z_callV (wn := (refW cs a (upd V 1 0) G)) ⟨hx, hb, hml, hown, hts⟩ zY_X8_fine w_im_yX8_fine w_se_yX8_fine w_ml_X8_65 [.int ((G 0) ((63 + (16 * k)) + j))] [] (c_X8_fine l D cs a V G ((G 0) ((63 + (16 * k)) + j))) hE hK hA hP hD hS [0, 1, 2, 3, 4, 5, 6] rfl rfl rfl rfl 8 rfl rfl rfl rfl hl.1 (Nat.le_of_ble_eq_true rfl) ⟨Nat.le_of_ble_eq_true rfl, Nat.le_of_ble_eq_true rfl⟩ ⟨Nat.le_of_ble_eq_true rfl, Nat.le_of_ble_eq_true rfl⟩ dX8_chart_30 (fun H locs hP hD hS => ?_)
      refine lv_goto (tgt := 41) hx hb dX8_chart_33 (by decide) ?_
      exact z_iret hx hb hr hlk hK hP hD hS dX8_chart_41 (by simp only [hNk, hNj]) rfl

set_option maxHeartbeats 4000000 in
set_option maxRecDepth 100000 in
theorem c_X8_skips_t1 (l : Launch) (D : va_G) (cs : zCs) (a : Nat → Nat) (V : Nat → Int32) (G : Nat → Nat → Int32) (n0 : Nat) (st : Int32) (h0 : G 0 0 = nI n0) (hn0 : n0 ≤ 16) (hbad : ¬ (0 ≤ st ∧ st ≤ (G 0) 0 - 1)) : zM l D cs yX8_skips cX8_skips 2 (some FieldType.int) 2 46 0 0 [.ref (a 0), .int st] (refW cs a V G) (some (.int 0)) (refW cs a (upd V 1 1) G) := by
  refine zM.of (own := RX8) (by decide) (Nat.le_of_ble_eq_true rfl) rfl ?_
  intro pq eq s mq below meth cq A ls hx hb hr hml hown hts hlk hnm hE hK hA hP hD hS hl
  have hl : lv_has ls 2 [(0, .ref (a 0)), (1, .int st)] := hl
  refine lv_aload_n hx hb dX8_skips_0 rfl (lv_at hl 0 rfl) ?_
  refine lv_iload_n hx hb dX8_skips_1 rfl (lv_at hl 1 rfl) ?_
  refine z_callV (wn := (refW cs a V G)) ⟨hx, hb, hml, hown, hts⟩ zY_X8_isStep w_im_yX8_isStep w_se_yX8_isStep w_ml_X8_52 [.int st] [] (c_X8_isStep l D cs a V G st n0 h0 (by omega)) hE hK hA hP hD hS [0, 1, 2, 3, 4, 5, 6] rfl rfl rfl rfl 8 rfl rfl rfl rfl hl.1 (Nat.le_of_ble_eq_true rfl) ⟨Nat.le_of_ble_eq_true rfl, Nat.le_of_ble_eq_true rfl⟩ ⟨Nat.le_of_ble_eq_true rfl, Nat.le_of_ble_eq_true rfl⟩ dX8_skips_2 (fun H locs hP hD hS => ?_)
  refine lv_if_eq (tgt := 25) hx hb dX8_skips_5 (by decide) (fun c_1 => ?_) (fun c_1 => ?_)
  · skip
    have c_1 := bI_0.mp c_1
    refine lv_aload_n hx hb dX8_skips_25 rfl (lv_at hl 0 rfl) ?_
    refine lv_iconst (v := 1) hx hb dX8_skips_26 (by decide) ?_
    refine z_callV (wn := (refW cs a (upd V 1 1) G)) ⟨hx, hb, hml, hown, hts⟩ zY_X8_throwing w_im_yX8_throwing w_se_yX8_throwing w_ml_X8_55 [.int 1] [] (c_X8_throwing l D cs a V G 1) hE hK hA hP hD hS [0, 1, 2, 3, 4, 5, 6] rfl rfl rfl rfl 8 rfl rfl rfl rfl hl.1 (Nat.le_of_ble_eq_true rfl) ⟨Nat.le_of_ble_eq_true rfl, Nat.le_of_ble_eq_true rfl⟩ ⟨Nat.le_of_ble_eq_true rfl, Nat.le_of_ble_eq_true rfl⟩ dX8_skips_27 (fun H locs hP hD hS => ?_)
    exact z_iret hx hb hr hlk hK hP hD hS dX8_skips_30 rfl rfl
  · skip
    have c_1 := bI_n0 c_1
    exact absurd c_1 hbad

set_option maxHeartbeats 4000000 in
set_option maxRecDepth 100000 in
theorem c_X8_skips_ok (l : Launch) (D : va_G) (cs : zCs) (a : Nat → Nat) (V : Nat → Int32) (G : Nat → Nat → Int32) (n0 : Nat) (st : Int32) (h0 : G 0 0 = nI n0) (hn0 : n0 ≤ 16) (q0 : 0 ≤ st ∧ st ≤ (G 0) 0 - 1) : zM l D cs yX8_skips cX8_skips 2 (some FieldType.int) 2 46 0 0 [.ref (a 0), .int st] (refW cs a V G) (some (.int ((G 0) (143 + nN st)))) (refW cs a (upd V 1 0) G) := by
  refine zM.of (own := RX8) (by decide) (Nat.le_of_ble_eq_true rfl) rfl ?_
  intro pq eq s mq below meth cq A ls hx hb hr hml hown hts hlk hnm hE hK hA hP hD hS hl
  have hl : lv_has ls 2 [(0, .ref (a 0)), (1, .int st)] := hl
  refine lv_aload_n hx hb dX8_skips_0 rfl (lv_at hl 0 rfl) ?_
  refine lv_iload_n hx hb dX8_skips_1 rfl (lv_at hl 1 rfl) ?_
  refine z_callV (wn := (refW cs a V G)) ⟨hx, hb, hml, hown, hts⟩ zY_X8_isStep w_im_yX8_isStep w_se_yX8_isStep w_ml_X8_52 [.int st] [] (c_X8_isStep l D cs a V G st n0 h0 (by omega)) hE hK hA hP hD hS [0, 1, 2, 3, 4, 5, 6] rfl rfl rfl rfl 8 rfl rfl rfl rfl hl.1 (Nat.le_of_ble_eq_true rfl) ⟨Nat.le_of_ble_eq_true rfl, Nat.le_of_ble_eq_true rfl⟩ ⟨Nat.le_of_ble_eq_true rfl, Nat.le_of_ble_eq_true rfl⟩ dX8_skips_2 (fun H locs hP hD hS => ?_)
  refine lv_if_eq (tgt := 25) hx hb dX8_skips_5 (by decide) (fun c_1 => ?_) (fun c_1 => ?_)
  · skip
    have c_1 := bI_0.mp c_1
    exact absurd q0 c_1
  · skip
    have c_1 := bI_n0 c_1
    obtain ⟨j, hj, rfl⟩ := z_natR h0 hn0 c_1
    have hNj := nN_nI (k := j) (by omega)
    refine lv_aload_n hx hb dX8_skips_8 rfl (lv_at hl 0 rfl) ?_
    refine lv_aload_n hx hb dX8_skips_9 rfl (lv_at hl 0 rfl) ?_
    refine va_get (D := D) (ci := 8) (v := .ref (a 1)) (C := RX8) (T := TX8) (N := 13) hx hb hts wsI_X8 hown hK hP 0 rfl rfl 0 (by decide) (hts _ w_fl_X8_7) (fun _ h9 => h9) rfl dX8_skips_10 ?_
    refine lv_sipush (v := 143) hx hb dX8_skips_13 (by decide) ?_
    refine lv_iload_n hx hb dX8_skips_16 rfl (lv_at hl 1 rfl) ?_
    refine lv_iadd hx hb dX8_skips_17 ?_
    refine z_top (y := nI (143 + j)) (nI_add 143 j) ?_
    refine z_iald (k := 143 + j) hx hb hK hP 1 rfl (by omega) (by first | decide | omega) dX8_skips_18 ?_
    refine z_callV (wn := (refW cs a (upd V 1 0) G)) ⟨hx, hb, hml, hown, hts⟩ zY_X8_fine w_im_yX8_fine w_se_yX8_fine w_ml_X8_65 [.int ((G 0) (143 + j))] [] (c_X8_fine l D cs a V G ((G 0) (143 + j))) hE hK hA hP hD hS [0, 1, 2, 3, 4, 5, 6] rfl rfl rfl rfl 8 rfl rfl rfl rfl hl.1 (Nat.le_of_ble_eq_true rfl) ⟨Nat.le_of_ble_eq_true rfl, Nat.le_of_ble_eq_true rfl⟩ ⟨Nat.le_of_ble_eq_true rfl, Nat.le_of_ble_eq_true rfl⟩ dX8_skips_19 (fun H locs hP hD hS => ?_)
    refine lv_goto (tgt := 30) hx hb dX8_skips_22 (by decide) ?_
    exact z_iret hx hb hr hlk hK hP hD hS dX8_skips_30 (by simp only [hNj]) rfl
