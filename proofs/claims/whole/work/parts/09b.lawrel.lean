/-! the state of the law's loop: the drum against the reference -/
abbrev lwN (cs : zCs) (ad kd : Nat → Nat → Nat) (a : Nat → Nat) (ou : Nat) (S : Nat → Int32) (F : Nat → Nat → Int32) (TS : Nat → Int32) (TF : Nat → Nat → Int32) (ES : Nat → Int32) (EF : Nat → Nat → Int32) (HS : Nat → Int32) (KS : Nat → Nat → Int32) (KF : Nat → Nat → Nat → Int32) (X : Nat → Int32) (B : Nat → Nat → Int32) (V : Nat → Int32) (G : Nat → Nat → Int32) (OL : Nat → Int64) : va_W :=
  ((camW ad) ++ (macW cs (ad 0) S F) ++ (macW cs (ad 1) TS TF) ++ (macW cs (ad 2) ES EF) ++ (hisW cs (ad 4) kd HS) ++ (macW cs (kd 0) (KS 0) (KF 0)) ++ (macW cs (kd 1) (KS 1) (KF 1)) ++ (macW cs (kd 2) (KS 2) (KF 2)) ++ (macW cs (kd 3) (KS 3) (KF 3)) ++ (txtW cs (ad 5) X B) ++ (refW cs a V G) ++ [(ou, .inl (cs.2.1, 1, .inr (.inl OL)))])
def lwR (S : Nat → Int32) (F : Nat → Nat → Int32) (HS : Nat → Int32) (KS : Nat → Nat → Int32) (KF : Nat → Nat → Nat → Int32) (X : Nat → Int32) (B : Nat → Nat → Int32) (V : Nat → Int32) (G : Nat → Nat → Int32) (p n L : Nat) : Prop :=
  (HS 0 = nI p ∧ p < 4 ∧ HS 1 = nI n ∧ n ≤ 4 ∧ V 0 = nI n) ∧ agr 100000 (S, F) (G 0) ∧ rng p n KS KF (G 1) ∧ X 0 = nI L ∧ L ≤ 100 ∧ V 4 = nI L ∧ G 4 = B 0 ∧ txB (B 0) L
def lwI (cs : zCs) (ad kd : Nat → Nat → Nat) (a : Nat → Nat) (ou : Nat) (w : va_W) : Prop :=
  ∃ (S : Nat → Int32) (F : Nat → Nat → Int32) (TS : Nat → Int32) (TF : Nat → Nat → Int32) (ES : Nat → Int32) (EF : Nat → Nat → Int32) (HS : Nat → Int32) (KS : Nat → Nat → Int32) (KF : Nat → Nat → Nat → Int32) (X : Nat → Int32) (B : Nat → Nat → Int32) (V : Nat → Int32) (G : Nat → Nat → Int32) (OL : Nat → Int64) (p n L : Nat), w = lwN cs ad kd a ou S F TS TF ES EF HS KS KF X B V G OL ∧ lwR S F HS KS KF X B V G p n L
section LWR
variable {S S' : Nat → Int32} {F F' : Nat → Nat → Int32} {HS : Nat → Int32} {KS : Nat → Nat → Int32} {KF : Nat → Nat → Nat → Int32} {X X' : Nat → Int32} {B B' : Nat → Nat → Int32} {V V' : Nat → Int32} {G G' : Nat → Nat → Int32} {p n L : Nat} {f' : Nat → Int32}
theorem lwR_g (h : lwR S F HS KS KF X B V G p n L) (v0 : V' 0 = V 0) (v4 : V' 4 = V 4) (g0 : G' 0 = G 0) (g1 : G' 1 = G 1) (g4 : G' 4 = G 4) (x0 : X' 0 = X 0) (b0 : B' 0 = B 0) : lwR S F HS KS KF X' B' V' G' p n L := by
  obtain ⟨⟨h1, h2, h3, h4, h5⟩, h6, h7, h8, h9, h10, h11, h12⟩ := h
  refine ⟨⟨h1, h2, h3, h4, v0.trans h5⟩, ?_, ?_, x0.trans h8, h9, v4.trans h10, ?_, ?_⟩
  · rw [g0]; exact h6
  · rw [g1]; exact h7
  · rw [g4, b0]; exact h11
  · rw [b0]; exact h12
theorem lwR_v (h : lwR S F HS KS KF X B V G p n L) (v0 : V' 0 = V 0) (v4 : V' 4 = V 4) : lwR S F HS KS KF X B V' G p n L := lwR_g h v0 v4 rfl rfl rfl rfl rfl
theorem hNx_lt (p : Nat) : hNx p < 4 := by
  unfold hNx
  by_cases h : p + 1 < 4
  · rw [if_pos h]; exact h
  · rw [if_neg h]; omega
theorem lwR_save (h : lwR S F HS KS KF X B V G p n L) (ha : agr 100000 (S', F') f') (v0 : V' 0 = nI (min (n + 1) 4)) (v4 : V' 4 = V 4) (g0 : G' 0 = f') (g1 : G' 1 = svF n (G 1) (G 0)) (g4 : G' 4 = G 4) (x0 : X' 0 = X 0) (b0 : B' 0 = B 0) :
    lwR S' F' (upd (upd HS 0 (nI (hNx p))) 1 (nI (min (n + 1) 4))) (kup KS (hNx p) S) (kup KF (hNx p) F) X' B' V' G' (hNx p) (min (n + 1) 4) L := by
  obtain ⟨⟨h1, h2, h3, h4, h5⟩, h6, h7, h8, h9, h10, h11, h12⟩ := h
  refine ⟨⟨rfl, hNx_lt p, rfl, by omega, v0⟩, ?_, ?_, x0.trans h8, h9, v4.trans h10, ?_, ?_⟩
  · rw [g0]; exact ha
  · rw [g1]; exact q_save h2 h4 h7 h6
  · rw [g4, b0]; exact h11
  · rw [b0]; exact h12
theorem lwR_undo (h : lwR S F HS KS KF X B V G p n L) (hn0 : ¬ nI n = 0) (v0 : V' 0 = nI (n - 1)) (v4 : V' 4 = V 4) (g0 : G' 0 = fun j => G 1 (159 * (n - 1) + j)) (g1 : G' 1 = G 1) (g4 : G' 4 = G 4) :
    lwR (KS p) (KF p) (upd (upd HS 0 (nI (hPv p))) 1 (nI (n - 1))) KS KF X B V' G' (hPv p) (n - 1) L := by
  obtain ⟨⟨h1, h2, h3, h4, h5⟩, h6, h7, h8, h9, h10, h11, h12⟩ := h
  have hn1 : 0 < n := Nat.pos_of_ne_zero (fun e => hn0 (by rw [e]; rfl))
  obtain ⟨u1, u2⟩ := q_undo h2 h4 hn1 h7
  refine ⟨⟨rfl, by rw [hPv_e h2]; omega, rfl, by omega, v0⟩, ?_, ?_, h8, h9, v4.trans h10, ?_, h12⟩
  · rw [g0]; exact u1
  · rw [g1]; exact u2
  · rw [g4]; exact h11
theorem lwR_app (h : lwR S F HS KS KF X B V G p n L) {v : Int32} (hL1 : nI L < 100) (hv : 0 ≤ v ∧ v ≤ 127) (v0 : V' 0 = V 0) (v4 : V' 4 = nI (L + 1)) :
    lwR S F HS KS KF (upd X 0 (nI (L + 1))) (zU B 0 (upd (B 0) L v)) V' (zU G 4 (upd (G 4) L v)) p n (L + 1) := by
  obtain ⟨⟨h1, h2, h3, h4, h5⟩, h6, h7, h8, h9, h10, h11, h12⟩ := h
  have hlt : L < 100 := (nI_ltI (a := L) (b := 100) (by omega) (by omega)).mp hL1
  refine ⟨⟨h1, h2, h3, h4, v0.trans h5⟩, h6, h7, rfl, by omega, v4, ?_, ?_⟩
  · rw [zU_s, zU_s, h11]
  · rw [zU_s]
    intro j hj
    by_cases e : j = L
    · rw [e, upd_s]; exact q_rg hv rfl rfl
    · rw [upd_o _ _ e]; exact h12 j (by omega)
theorem lwR_clr (h : lwR S F HS KS KF X B V G p n L) (v0 : V' 0 = V 0) (v4 : V' 4 = 0) : lwR S F HS KS KF (upd X 0 0) B V' G p n 0 := by
  obtain ⟨⟨h1, h2, h3, h4, h5⟩, h6, h7, h8, h9, h10, h11, h12⟩ := h
  exact ⟨⟨h1, h2, h3, h4, v0.trans h5⟩, h6, h7, rfl, by omega, v4, h11, fun i hi => absurd hi (by omega)⟩
theorem lw_n0 (h : agr 100000 (S, F) f') : 2 ≤ nN (S 0) ∧ nN (S 0) ≤ 16 ∧ S 0 = nI (nN (S 0)) := by
  have hS : ivS 100000 S := h.2.1
  obtain ⟨h0, -⟩ := hS
  exact ⟨by show 2 ≤ (S 0).toInt.toNat; omega, by show (S 0).toInt.toNat ≤ 16; omega, (p_nN _ (by omega)).symm⟩
theorem lw_n8 (h : agr 100000 (S, F) f') : nN (S 8) ≤ 4 ∧ S 8 = nI (nN (S 8)) ∧ zmin (S 8) 4 = S 8 := by
  have hS : ivS 100000 S := h.2.1
  have h8 := hS.2.2.2.2.2.2.2.1
  have h4 : (4 : Int32).toInt = 4 := rfl
  exact ⟨by show (S 8).toInt.toNat ≤ 4; omega, (p_nN _ (by omega)).symm, p_eq.mpr (by rw [p_min]; omega)⟩
theorem lw_ho (h : agr 100000 (S, F) f') : ∀ j, j < nN (S 8) → ∃ o, o < 5 ∧ f' (51 + 3 * j + 1) = nI o := by
  have hr : rlx (S 9) S F f' := h.1
  have hg := (lw_n8 h).1
  intro j hj
  have h8 : 0 ≤ (F 8 j).toInt ∧ (F 8 j).toInt < 5 := (h.2.2.2 j (by omega)).2.1
  exact ⟨(F 8 j).toInt.toNat, by omega, by rw [rlx_g1 hr (by omega) hj]; exact (p_nI _ (by omega)).symm⟩
theorem lw_gl (h : agr 100000 (S, F) f') : S 8 < 4 ↔ ¬ nI (nN (S 8)) = 4 := by
  obtain ⟨h4, h8, -⟩ := lw_n8 h
  have e4 : (4 : Int32).toInt = 4 := rfl
  have e := nI_toInt (n := nN (S 8)) (by omega)
  rw [p_lt, p_eq]
  have e' : (S 8).toInt = (nI (nN (S 8))).toInt := congrArg Int32.toInt h8
  omega
theorem lw_ll (hL : L ≤ 100) : nI L < 100 ↔ ¬ nI L = 100 := by
  have e1 : (100 : Int32).toInt = 100 := rfl
  have e := nI_toInt (n := L) (by omega)
  rw [p_lt, p_eq]
  omega
theorem lw_gk (h : agr 100000 (S, F) f') {g : Int32} (hg : 0 ≤ g ∧ g ≤ S 8 - 1) : nN g < nN (S 8) ∧ nN g < 4 := by
  have hS : ivS 100000 S := h.2.1
  have h8 := hS.2.2.2.2.2.2.2.1
  have a := p_le.mp hg.1
  have b := p_le.mp hg.2
  rw [p_0] at a
  rw [p_sub (by rw [p_1]; omega), p_1] at b
  refine ⟨by show g.toInt.toNat < (S 8).toInt.toNat; omega, by show g.toInt.toNat < 4; omega⟩
theorem lw_wh {w : Int32} {M : Int32} {k : Nat} (h : 0 ≤ w ∧ w ≤ M) (e : M.toInt = k) : nN w < k + 1 := by
  have a := p_le.mp h.1
  have b := p_le.mp h.2
  rw [p_0] at a
  show w.toInt.toNat < k + 1
  omega
end LWR
theorem z87 : (8 : Int32) - 1 = 7 := by decide
theorem z43 : (4 : Int32) - 1 = 3 := by decide
theorem z165 : (16 : Int32) - 1 = 15 := by decide
theorem lw_gz {S : Nat → Int32} {g : Int32} (ez : zmin (S 8) 4 = S 8) (h : 0 ≤ g ∧ g ≤ zmin (S 8) 4 - 1) : 0 ≤ g ∧ g ≤ S 8 - 1 := by rw [ez] at h; exact h
theorem lw_g4 {S : Nat → Int32} {F : Nat → Nat → Int32} {f : Nat → Int32} (h : agr 100000 (S, F) f) (h8 : S 8 < 4) : nN (S 8) < 4 := by
  have hS : ivS 100000 S := h.2.1
  have g8 := hS.2.2.2.2.2.2.2.1
  have a := p_lt.mp h8
  rw [show (4 : Int32).toInt = 4 from rfl] at a
  show (S 8).toInt.toNat < 4
  omega
theorem lw_ag {S : Nat → Int32} {F : Nat → Nat → Int32} {f : Nat → Int32} (h : agr 100000 (S, F) f) : S 8 + 1 - 1 = nI (nN (S 8)) := by
  rw [Int32.add_sub_cancel]; exact (lw_n8 h).2.1
theorem lw_lc {S : Nat → Int32} {F : Nat → Nat → Int32} {f : Nat → Int32} (h : agr 100000 (S, F) f) {tk : Int32} (h1 : 1 ≤ tk ∧ tk ≤ 300) (w : Int32 × Int32) : lcR (nN tk) S F 51 0 = (rlcN (nN tk) f 51 (-1) w).1 := by
  have g := q_rg (m := 1) (M := 300) h1 rfl rfl
  have hk : (nN tk : Int) = tk.toInt := by show (tk.toInt.toNat : Int) = _; omega
  have := q_lc h (nN tk) (by omega) 51 0 w (by omega)
  exact this.symm
theorem lw_sd {S : Nat → Int32} {F : Nat → Nat → Int32} {f : Nat → Int32} (h : agr 100000 (S, F) f) (w : Int32 × Int32) : sdR S F 20 1 = (rsdN f 20 1 (-1) w).1 := by
  have := q_sd h (by decide) 20 1 (-1) w (by omega) (by omega)
  rw [if_pos rfl] at this
  exact this.symm
theorem lw_12 {S : Nat → Int32} {F : Nat → Nat → Int32} {f : Nat → Int32} (h : agr 100000 (S, F) f) : 1000 ≤ (S 12).toInt := by
  have hS : ivS 100000 S := h.2.1
  exact hS.2.2.2.2.2.2.2.2.2.2.2.1
theorem lw_hm {S : Nat → Int32} {F : Nat → Nat → Int32} {f : Nat → Int32} (h : agr 100000 (S, F) f) : ¬ S 12 ≤ 0 := fun q => by
  have a := p_le.mp q
  have b := lw_12 h
  rw [p_0] at a
  omega
theorem lw_hz {S : Nat → Int32} {F : Nat → Nat → Int32} {f : Nat → Int32} (h : agr 100000 (S, F) f) : vf_n64 (FP.ddiv (FP.i2d (S 14)) (FP.i2d (S 12))) := db_quo _ _ (by have := lw_12 h; omega)
theorem lw_hzg {S : Nat → Int32} {F : Nat → Nat → Int32} {f : Nat → Int32} (h : agr 100000 (S, F) f) : vf_n64 (FP.ddiv (FP.i2d (f 14)) (FP.i2d (f 12))) := by
  rw [show f 14 = S 14 from agr_s h (by omega), show f 12 = S 12 from agr_s h (by omega)]; exact lw_hz h
theorem lw_dg {S : Nat → Int32} {F : Nat → Nat → Int32} {HS : Nat → Int32} {KS : Nat → Nat → Int32} {KF : Nat → Nat → Nat → Int32} {X : Nat → Int32} {B : Nat → Nat → Int32} {V : Nat → Int32} {G : Nat → Nat → Int32} {p n L : Nat} (h : lwR S F HS KS KF X B V G p n L) (w : Int32 × Int32) : rdig (G 0, w.1, w.2) (nN (S 0)) (nN (S 8)) (V 4) (V 0) = dgst S F X HS (nN (S 0)) := by
  obtain ⟨⟨h1, h2, h3, h4, h5⟩, h6, h7, h8, h9, h10, h11, h12⟩ := h
  obtain ⟨g4, g8, -⟩ := lw_n8 h6
  exact d_all (q := (G 0, w.1, w.2)) h6 (by decide) (lw_n0 h6).2.1 g8 g4 (h10.trans h8.symm) (h5.trans h3.symm)
theorem zYw_setCam : zYw yL_setCam cL_setCam 6 (some FieldType.int) [((0), (12), (15), (13))] 5 := ⟨w_cw_yL_setCam, w_in_L, by decide +kernel⟩
theorem zYw_setPawl : zYw yL_setPawl cL_setPawl 5 (some FieldType.int) [((0), (10), (13), (19))] 4 := ⟨w_cw_yL_setPawl, w_in_L, by decide +kernel⟩
theorem zYw_setCylinder : zYw yL_setCylinder cL_setCylinder 7 (some FieldType.int) [((0), (14), (17), (13)), ((0), (14), (21), (19))] 6 := ⟨w_cw_yL_setCylinder, w_in_L, by decide +kernel⟩
theorem zYw_setAir : zYw yL_setAir cL_setAir 5 (some FieldType.int) [((0), (10), (13), (19))] 4 := ⟨w_cw_yL_setAir, w_in_L, by decide +kernel⟩
theorem zYw_addGuard : zYw yL_addGuard cL_addGuard 6 (some FieldType.int) [((0), (12), (15), (13)), ((0), (12), (19), (19)), ((0), (12), (23), (32))] 5 := ⟨w_cw_yL_addGuard, w_in_L, by decide +kernel⟩
theorem zYw_removeGuard : zYw yL_removeGuard cL_removeGuard 4 (some FieldType.int) [((0), (9), (12), (13))] 3 := ⟨w_cw_yL_removeGuard, w_in_L, by decide +kernel⟩
theorem zYw_turn : zYw yL_turn cL_turn 4 (some FieldType.int) [((0), (9), (12), (13))] 3 := ⟨w_cw_yL_turn, w_in_L, by decide +kernel⟩
theorem zYw_run : zYw yL_run cL_run 4 (some FieldType.int) [((0), (9), (12), (19)), ((0), (9), (15), (32))] 3 := ⟨w_cw_yL_run, w_in_L, by decide +kernel⟩
theorem zYw_cam : zYw yL_cam cL_cam 5 (some FieldType.int) [((0), (17), (20), (13))] 4 := ⟨w_cw_yL_cam, w_in_L, by decide +kernel⟩
theorem zYw_cylinder : zYw yL_cylinder cL_cylinder 5 (some FieldType.int) [((0), (10), (13), (13)), ((0), (10), (17), (19))] 4 := ⟨w_cw_yL_cylinder, w_in_L, by decide +kernel⟩
theorem zYw_guard : zYw yL_guard cL_guard 5 (some FieldType.int) [((0), (10), (13), (13)), ((0), (10), (17), (19))] 4 := ⟨w_cw_yL_guard, w_in_L, by decide +kernel⟩
theorem zYw_value : zYw yL_value cL_value 4 (some FieldType.int) [((0), (9), (12), (19))] 3 := ⟨w_cw_yL_value, w_in_L, by decide +kernel⟩
theorem zYw_chart : zYw yL_chart cL_chart 5 (some FieldType.int) [((0), (10), (13), (13))] 4 := ⟨w_cw_yL_chart, w_in_L, by decide +kernel⟩
theorem zYw_skips : zYw yL_skips cL_skips 4 (some FieldType.int) [((0), (9), (12), (13))] 3 := ⟨w_cw_yL_skips, w_in_L, by decide +kernel⟩
theorem zYw_ticksToOut : zYw yL_ticksToOut cL_ticksToOut 4 (some FieldType.int) [((0), (9), (12), (13))] 3 := ⟨w_cw_yL_ticksToOut, w_in_L, by decide +kernel⟩
theorem zYw_leastCompressor : zYw yL_leastCompressor cL_leastCompressor 4 (some FieldType.int) [((0), (9), (12), (19))] 3 := ⟨w_cw_yL_leastCompressor, w_in_L, by decide +kernel⟩
theorem zYw_append : zYw yL_append cL_append 4 (some FieldType.int) [((0), (9), (12), (19)), ((0), (9), (15), (32))] 3 := ⟨w_cw_yL_append, w_in_L, by decide +kernel⟩
theorem zYw_undo : zYw yL_undo cL_undo 3 (some FieldType.int) [((0), (8), (11), (32))] 2 := ⟨w_cw_yL_undo, w_in_L, by decide +kernel⟩
theorem lw_b1 {P Q : Prop} [Decidable P] [Decidable Q] (e : bI P = bI Q) (h : ¬ bI P = 0) : (bI Q).toInt64 = 1 := by
  by_cases q : Q
  · rw [bI_t q]; rfl
  · exact absurd (e.trans (bI_f q)) h
theorem lw_b0 {P Q : Prop} [Decidable P] [Decidable Q] (e : bI P = bI Q) (h : bI P = 0) : (bI Q).toInt64 = 0 := by
  rw [← e, h]; rfl
theorem lw_g0 {S : Nat → Int32} {F : Nat → Nat → Int32} {f : Nat → Int32} (h : agr 100000 (S, F) f) : 0 ≤ S 8 := by
  have hS : ivS 100000 S := h.2.1
  have g8 := hS.2.2.2.2.2.2.2.1
  exact p_le.mpr (by rw [p_0]; omega)
theorem lw_ps {S : Nat → Int32} {F : Nat → Nat → Int32} {HS : Nat → Int32} {KS : Nat → Nat → Int32} {KF : Nat → Nat → Nat → Int32} {X : Nat → Int32} {B : Nat → Nat → Int32} {V : Nat → Int32} {G : Nat → Nat → Int32} {p n L : Nat} (h : lwR S F HS KS KF X B V G p n L) (a3 : (rdZ (B 0) L (nN (S 0))).2.2 = (rwZ (B 0) L (nN (S 0))).2.2) :
    agr 100000 (upd (upd (upd S 0 (nI (rdn (B 0) L (nN (S 0))))) 1 0) 2 0, zU (zU (zU F 0 ((rdZ (B 0) L (nN (S 0))).2.2)) 10 (fun _ => -1)) 11 (fun _ => 0)) (rpsF (G 0) ((rwZ (G 4) L (nN (S 0))).2.2) (rtm (G 4) L (nN (S 0)))) ∧
    jsum (rdZ (B 0) L (nN (S 0))).2.2 5 = jsR (G 0) ((rwZ (G 4) L (nN (S 0))).2.2) 5 := by
  obtain ⟨⟨h1, h2, h3, h4, h5⟩, h6, h7, h8, h9, h10, h11, h12⟩ := h
  obtain ⟨n2, n16, -⟩ := lw_n0 h6
  have ht : trB (rwZ (B 0) L (nN (S 0))).2.2 := b_rw ⟨n2, n16⟩
  have hm := rdn_v (f := B 0) (L := L) ⟨n2, n16⟩
  rw [a3, h11, ← q_rdn ⟨n2, n16⟩]
  exact ⟨s_parse h6 ht hm, (s_jsum ht 5 (by omega)).symm⟩
