theorem sv_len (cs : zCs) (ad kd : Nat → Nat → Nat) (S S' : Nat → Int32) (F F' : Nat → Nat → Int32) (HS HS' : Nat → Int32) (KS KS' : Nat → Nat → Int32) (KF KF' : Nat → Nat → Nat → Int32) : (svW cs ad kd S F HS KS KF).map (fun q => q.1) = (svW cs ad kd S' F' HS' KS' KF').map (fun q => q.1) :=
  z_la (z_la (z_la (z_la (z_la (z_la (z_lc _) (z_lm _ _ _ _ _ _)) (z_lh _ _ _ _ _)) (z_lm _ _ _ _ _ _)) (z_lm _ _ _ _ _ _)) (z_lm _ _ _ _ _ _)) (z_lm _ _ _ _ _ _)
theorem stP_len {cs : zCs} {ad kd bd ld : Nat → Nat → Nat} {b : Nat} {N : Int} {S0 : Nat → Int32} {wo : va_W} (h : stP cs ad kd bd ld b N S0 wo) (S : Nat → Int32) (F : Nat → Nat → Int32) (HS : Nat → Int32) (KS : Nat → Nat → Int32) (KF : Nat → Nat → Nat → Int32) (V : Nat → Int32) (G : Nat → Nat → Int32) (HV : Nat → Int32) (KV : Nat → Nat → Int32) (KG : Nat → Nat → Nat → Int32) : wo.map (fun q => q.1) = (svW cs ad kd S F HS KS KF ++ svW cs bd ld V G HV KV KG).map (fun q => q.1) := by
  obtain ⟨S1, F1, HS1, KS1, KF1, V1, G1, HV1, KV1, KG1, p, n, q, r, rfl, -⟩ := h
  exact z_la (sv_len _ _ _ _ _ _ _ _ _ _ _ _ _) (sv_len _ _ _ _ _ _ _ _ _ _ _ _ _)
theorem alP_len {cs : zCs} {ad bd : Nat → Nat → Nat} {S V : Nat → Int32} {F G : Nat → Nat → Int32} {wo : va_W} (h : alP cs ad bd S F V G wo) (TS : Nat → Int32) (TF : Nat → Nat → Int32) (TV : Nat → Int32) (TG : Nat → Nat → Int32) : wo.map (fun q => q.1) = ((dmW cs ad S F ++ macW cs (ad 1) TS TF) ++ (dmW cs bd V G ++ macW cs (bd 1) TV TG)).map (fun q => q.1) := by
  obtain ⟨a1, a2, a3, a4, rfl⟩ := h
  exact z_la (z_la (z_la (z_lc _) (z_lm _ _ _ _ _ _)) (z_lm _ _ _ _ _ _)) (z_la (z_la (z_lc _) (z_lm _ _ _ _ _ _)) (z_lm _ _ _ _ _ _))
theorem hsR_u {HS : Nat → Int32} {p n : Nat} (h : hsR HS p n) (hn : 1 ≤ n) : hsR (upd (upd HS 0 (nI (hPv p))) 1 (nI (n - 1))) (hPv p) (n - 1) := by
  obtain ⟨h1, h2, h3, h4⟩ := h
  refine ⟨by rw [upd_o _ _ (by omega), upd_s], ?_, by rw [upd_s], by omega⟩
  rw [hPv_e h2]; omega
theorem z_l1 (a : Nat) (e1 e2 : va_E) : ([(a, e1)] : va_W).map (fun q => q.1) = ([(a, e2)] : va_W).map (fun q => q.1) := rfl
theorem soP_len {cs : zCs} {ad : Nat → Nat → Nat} {ha : Nat} {S : Nat → Int32} {F : Nat → Nat → Int32} {wo : va_W} (h : soP cs ad ha S F wo) (HA : Nat → Int32) : wo.map (fun q => q.1) = ((dmW cs ad S F ++ [(ha, .inl (cs.1, 16, .inl HA))] : va_W)).map (fun q => q.1) := by
  obtain ⟨a1, rfl, -⟩ := h
  exact z_la (z_la (z_lc _) (z_lm _ _ _ _ _ _)) (z_l1 _ _ _)
theorem so_m {S S' HA : Nat → Int32} (hh : ∀ k, 9 ≤ k → k < 16 → HA k ≤ S k) (hm : mo S S') : ∀ k, 9 ≤ k → k < 16 → HA k ≤ S' k := fun k a b => p_le.mpr (Int.le_trans (p_le.mp (hh k a b)) (hm k a b))
theorem zq_l1 {A : Nat → Prop} {D : va_G} {cl : List vw_C} {H : Heap} {wDo wDp wH wKo wKp wR wTo wTp wk0o wk0p wk1o wk1p wk2o wk2p wk3o wk3p : va_W} (hP : va_P D cl ((wDo ++ wKo ++ wk0o ++ wk1o ++ wk2o ++ wk3o) ++ (wDp ++ wKp ++ wk0p ++ wk1p ++ wk2p ++ wk3p) ++ wTo ++ wTp ++ wH ++ wR) H) (hD : va_D A ((wDo ++ wKo ++ wk0o ++ wk1o ++ wk2o ++ wk3o) ++ (wDp ++ wKp ++ wk0p ++ wk1p ++ wk2p ++ wk3p) ++ wTo ++ wTp ++ wH ++ wR)) : va_P D cl (wDo ++ (wKo ++ wk0o ++ wk1o ++ wk2o ++ wk3o ++ wDp ++ wKp ++ wk0p ++ wk1p ++ wk2p ++ wk3p ++ wTo ++ wTp ++ wH ++ wR)) H ∧ va_D A (wDo ++ (wKo ++ wk0o ++ wk1o ++ wk2o ++ wk3o ++ wDp ++ wKp ++ wk0p ++ wk1p ++ wk2p ++ wk3p ++ wTo ++ wTp ++ wH ++ wR)) := by
  refine z_perm (fun q h => ?_) (fun x => ?_) hP hD
  · simp only [List.mem_append] at h ⊢; simp only [or_assoc] at h ⊢; rcases h with h | h | h | h | h | h | h | h | h | h | h | h | h | h | h | h <;> simp only [h, true_or, or_true]
  · simp only [List.map_append, List.count_append]; omega

theorem zq_l2 {A : Nat → Prop} {D : va_G} {cl : List vw_C} {H : Heap} {wDo wDp wH wKo wKp wR wTo wTp wk0o wk0p wk1o wk1p wk2o wk2p wk3o wk3p : va_W} (hP : va_P D cl (wDo ++ (wKo ++ wk0o ++ wk1o ++ wk2o ++ wk3o ++ wDp ++ wKp ++ wk0p ++ wk1p ++ wk2p ++ wk3p ++ wTo ++ wTp ++ wH ++ wR)) H) (hD : va_D A (wDo ++ (wKo ++ wk0o ++ wk1o ++ wk2o ++ wk3o ++ wDp ++ wKp ++ wk0p ++ wk1p ++ wk2p ++ wk3p ++ wTo ++ wTp ++ wH ++ wR))) : va_P D cl ((wDo ++ wTo) ++ (wKo ++ wk0o ++ wk1o ++ wk2o ++ wk3o ++ wDp ++ wKp ++ wk0p ++ wk1p ++ wk2p ++ wk3p ++ wTp ++ wH ++ wR)) H ∧ va_D A ((wDo ++ wTo) ++ (wKo ++ wk0o ++ wk1o ++ wk2o ++ wk3o ++ wDp ++ wKp ++ wk0p ++ wk1p ++ wk2p ++ wk3p ++ wTp ++ wH ++ wR)) := by
  refine z_perm (fun q h => ?_) (fun x => ?_) hP hD
  · simp only [List.mem_append] at h ⊢; simp only [or_assoc] at h ⊢; rcases h with h | h | h | h | h | h | h | h | h | h | h | h | h | h | h | h <;> simp only [h, true_or, or_true]
  · simp only [List.map_append, List.count_append]; omega

theorem zq_l3 {A : Nat → Prop} {D : va_G} {cl : List vw_C} {H : Heap} {wDo wDp wH wKo wKp wR wTo wTp wk0o wk0p wk1o wk1p wk2o wk2p wk3o wk3p : va_W} (hP : va_P D cl ((wDo ++ wTo) ++ (wKo ++ wk0o ++ wk1o ++ wk2o ++ wk3o ++ wDp ++ wKp ++ wk0p ++ wk1p ++ wk2p ++ wk3p ++ wTp ++ wH ++ wR)) H) (hD : va_D A ((wDo ++ wTo) ++ (wKo ++ wk0o ++ wk1o ++ wk2o ++ wk3o ++ wDp ++ wKp ++ wk0p ++ wk1p ++ wk2p ++ wk3p ++ wTp ++ wH ++ wR))) : va_P D cl ((wDo ++ wKo ++ wk0o ++ wk1o ++ wk2o ++ wk3o) ++ (wDp ++ wKp ++ wk0p ++ wk1p ++ wk2p ++ wk3p ++ wTo ++ wTp ++ wH ++ wR)) H ∧ va_D A ((wDo ++ wKo ++ wk0o ++ wk1o ++ wk2o ++ wk3o) ++ (wDp ++ wKp ++ wk0p ++ wk1p ++ wk2p ++ wk3p ++ wTo ++ wTp ++ wH ++ wR)) := by
  refine z_perm (fun q h => ?_) (fun x => ?_) hP hD
  · simp only [List.mem_append] at h ⊢; simp only [or_assoc] at h ⊢; rcases h with h | h | h | h | h | h | h | h | h | h | h | h | h | h | h | h <;> simp only [h, true_or, or_true]
  · simp only [List.map_append, List.count_append]; omega

theorem zq_l4 {A : Nat → Prop} {D : va_G} {cl : List vw_C} {H : Heap} {wDo wDp wH wKo wKp wR wTo wTp wk0o wk0p wk1o wk1p wk2o wk2p wk3o wk3p : va_W} (hP : va_P D cl ((wDo ++ wKo ++ wk0o ++ wk1o ++ wk2o ++ wk3o) ++ (wDp ++ wKp ++ wk0p ++ wk1p ++ wk2p ++ wk3p ++ wTo ++ wTp ++ wH ++ wR)) H) (hD : va_D A ((wDo ++ wKo ++ wk0o ++ wk1o ++ wk2o ++ wk3o) ++ (wDp ++ wKp ++ wk0p ++ wk1p ++ wk2p ++ wk3p ++ wTo ++ wTp ++ wH ++ wR))) : va_P D cl (wDo ++ (wKo ++ wk0o ++ wk1o ++ wk2o ++ wk3o ++ wDp ++ wKp ++ wk0p ++ wk1p ++ wk2p ++ wk3p ++ wTo ++ wTp ++ wH ++ wR)) H ∧ va_D A (wDo ++ (wKo ++ wk0o ++ wk1o ++ wk2o ++ wk3o ++ wDp ++ wKp ++ wk0p ++ wk1p ++ wk2p ++ wk3p ++ wTo ++ wTp ++ wH ++ wR)) := by
  refine z_perm (fun q h => ?_) (fun x => ?_) hP hD
  · simp only [List.mem_append] at h ⊢; simp only [or_assoc] at h ⊢; rcases h with h | h | h | h | h | h | h | h | h | h | h | h | h | h | h | h <;> simp only [h, true_or, or_true]
  · simp only [List.map_append, List.count_append]; omega

theorem zq_l5 {A : Nat → Prop} {D : va_G} {cl : List vw_C} {H : Heap} {wDo wDp wH wKo wKp wR wTo wTp wk0o wk0p wk1o wk1p wk2o wk2p wk3o wk3p : va_W} (hP : va_P D cl (wDo ++ (wKo ++ wk0o ++ wk1o ++ wk2o ++ wk3o ++ wDp ++ wKp ++ wk0p ++ wk1p ++ wk2p ++ wk3p ++ wTo ++ wTp ++ wH ++ wR)) H) (hD : va_D A (wDo ++ (wKo ++ wk0o ++ wk1o ++ wk2o ++ wk3o ++ wDp ++ wKp ++ wk0p ++ wk1p ++ wk2p ++ wk3p ++ wTo ++ wTp ++ wH ++ wR))) : va_P D cl ((wDo ++ wKo ++ wk0o ++ wk1o ++ wk2o ++ wk3o) ++ (wDp ++ wKp ++ wk0p ++ wk1p ++ wk2p ++ wk3p ++ wTo ++ wTp ++ wH ++ wR)) H ∧ va_D A ((wDo ++ wKo ++ wk0o ++ wk1o ++ wk2o ++ wk3o) ++ (wDp ++ wKp ++ wk0p ++ wk1p ++ wk2p ++ wk3p ++ wTo ++ wTp ++ wH ++ wR)) := by
  refine z_perm (fun q h => ?_) (fun x => ?_) hP hD
  · simp only [List.mem_append] at h ⊢; simp only [or_assoc] at h ⊢; rcases h with h | h | h | h | h | h | h | h | h | h | h | h | h | h | h | h <;> simp only [h, true_or, or_true]
  · simp only [List.map_append, List.count_append]; omega

theorem zq_l6 {A : Nat → Prop} {D : va_G} {cl : List vw_C} {H : Heap} {wDo wDp wH wKo wKp wR wTo wTp wk0o wk0p wk1o wk1p wk2o wk2p wk3o wk3p : va_W} (hP : va_P D cl ((wDo ++ wTo) ++ (wKo ++ wk0o ++ wk1o ++ wk2o ++ wk3o ++ wDp ++ wKp ++ wk0p ++ wk1p ++ wk2p ++ wk3p ++ wTp ++ wH ++ wR)) H) (hD : va_D A ((wDo ++ wTo) ++ (wKo ++ wk0o ++ wk1o ++ wk2o ++ wk3o ++ wDp ++ wKp ++ wk0p ++ wk1p ++ wk2p ++ wk3p ++ wTp ++ wH ++ wR))) : va_P D cl (wDo ++ (wKo ++ wk0o ++ wk1o ++ wk2o ++ wk3o ++ wDp ++ wKp ++ wk0p ++ wk1p ++ wk2p ++ wk3p ++ wTo ++ wTp ++ wH ++ wR)) H ∧ va_D A (wDo ++ (wKo ++ wk0o ++ wk1o ++ wk2o ++ wk3o ++ wDp ++ wKp ++ wk0p ++ wk1p ++ wk2p ++ wk3p ++ wTo ++ wTp ++ wH ++ wR)) := by
  refine z_perm (fun q h => ?_) (fun x => ?_) hP hD
  · simp only [List.mem_append] at h ⊢; simp only [or_assoc] at h ⊢; rcases h with h | h | h | h | h | h | h | h | h | h | h | h | h | h | h | h <;> simp only [h, true_or, or_true]
  · simp only [List.map_append, List.count_append]; omega

theorem zq_l7 {A : Nat → Prop} {D : va_G} {cl : List vw_C} {H : Heap} {wDo wDp wH wKo wKp wR wTo wTp wk0o wk0p wk1o wk1p wk2o wk2p wk3o wk3p : va_W} (hP : va_P D cl ((wDo ++ wKo ++ wk0o ++ wk1o ++ wk2o ++ wk3o) ++ (wDp ++ wKp ++ wk0p ++ wk1p ++ wk2p ++ wk3p) ++ wTo ++ wTp ++ wH ++ wR) H) (hD : va_D A ((wDo ++ wKo ++ wk0o ++ wk1o ++ wk2o ++ wk3o) ++ (wDp ++ wKp ++ wk0p ++ wk1p ++ wk2p ++ wk3p) ++ wTo ++ wTp ++ wH ++ wR)) : va_P D cl (((wDo ++ wKo ++ wk0o ++ wk1o ++ wk2o ++ wk3o) ++ (wDp ++ wKp ++ wk0p ++ wk1p ++ wk2p ++ wk3p)) ++ (wTo ++ wTp ++ wH ++ wR)) H ∧ va_D A (((wDo ++ wKo ++ wk0o ++ wk1o ++ wk2o ++ wk3o) ++ (wDp ++ wKp ++ wk0p ++ wk1p ++ wk2p ++ wk3p)) ++ (wTo ++ wTp ++ wH ++ wR)) := by
  refine z_perm (fun q h => ?_) (fun x => ?_) hP hD
  · simp only [List.mem_append] at h ⊢; simp only [or_assoc] at h ⊢; rcases h with h | h | h | h | h | h | h | h | h | h | h | h | h | h | h | h <;> simp only [h, true_or, or_true]
  · simp only [List.map_append, List.count_append]; omega

theorem zq_l8 {A : Nat → Prop} {D : va_G} {cl : List vw_C} {H : Heap} {wDo wDp wH wKo wKp wR wTo wTp wk0o wk0p wk1o wk1p wk2o wk2p wk3o wk3p : va_W} (hP : va_P D cl (((wDo ++ wKo ++ wk0o ++ wk1o ++ wk2o ++ wk3o) ++ (wDp ++ wKp ++ wk0p ++ wk1p ++ wk2p ++ wk3p)) ++ (wTo ++ wTp ++ wH ++ wR)) H) (hD : va_D A (((wDo ++ wKo ++ wk0o ++ wk1o ++ wk2o ++ wk3o) ++ (wDp ++ wKp ++ wk0p ++ wk1p ++ wk2p ++ wk3p)) ++ (wTo ++ wTp ++ wH ++ wR))) : va_P D cl (((wDo ++ wTo) ++ (wDp ++ wTp)) ++ (wKo ++ wk0o ++ wk1o ++ wk2o ++ wk3o ++ wKp ++ wk0p ++ wk1p ++ wk2p ++ wk3p ++ wH ++ wR)) H ∧ va_D A (((wDo ++ wTo) ++ (wDp ++ wTp)) ++ (wKo ++ wk0o ++ wk1o ++ wk2o ++ wk3o ++ wKp ++ wk0p ++ wk1p ++ wk2p ++ wk3p ++ wH ++ wR)) := by
  refine z_perm (fun q h => ?_) (fun x => ?_) hP hD
  · simp only [List.mem_append] at h ⊢; simp only [or_assoc] at h ⊢; rcases h with h | h | h | h | h | h | h | h | h | h | h | h | h | h | h | h <;> simp only [h, true_or, or_true]
  · simp only [List.map_append, List.count_append]; omega

theorem zq_l9 {A : Nat → Prop} {D : va_G} {cl : List vw_C} {H : Heap} {wDo wDp wH wKo wKp wR wTo wTp wk0o wk0p wk1o wk1p wk2o wk2p wk3o wk3p : va_W} (hP : va_P D cl (((wDo ++ wTo) ++ (wDp ++ wTp)) ++ (wKo ++ wk0o ++ wk1o ++ wk2o ++ wk3o ++ wKp ++ wk0p ++ wk1p ++ wk2p ++ wk3p ++ wH ++ wR)) H) (hD : va_D A (((wDo ++ wTo) ++ (wDp ++ wTp)) ++ (wKo ++ wk0o ++ wk1o ++ wk2o ++ wk3o ++ wKp ++ wk0p ++ wk1p ++ wk2p ++ wk3p ++ wH ++ wR))) : va_P D cl (wDo ++ (wKo ++ wk0o ++ wk1o ++ wk2o ++ wk3o ++ wDp ++ wKp ++ wk0p ++ wk1p ++ wk2p ++ wk3p ++ wTo ++ wTp ++ wH ++ wR)) H ∧ va_D A (wDo ++ (wKo ++ wk0o ++ wk1o ++ wk2o ++ wk3o ++ wDp ++ wKp ++ wk0p ++ wk1p ++ wk2p ++ wk3p ++ wTo ++ wTp ++ wH ++ wR)) := by
  refine z_perm (fun q h => ?_) (fun x => ?_) hP hD
  · simp only [List.mem_append] at h ⊢; simp only [or_assoc] at h ⊢; rcases h with h | h | h | h | h | h | h | h | h | h | h | h | h | h | h | h <;> simp only [h, true_or, or_true]
  · simp only [List.map_append, List.count_append]; omega

theorem zq_l10 {A : Nat → Prop} {D : va_G} {cl : List vw_C} {H : Heap} {wDo wDp wH wKo wKp wR wTo wTp wk0o wk0p wk1o wk1p wk2o wk2p wk3o wk3p : va_W} (hP : va_P D cl (wDo ++ (wKo ++ wk0o ++ wk1o ++ wk2o ++ wk3o ++ wDp ++ wKp ++ wk0p ++ wk1p ++ wk2p ++ wk3p ++ wTo ++ wTp ++ wH ++ wR)) H) (hD : va_D A (wDo ++ (wKo ++ wk0o ++ wk1o ++ wk2o ++ wk3o ++ wDp ++ wKp ++ wk0p ++ wk1p ++ wk2p ++ wk3p ++ wTo ++ wTp ++ wH ++ wR))) : va_P D cl ((wDo ++ wKo ++ wk0o ++ wk1o ++ wk2o ++ wk3o) ++ (wDp ++ wKp ++ wk0p ++ wk1p ++ wk2p ++ wk3p) ++ wTo ++ wTp ++ wH ++ wR) H ∧ va_D A ((wDo ++ wKo ++ wk0o ++ wk1o ++ wk2o ++ wk3o) ++ (wDp ++ wKp ++ wk0p ++ wk1p ++ wk2p ++ wk3p) ++ wTo ++ wTp ++ wH ++ wR) := by
  refine z_perm (fun q h => ?_) (fun x => ?_) hP hD
  · simp only [List.mem_append] at h ⊢; simp only [or_assoc] at h ⊢; rcases h with h | h | h | h | h | h | h | h | h | h | h | h | h | h | h | h <;> simp only [h, true_or, or_true]
  · simp only [List.map_append, List.count_append]; omega

theorem zq_l11 {A : Nat → Prop} {D : va_G} {cl : List vw_C} {H : Heap} {wDo wDp wH wKo wKp wR wTo wTp wk0o wk0p wk1o wk1p wk2o wk2p wk3o wk3p : va_W} (hP : va_P D cl (wDo ++ (wKo ++ wk0o ++ wk1o ++ wk2o ++ wk3o ++ wDp ++ wKp ++ wk0p ++ wk1p ++ wk2p ++ wk3p ++ wTo ++ wTp ++ wH ++ wR)) H) (hD : va_D A (wDo ++ (wKo ++ wk0o ++ wk1o ++ wk2o ++ wk3o ++ wDp ++ wKp ++ wk0p ++ wk1p ++ wk2p ++ wk3p ++ wTo ++ wTp ++ wH ++ wR))) : va_P D cl ((wDo ++ wH) ++ (wKo ++ wk0o ++ wk1o ++ wk2o ++ wk3o ++ wDp ++ wKp ++ wk0p ++ wk1p ++ wk2p ++ wk3p ++ wTo ++ wTp ++ wR)) H ∧ va_D A ((wDo ++ wH) ++ (wKo ++ wk0o ++ wk1o ++ wk2o ++ wk3o ++ wDp ++ wKp ++ wk0p ++ wk1p ++ wk2p ++ wk3p ++ wTo ++ wTp ++ wR)) := by
  refine z_perm (fun q h => ?_) (fun x => ?_) hP hD
  · simp only [List.mem_append] at h ⊢; simp only [or_assoc] at h ⊢; rcases h with h | h | h | h | h | h | h | h | h | h | h | h | h | h | h | h <;> simp only [h, true_or, or_true]
  · simp only [List.map_append, List.count_append]; omega

theorem zq_l12 {A : Nat → Prop} {D : va_G} {cl : List vw_C} {H : Heap} {wDo wDp wH wKo wKp wR wTo wTp wk0o wk0p wk1o wk1p wk2o wk2p wk3o wk3p : va_W} (hP : va_P D cl ((wDo ++ wH) ++ (wKo ++ wk0o ++ wk1o ++ wk2o ++ wk3o ++ wDp ++ wKp ++ wk0p ++ wk1p ++ wk2p ++ wk3p ++ wTo ++ wTp ++ wR)) H) (hD : va_D A ((wDo ++ wH) ++ (wKo ++ wk0o ++ wk1o ++ wk2o ++ wk3o ++ wDp ++ wKp ++ wk0p ++ wk1p ++ wk2p ++ wk3p ++ wTo ++ wTp ++ wR))) : va_P D cl ((wDo ++ wKo ++ wk0o ++ wk1o ++ wk2o ++ wk3o) ++ (wDp ++ wKp ++ wk0p ++ wk1p ++ wk2p ++ wk3p) ++ wTo ++ wTp ++ wH ++ wR) H ∧ va_D A ((wDo ++ wKo ++ wk0o ++ wk1o ++ wk2o ++ wk3o) ++ (wDp ++ wKp ++ wk0p ++ wk1p ++ wk2p ++ wk3p) ++ wTo ++ wTp ++ wH ++ wR) := by
  refine z_perm (fun q h => ?_) (fun x => ?_) hP hD
  · simp only [List.mem_append] at h ⊢; simp only [or_assoc] at h ⊢; rcases h with h | h | h | h | h | h | h | h | h | h | h | h | h | h | h | h <;> simp only [h, true_or, or_true]
  · simp only [List.map_append, List.count_append]; omega

set_option maxHeartbeats 4000000 in
set_option maxRecDepth 100000 in
theorem law_end {pq : Program} (l : Launch) {eq : Env} {s : State} {mq : MethodId} {below : List Frame} {meth : Method} {cq : Code} {A : Nat → Prop} {D : va_G} {cs : zCs} {sb Ls : Nat} {xs : Nat → Int32} {Q : State → Prop} {ad kd bd ld : Nat → Nat → Nat} {ha : Nat} {wr : va_W} {cells slots rb : Nat} (hx : pq.tables.exec = Jvm.exec) (hb : cq.code = cL_law) (hml : cq.maxLocals = 10) (hown : s.vm.findClass RL = some mq.cls) (hts : ∀ w ∈ wsG, w.before #[Value.ref sb] s = true) (hXs : va_X sb Ls xs s s.heap) (hbl : sb < s.heap.size) (hbA : ¬ A sb) (hE : zE A s) (hK : va_K D vwCl (zT cs) s) (hA : ∀ q : Nat, s.heap.size ≤ q → A q) (hAs : ∀ q : Nat, A q → s.heap.size ≤ q) (hLs : Ls ≤ 260) (hce : cells ≤ 600104) (hsl : slots ≤ 7301314) (hb8 : 1 ≤ rb ∧ rb < 8) (hret : ∀ (H : Heap) (ls : Array Slot), W pq l eq room_1 s mq #[Value.ref sb] below meth cq H [] 600104 7301314 Q (F0 mq 287 ls [.int 1])) (S : Nat → Int32) (F : Nat → Nat → Int32) (HS : Nat → Int32) (KS : Nat → Nat → Int32) (KF : Nat → Nat → Nat → Int32) (TS : Nat → Int32) (TF : Nat → Nat → Int32) (V : Nat → Int32) (G : Nat → Nat → Int32) (HV : Nat → Int32) (KV : Nat → Nat → Int32) (KG : Nat → Nat → Nat → Int32) (TV : Nat → Int32) (TG : Nat → Nat → Int32) (HA : Nat → Int32) (p n q r : Nat) (N : Int) (hN : 0 ≤ N ∧ N ≤ 50000) (hi : inv N (S, F)) (h1 : hsR HS p n) {H : Heap} {locs : List Loc} {ls : Array Slot} (hP : va_P D vwCl ((((camW ad) ++ (macW cs (ad 0) S F)) ++ (hisW cs (ad 4) kd HS) ++ (macW cs (kd 0) (KS 0) (KF 0)) ++ (macW cs (kd 1) (KS 1) (KF 1)) ++ (macW cs (kd 2) (KS 2) (KF 2)) ++ (macW cs (kd 3) (KS 3) (KF 3))) ++ (((camW bd) ++ (macW cs (bd 0) V G)) ++ (hisW cs (bd 4) ld HV) ++ (macW cs (ld 0) (KV 0) (KG 0)) ++ (macW cs (ld 1) (KV 1) (KG 1)) ++ (macW cs (ld 2) (KV 2) (KG 2)) ++ (macW cs (ld 3) (KV 3) (KG 3))) ++ (macW cs (ad 1) TS TF) ++ (macW cs (bd 1) TV TG) ++ [(ha, .inl (cs.1, 16, .inl HA))] ++ wr) H) (hD : va_D A ((((camW ad) ++ (macW cs (ad 0) S F)) ++ (hisW cs (ad 4) kd HS) ++ (macW cs (kd 0) (KS 0) (KF 0)) ++ (macW cs (kd 1) (KS 1) (KF 1)) ++ (macW cs (kd 2) (KS 2) (KF 2)) ++ (macW cs (kd 3) (KS 3) (KF 3))) ++ (((camW bd) ++ (macW cs (bd 0) V G)) ++ (hisW cs (bd 4) ld HV) ++ (macW cs (ld 0) (KV 0) (KG 0)) ++ (macW cs (ld 1) (KV 1) (KG 1)) ++ (macW cs (ld 2) (KV 2) (KG 2)) ++ (macW cs (ld 3) (KV 3) (KG 3))) ++ (macW cs (ad 1) TS TF) ++ (macW cs (bd 1) TV TG) ++ [(ha, .inl (cs.1, 16, .inl HA))] ++ wr)) (hS : va_S A s.heap H locs) (hl : lv_has ls 10 [(0, .ref sb), (1, .ref (ad 3 0)), (2, .ref (bd 3 0)), (3, .int (nI rb)), (4, .ref ha), (5, .int 1)]) : W pq l eq room_1 s mq #[Value.ref sb] below meth cq H locs cells slots Q (F0 mq 124 ls []) := by
  have hn7 : nN (7 : Int32) = 7 := nN_nI (k := 7) (by omega)
  have e79 : (tkN (S, F) (nN 7)).1 9 = S 9 + 7 := by rw [hn7, tkN_9]; rfl
  refine lv_aload_n hx hb dL_law_124 rfl (lv_at hl 1 rfl) ?_
  refine lv_iconst (v := 5) hx hb dL_law_125 (by decide) ?_
  obtain ⟨hP, hD⟩ := zq_l1 hP hD
  refine z_lawV ⟨hx, hb, hml, hown, hts⟩ zY_X7_value w_im_yX7_value w_se_yX7_value w_ml_L_31 [.int 5] [] (c_X7_value_ok l D cs ad S F 5 (by decide)) hE hK hA hP hD hS (z_la (z_lc _) (z_lm _ _ _ _ _ _)) 7 rfl rfl rfl rfl hl.1 (Nat.le_of_ble_eq_true rfl) ⟨Nat.le_of_ble_eq_true rfl, Nat.le_of_ble_eq_true rfl⟩ ⟨by show _ ≤ 600104; omega, by show _ ≤ 7301314; omega⟩ dL_law_126 (fun H locs hP hD hS => ?_)
  refine z_top (y := S 5) (zv_l S 5 (by omega)) ?_
  refine lv_istore (lv' := [(6, .int (S 5)), (0, .ref sb), (1, .ref (ad 3 0)), (2, .ref (bd 3 0)), (3, .int (nI rb)), (4, .ref ha), (5, .int 1)]) hx hb dL_law_129 hl (by decide) rfl (fun ls hl => ?_)
  refine lv_aload_n hx hb dL_law_131 rfl (lv_at hl 2 rfl) ?_
  refine lv_bipush (v := 9) hx hb dL_law_132 (by decide) ?_
  refine z_lawV ⟨hx, hb, hml, hown, hts⟩ zY_X7_value w_im_yX7_value w_se_yX7_value w_ml_L_31 [.int 9] [] (c_X7_value_ok l D cs ad S F 9 (by decide)) hE hK hA hP hD hS (z_la (z_lc _) (z_lm _ _ _ _ _ _)) 7 rfl rfl rfl rfl hl.1 (Nat.le_of_ble_eq_true rfl) ⟨Nat.le_of_ble_eq_true rfl, Nat.le_of_ble_eq_true rfl⟩ ⟨by show _ ≤ 600104; omega, by show _ ≤ 7301314; omega⟩ dL_law_134 (fun H locs hP hD hS => ?_)
  refine z_top (y := S 9) (zv_l S 9 (by omega)) ?_
  refine lv_istore (lv' := [(7, .int (S 9)), (6, .int (S 5)), (0, .ref sb), (1, .ref (ad 3 0)), (2, .ref (bd 3 0)), (3, .int (nI rb)), (4, .ref ha), (5, .int 1)]) hx hb dL_law_137 hl (by decide) rfl (fun ls hl => ?_)
  refine lv_aload_n hx hb dL_law_139 rfl (lv_at hl 3 rfl) ?_
  obtain ⟨hP, hD⟩ := zq_l2 hP hD
  refine z_lawV ⟨hx, hb, hml, hown, hts⟩ zY_X7_ticksToCycle w_im_yX7_ticksToCycle w_se_yX7_ticksToCycle w_ml_L_88 [] [] (c_X7_ticksToCycle l D cs ad S F TS TF ) hE hK hA hP hD hS (z_la (z_la (z_lc _) (z_lm _ _ _ _ _ _)) (z_lm _ _ _ _ _ _)) 7 rfl rfl rfl rfl hl.1 (Nat.le_of_ble_eq_true rfl) ⟨Nat.le_of_ble_eq_true rfl, Nat.le_of_ble_eq_true rfl⟩ ⟨by show _ ≤ 600104; omega, by show _ ≤ 7301314; omega⟩ dL_law_140 (fun H locs hP hD hS => ?_)
  refine lv_istore (lv' := [(8, .int (tuR 1000 1 (S, F))), (7, .int (S 9)), (6, .int (S 5)), (0, .ref sb), (1, .ref (ad 3 0)), (2, .ref (bd 3 0)), (3, .int (nI rb)), (4, .ref ha), (5, .int 1)]) hx hb dL_law_143 hl (by decide) rfl (fun ls hl => ?_)
  refine lv_iload hx hb dL_law_145 (lv_at hl 8 rfl) ?_
  refine lv_if_eq (tgt := 214) hx hb dL_law_147 (by decide) (fun c_1 => ?_) (fun c_1 => ?_)
  · skip
    exact absurd c_1 (by decide)
  · skip
    refine lv_aload_n hx hb dL_law_150 rfl (lv_at hl 4 rfl) ?_
    refine lv_bipush (v := 7) hx hb dL_law_151 (by decide) ?_
    obtain ⟨hP, hD⟩ := zq_l3 hP hD
    refine z_lawV ⟨hx, hb, hml, hown, hts⟩ zY_X7_run w_im_yX7_run w_se_yX7_run w_ml_L_45 [.int 7] [] (c_X7_run_ok l D cs ad S F kd HS KS KF p n 7 (h1.1) (h1.2.1) (h1.2.2.1) (h1.2.2.2) (by decide) (f_tk hi (k := 7) (by omega))) hE hK hA hP hD hS (z_la (z_la (z_la (z_la (z_la (z_la (z_lc _) (z_lm _ _ _ _ _ _)) (z_lh _ _ _ _ _)) (z_lm _ _ _ _ _ _)) (z_lm _ _ _ _ _ _)) (z_lm _ _ _ _ _ _)) (z_lm _ _ _ _ _ _)) 7 rfl rfl rfl rfl hl.1 (Nat.le_of_ble_eq_true rfl) ⟨Nat.le_of_ble_eq_true rfl, Nat.le_of_ble_eq_true rfl⟩ ⟨by show _ ≤ 600104; omega, by show _ ≤ 7301314; omega⟩ dL_law_153 (fun H locs hP hD hS => ?_)
    refine lv_if_lt (tgt := 214) hx hb dL_law_156 (by decide) (fun c_2 => ?_) (fun c_2 => ?_)
    · skip
      exact absurd c_2 (f_run hi (k := nN 7) (by omega))
    · skip
      refine lv_aload_n hx hb dL_law_159 rfl (lv_at hl 4 rfl) ?_
      refine lv_bipush (v := 9) hx hb dL_law_160 (by decide) ?_
      obtain ⟨hP, hD⟩ := zq_l4 hP hD
      refine z_lawV ⟨hx, hb, hml, hown, hts⟩ zY_X7_value w_im_yX7_value w_se_yX7_value w_ml_L_31 [.int 9] [] (c_X7_value_ok l D cs ad ((tkN (S, F) (nN 7)).1) ((tkN (S, F) (nN 7)).2) 9 (by decide)) hE hK hA hP hD hS (z_la (z_lc _) (z_lm _ _ _ _ _ _)) 7 rfl rfl rfl rfl hl.1 (Nat.le_of_ble_eq_true rfl) ⟨Nat.le_of_ble_eq_true rfl, Nat.le_of_ble_eq_true rfl⟩ ⟨by show _ ≤ 600104; omega, by show _ ≤ 7301314; omega⟩ dL_law_162 (fun H locs hP hD hS => ?_)
      refine z_top (y := S 9 + 7) ((zv_l (tkN (S, F) (nN 7)).1 9 (by omega)).trans e79) ?_
      refine lv_iload hx hb dL_law_165 (lv_at hl 1 rfl) ?_
      refine lv_bipush (v := 7) hx hb dL_law_167 (by decide) ?_
      refine lv_iadd hx hb dL_law_169 ?_
      refine lv_icmp_ne (tgt := 214) hx hb dL_law_170 (by decide) (fun c_3 => ?_) (fun c_3 => ?_)
      · skip
        exact absurd rfl c_3
      · skip
        refine lv_aload_n hx hb dL_law_173 rfl (lv_at hl 4 rfl) ?_
        obtain ⟨hP, hD⟩ := zq_l5 hP hD
        refine z_lawV ⟨hx, hb, hml, hown, hts⟩ zY_X7_undo w_im_yX7_undo w_se_yX7_undo w_ml_L_92 [] [] (c_X7_undo_ok l D cs ad ((tkN (S, F) (nN 7)).1) ((tkN (S, F) (nN 7)).2) kd (upd (upd HS 0 (nI (hNx p))) 1 (nI (min (n + 1) 4))) (kup KS (hNx p) S) (kup KF (hNx p) F) (hNx p) (min (n + 1) 4) ((hsR_s h1).1) ((hsR_s h1).2.1) ((hsR_s h1).2.2.1) ((hsR_s h1).2.2.2) (nI_ne (a := min (n + 1) 4) (b := 0) (by omega) (by omega) (by omega))) hE hK hA hP hD hS (z_la (z_la (z_la (z_la (z_la (z_la (z_lc _) (z_lm _ _ _ _ _ _)) (z_lh _ _ _ _ _)) (z_lm _ _ _ _ _ _)) (z_lm _ _ _ _ _ _)) (z_lm _ _ _ _ _ _)) (z_lm _ _ _ _ _ _)) 7 rfl rfl rfl rfl hl.1 (Nat.le_of_ble_eq_true rfl) ⟨Nat.le_of_ble_eq_true rfl, Nat.le_of_ble_eq_true rfl⟩ ⟨by show _ ≤ 600104; omega, by show _ ≤ 7301314; omega⟩ dL_law_174 (fun H locs hP hD hS => ?_)
        rw [kup_s KS (hNx p) S, kup_s KF (hNx p) F] at hP hD
        refine lv_if_lt (tgt := 214) hx hb dL_law_177 (by decide) (fun c_4 => ?_) (fun c_4 => ?_)
        · skip
          exact absurd c_4 (nI_pos (by omega))
        · skip
          refine lv_aload_n hx hb dL_law_180 rfl (lv_at hl 4 rfl) ?_
          refine lv_iconst (v := 5) hx hb dL_law_181 (by decide) ?_
          obtain ⟨hP, hD⟩ := zq_l4 hP hD
          refine z_lawV ⟨hx, hb, hml, hown, hts⟩ zY_X7_value w_im_yX7_value w_se_yX7_value w_ml_L_31 [.int 5] [] (c_X7_value_ok l D cs ad S F 5 (by decide)) hE hK hA hP hD hS (z_la (z_lc _) (z_lm _ _ _ _ _ _)) 7 rfl rfl rfl rfl hl.1 (Nat.le_of_ble_eq_true rfl) ⟨Nat.le_of_ble_eq_true rfl, Nat.le_of_ble_eq_true rfl⟩ ⟨by show _ ≤ 600104; omega, by show _ ≤ 7301314; omega⟩ dL_law_182 (fun H locs hP hD hS => ?_)
          refine z_top (y := S 5) (zv_l S 5 (by omega)) ?_
          refine lv_iload hx hb dL_law_185 (lv_at hl 2 rfl) ?_
          refine lv_icmp_ne (tgt := 214) hx hb dL_law_187 (by decide) (fun c_5 => ?_) (fun c_5 => ?_)
          · skip
            exact absurd rfl c_5
          · skip
            refine lv_aload_n hx hb dL_law_190 rfl (lv_at hl 4 rfl) ?_
            refine lv_bipush (v := 9) hx hb dL_law_191 (by decide) ?_
            refine z_lawV ⟨hx, hb, hml, hown, hts⟩ zY_X7_value w_im_yX7_value w_se_yX7_value w_ml_L_31 [.int 9] [] (c_X7_value_ok l D cs ad S F 9 (by decide)) hE hK hA hP hD hS (z_la (z_lc _) (z_lm _ _ _ _ _ _)) 7 rfl rfl rfl rfl hl.1 (Nat.le_of_ble_eq_true rfl) ⟨Nat.le_of_ble_eq_true rfl, Nat.le_of_ble_eq_true rfl⟩ ⟨by show _ ≤ 600104; omega, by show _ ≤ 7301314; omega⟩ dL_law_193 (fun H locs hP hD hS => ?_)
            refine z_top (y := S 9) (zv_l S 9 (by omega)) ?_
            refine lv_iload hx hb dL_law_196 (lv_at hl 1 rfl) ?_
            refine lv_icmp_ne (tgt := 214) hx hb dL_law_198 (by decide) (fun c_6 => ?_) (fun c_6 => ?_)
            · skip
              exact absurd rfl c_6
            · skip
              refine lv_aload_n hx hb dL_law_201 rfl (lv_at hl 4 rfl) ?_
              obtain ⟨hP, hD⟩ := zq_l2 hP hD
              refine z_lawV ⟨hx, hb, hml, hown, hts⟩ zY_X7_ticksToCycle w_im_yX7_ticksToCycle w_se_yX7_ticksToCycle w_ml_L_88 [] [] (c_X7_ticksToCycle l D cs ad S F ((tuP 1000 (S, F)).1) ((tuP 1000 (S, F)).2) ) hE hK hA hP hD hS (z_la (z_la (z_lc _) (z_lm _ _ _ _ _ _)) (z_lm _ _ _ _ _ _)) 7 rfl rfl rfl rfl hl.1 (Nat.le_of_ble_eq_true rfl) ⟨Nat.le_of_ble_eq_true rfl, Nat.le_of_ble_eq_true rfl⟩ ⟨by show _ ≤ 600104; omega, by show _ ≤ 7301314; omega⟩ dL_law_202 (fun H locs hP hD hS => ?_)
              refine lv_iload hx hb dL_law_205 (lv_at hl 0 rfl) ?_
              refine lv_icmp_ne (tgt := 214) hx hb dL_law_207 (by decide) (fun c_7 => ?_) (fun c_7 => ?_)
              · skip
                exact absurd rfl c_7
              · skip
                refine lv_iconst (v := 1) hx hb dL_law_210 (by decide) ?_
                refine lv_goto (tgt := 215) hx hb dL_law_211 (by decide) ?_
                refine lv_istore (lv' := [(5, .int 1), (8, .int (tuR 1000 1 (S, F))), (7, .int (S 9)), (6, .int (S 5)), (0, .ref sb), (1, .ref (ad 3 0)), (2, .ref (bd 3 0)), (3, .int (nI rb)), (4, .ref ha)]) hx hb dL_law_215 hl (by decide) rfl (fun ls hl => ?_)
                refine lv_aload_n hx hb dL_law_217 rfl (lv_at hl 5 rfl) ?_
                refine lv_bipush (v := 10) hx hb dL_law_218 (by decide) ?_
                obtain ⟨hP, hD⟩ := zq_l6 hP hD
                refine z_lawV ⟨hx, hb, hml, hown, hts⟩ zY_X7_value w_im_yX7_value w_se_yX7_value w_ml_L_31 [.int 10] [] (c_X7_value_ok l D cs ad S F 10 (by decide)) hE hK hA hP hD hS (z_la (z_lc _) (z_lm _ _ _ _ _ _)) 7 rfl rfl rfl rfl hl.1 (Nat.le_of_ble_eq_true rfl) ⟨Nat.le_of_ble_eq_true rfl, Nat.le_of_ble_eq_true rfl⟩ ⟨by show _ ≤ 600104; omega, by show _ ≤ 7301314; omega⟩ dL_law_220 (fun H locs hP hD hS => ?_)
                refine z_top (y := S 10) (zv_l S 10 (by omega)) ?_
                refine lv_istore (lv' := [(9, .int (S 10)), (5, .int 1), (8, .int (tuR 1000 1 (S, F))), (7, .int (S 9)), (6, .int (S 5)), (0, .ref sb), (1, .ref (ad 3 0)), (2, .ref (bd 3 0)), (3, .int (nI rb)), (4, .ref ha)]) hx hb dL_law_223 hl (by decide) rfl (fun ls hl => ?_)
                refine lv_iload hx hb dL_law_225 (lv_at hl 1 rfl) ?_
                refine lv_if_eq (tgt := 286) hx hb dL_law_227 (by decide) (fun c_8 => ?_) (fun c_8 => ?_)
                · skip
                  exact absurd c_8 (by decide)
                · skip
                  refine lv_iload hx hb dL_law_230 (lv_at hl 2 rfl) ?_
                  refine lv_if_lt (tgt := 282) hx hb dL_law_232 (by decide) (fun c_9 => ?_) (fun c_9 => ?_)
                  · skip
                    refine lv_iconst (v := 1) hx hb dL_law_282 (by decide) ?_
                    refine lv_goto (tgt := 287) hx hb dL_law_283 (by decide) ?_
                    refine va_forget (fun q hq => hAs _ (hS.2.2 q hq)) ?_
                    refine W.widen (k := 600104) (n := 7301314) (by omega) (by omega) ?_
                    exact hret _ _
                  · skip
                    refine lv_iload hx hb dL_law_235 (lv_at hl 2 rfl) ?_
                    refine lv_sipush (v := 500) hx hb dL_law_237 (by decide) ?_
                    refine lv_icmp_gt (tgt := 282) hx hb dL_law_240 (by decide) (fun c_10 => ?_) (fun c_10 => ?_)
                    · skip
                      refine lv_iconst (v := 1) hx hb dL_law_282 (by decide) ?_
                      refine lv_goto (tgt := 287) hx hb dL_law_283 (by decide) ?_
                      refine va_forget (fun q hq => hAs _ (hS.2.2 q hq)) ?_
                      refine W.widen (k := 600104) (n := 7301314) (by omega) (by omega) ?_
                      exact hret _ _
                    · skip
                      obtain ⟨j, hj, ej, e10, e1, e2⟩ := cy_n 1000 1 (S, F) N hi (by omega) (fun h => c_9 (by rw [h]; decide))
                      rw [ej] at hl
                      have hj5 : 1 + j ≤ 500 := Nat.le_of_not_lt (fun h => c_10 (by rw [ej]; exact (nI_ltI (a := 500) (by omega) (by omega)).mpr h))
                      have hnj : nN (nI (1 + j)) = j + 1 := by rw [nN_nI (by omega)]; omega
                      rw [← hnj] at e10 e1 e2
                      refine lv_aload_n hx hb dL_law_243 rfl (lv_at hl 6 rfl) ?_
                      refine lv_iload hx hb dL_law_244 (lv_at hl 2 rfl) ?_
                      obtain ⟨hP, hD⟩ := zq_l5 hP hD
                      refine z_lawV ⟨hx, hb, hml, hown, hts⟩ zY_X7_run w_im_yX7_run w_se_yX7_run w_ml_L_45 [.int (nI (1 + j))] [] (c_X7_run_ok l D cs ad S F kd (upd (upd (upd (upd HS 0 (nI (hNx p))) 1 (nI (min (n + 1) 4))) 0 (nI (hPv (hNx p)))) 1 (nI ((min (n + 1) 4) - 1))) (kup KS (hNx p) S) (kup KF (hNx p) F) (hPv (hNx p)) ((min (n + 1) 4) - 1) (nI (1 + j)) ((hsR_u (hsR_s h1) (by omega)).1) ((hsR_u (hsR_s h1) (by omega)).2.1) ((hsR_u (hsR_s h1) (by omega)).2.2.1) ((hsR_u (hsR_s h1) (by omega)).2.2.2) (g_r (a := 1) (M := 500) rfl rfl (by omega) (by omega) (by omega)) (f_tk hi (k := 1 + j) (by omega))) hE hK hA hP hD hS (z_la (z_la (z_la (z_la (z_la (z_la (z_lc _) (z_lm _ _ _ _ _ _)) (z_lh _ _ _ _ _)) (z_lm _ _ _ _ _ _)) (z_lm _ _ _ _ _ _)) (z_lm _ _ _ _ _ _)) (z_lm _ _ _ _ _ _)) 7 rfl rfl rfl rfl hl.1 (Nat.le_of_ble_eq_true rfl) ⟨Nat.le_of_ble_eq_true rfl, Nat.le_of_ble_eq_true rfl⟩ ⟨by show _ ≤ 600104; omega, by show _ ≤ 7301314; omega⟩ dL_law_246 (fun H locs hP hD hS => ?_)
                      refine lv_iconst (v := 1) hx hb dL_law_249 (by decide) ?_
                      refine lv_icmp_ne (tgt := 286) hx hb dL_law_250 (by decide) (fun c_11 => ?_) (fun c_11 => ?_)
                      · skip
                        exact absurd (by rw [e10]; show S 10 + 1 - S 10 = 1; rw [Int32.add_comm (S 10) 1, Int32.add_sub_cancel]) c_11
                      · skip
                        refine lv_aload_n hx hb dL_law_253 rfl (lv_at hl 6 rfl) ?_
                        refine lv_bipush (v := 10) hx hb dL_law_254 (by decide) ?_
                        obtain ⟨hP, hD⟩ := zq_l4 hP hD
                        refine z_lawV ⟨hx, hb, hml, hown, hts⟩ zY_X7_value w_im_yX7_value w_se_yX7_value w_ml_L_31 [.int 10] [] (c_X7_value_ok l D cs ad ((tkN (S, F) (nN (nI (1 + j)))).1) ((tkN (S, F) (nN (nI (1 + j)))).2) 10 (by decide)) hE hK hA hP hD hS (z_la (z_lc _) (z_lm _ _ _ _ _ _)) 7 rfl rfl rfl rfl hl.1 (Nat.le_of_ble_eq_true rfl) ⟨Nat.le_of_ble_eq_true rfl, Nat.le_of_ble_eq_true rfl⟩ ⟨by show _ ≤ 600104; omega, by show _ ≤ 7301314; omega⟩ dL_law_256 (fun H locs hP hD hS => ?_)
                        refine z_top (y := S 10 + 1) ((zv_l (tkN (S, F) (nN (nI (1 + j)))).1 10 (by omega)).trans e10) ?_
                        refine lv_iload hx hb dL_law_259 (lv_at hl 0 rfl) ?_
                        refine lv_iconst (v := 1) hx hb dL_law_261 (by decide) ?_
                        refine lv_iadd hx hb dL_law_262 ?_
                        refine lv_icmp_ne (tgt := 286) hx hb dL_law_263 (by decide) (fun c_12 => ?_) (fun c_12 => ?_)
                        · skip
                          exact absurd rfl c_12
                        · skip
                          refine lv_aload_n hx hb dL_law_266 rfl (lv_at hl 6 rfl) ?_
                          refine lv_iconst (v := 1) hx hb dL_law_267 (by decide) ?_
                          refine z_lawV ⟨hx, hb, hml, hown, hts⟩ zY_X7_value w_im_yX7_value w_se_yX7_value w_ml_L_31 [.int 1] [] (c_X7_value_ok l D cs ad ((tkN (S, F) (nN (nI (1 + j)))).1) ((tkN (S, F) (nN (nI (1 + j)))).2) 1 (by decide)) hE hK hA hP hD hS (z_la (z_lc _) (z_lm _ _ _ _ _ _)) 7 rfl rfl rfl rfl hl.1 (Nat.le_of_ble_eq_true rfl) ⟨Nat.le_of_ble_eq_true rfl, Nat.le_of_ble_eq_true rfl⟩ ⟨by show _ ≤ 600104; omega, by show _ ≤ 7301314; omega⟩ dL_law_268 (fun H locs hP hD hS => ?_)
                          refine z_top (y := 0) ((zv_l (tkN (S, F) (nN (nI (1 + j)))).1 1 (by omega)).trans e1) ?_
                          refine lv_if_ne (tgt := 286) hx hb dL_law_271 (by decide) (fun c_13 => ?_) (fun c_13 => ?_)
                          · skip
                            exact absurd (by decide) c_13
                          · skip
                            refine lv_aload_n hx hb dL_law_274 rfl (lv_at hl 6 rfl) ?_
                            refine lv_iconst (v := 2) hx hb dL_law_275 (by decide) ?_
                            refine z_lawV ⟨hx, hb, hml, hown, hts⟩ zY_X7_value w_im_yX7_value w_se_yX7_value w_ml_L_31 [.int 2] [] (c_X7_value_ok l D cs ad ((tkN (S, F) (nN (nI (1 + j)))).1) ((tkN (S, F) (nN (nI (1 + j)))).2) 2 (by decide)) hE hK hA hP hD hS (z_la (z_lc _) (z_lm _ _ _ _ _ _)) 7 rfl rfl rfl rfl hl.1 (Nat.le_of_ble_eq_true rfl) ⟨Nat.le_of_ble_eq_true rfl, Nat.le_of_ble_eq_true rfl⟩ ⟨by show _ ≤ 600104; omega, by show _ ≤ 7301314; omega⟩ dL_law_276 (fun H locs hP hD hS => ?_)
                            refine z_top (y := 0) ((zv_l (tkN (S, F) (nN (nI (1 + j)))).1 2 (by omega)).trans e2) ?_
                            refine lv_if_ne (tgt := 286) hx hb dL_law_279 (by decide) (fun c_14 => ?_) (fun c_14 => ?_)
                            · skip
                              exact absurd (by decide) c_14
                            · skip
                              refine lv_iconst (v := 1) hx hb dL_law_282 (by decide) ?_
                              refine lv_goto (tgt := 287) hx hb dL_law_283 (by decide) ?_
                              refine va_forget (fun q hq => hAs _ (hS.2.2 q hq)) ?_
                              refine W.widen (k := 600104) (n := 7301314) (by omega) (by omega) ?_
                              exact hret _ _

set_option maxHeartbeats 4000000 in
set_option maxRecDepth 100000 in
theorem law_go {pq : Program} (l : Launch) {eq : Env} {s : State} {mq : MethodId} {below : List Frame} {meth : Method} {cq : Code} {A : Nat → Prop} {D : va_G} {cs : zCs} {sb Ls : Nat} {xs : Nat → Int32} {Q : State → Prop} {ad kd bd ld : Nat → Nat → Nat} {ha : Nat} {wr : va_W} {cells slots rb : Nat} (hx : pq.tables.exec = Jvm.exec) (hb : cq.code = cL_law) (hml : cq.maxLocals = 10) (hown : s.vm.findClass RL = some mq.cls) (hts : ∀ w ∈ wsG, w.before #[Value.ref sb] s = true) (hXs : va_X sb Ls xs s s.heap) (hbl : sb < s.heap.size) (hbA : ¬ A sb) (hE : zE A s) (hK : va_K D vwCl (zT cs) s) (hA : ∀ q : Nat, s.heap.size ≤ q → A q) (hAs : ∀ q : Nat, A q → s.heap.size ≤ q) (hLs : Ls ≤ 260) (hce : cells ≤ 600104) (hsl : slots ≤ 7301314) (hb8 : 1 ≤ rb ∧ rb < 8) (hret : ∀ (H : Heap) (ls : Array Slot), W pq l eq room_1 s mq #[Value.ref sb] below meth cq H [] 600104 7301314 Q (F0 mq 287 ls [.int 1])) (S : Nat → Int32) (F : Nat → Nat → Int32) (HS : Nat → Int32) (KS : Nat → Nat → Int32) (KF : Nat → Nat → Nat → Int32) (TS : Nat → Int32) (TF : Nat → Nat → Int32) (V : Nat → Int32) (G : Nat → Nat → Int32) (HV : Nat → Int32) (KV : Nat → Nat → Int32) (KG : Nat → Nat → Nat → Int32) (TV : Nat → Int32) (TG : Nat → Nat → Int32) (HA : Nat → Int32) (p n q r : Nat) (hd : dR rb (30 * ((0 : Nat) : Int)) S F V G) (h1 : hsR HS p n) (h2 : hsR HV q r) (hh : ∀ k, 9 ≤ k → k < 16 → HA k ≤ S k) {H : Heap} {locs : List Loc} {ls : Array Slot} (hP : va_P D vwCl ((((camW ad) ++ (macW cs (ad 0) S F)) ++ (hisW cs (ad 4) kd HS) ++ (macW cs (kd 0) (KS 0) (KF 0)) ++ (macW cs (kd 1) (KS 1) (KF 1)) ++ (macW cs (kd 2) (KS 2) (KF 2)) ++ (macW cs (kd 3) (KS 3) (KF 3))) ++ (((camW bd) ++ (macW cs (bd 0) V G)) ++ (hisW cs (bd 4) ld HV) ++ (macW cs (ld 0) (KV 0) (KG 0)) ++ (macW cs (ld 1) (KV 1) (KG 1)) ++ (macW cs (ld 2) (KV 2) (KG 2)) ++ (macW cs (ld 3) (KV 3) (KG 3))) ++ (macW cs (ad 1) TS TF) ++ (macW cs (bd 1) TV TG) ++ [(ha, .inl (cs.1, 16, .inl HA))] ++ wr) H) (hD : va_D A ((((camW ad) ++ (macW cs (ad 0) S F)) ++ (hisW cs (ad 4) kd HS) ++ (macW cs (kd 0) (KS 0) (KF 0)) ++ (macW cs (kd 1) (KS 1) (KF 1)) ++ (macW cs (kd 2) (KS 2) (KF 2)) ++ (macW cs (kd 3) (KS 3) (KF 3))) ++ (((camW bd) ++ (macW cs (bd 0) V G)) ++ (hisW cs (bd 4) ld HV) ++ (macW cs (ld 0) (KV 0) (KG 0)) ++ (macW cs (ld 1) (KV 1) (KG 1)) ++ (macW cs (ld 2) (KV 2) (KG 2)) ++ (macW cs (ld 3) (KV 3) (KG 3))) ++ (macW cs (ad 1) TS TF) ++ (macW cs (bd 1) TV TG) ++ [(ha, .inl (cs.1, 16, .inl HA))] ++ wr)) (hS : va_S A s.heap H locs) (hl : lv_has ls 10 [(0, .ref sb), (1, .ref (ad 3 0)), (2, .ref (bd 3 0)), (3, .int (nI rb)), (4, .ref ha), (5, .int 1), (6, .int (nI 1))]) : W pq l eq room_1 s mq #[Value.ref sb] below meth cq H locs cells slots Q (F0 mq 53 ls []) := by
  have lp53 : ∀ (k : Nat) (i : Nat) (S : Nat → Int32) (F : Nat → Nat → Int32) (HS : Nat → Int32) (KS : Nat → Nat → Int32) (KF : Nat → Nat → Nat → Int32) (TS : Nat → Int32) (TF : Nat → Nat → Int32) (V : Nat → Int32) (G : Nat → Nat → Int32) (HV : Nat → Int32) (KV : Nat → Nat → Int32) (KG : Nat → Nat → Nat → Int32) (TV : Nat → Int32) (TG : Nat → Nat → Int32) (HA : Nat → Int32) (p n q r : Nat), (i ≤ 43) → (44 ≤ i + k) → (dR rb (30 * (i : Int)) S F V G) → (hsR HS p n) → (hsR HV q r) → (∀ k, 9 ≤ k → k < 16 → HA k ≤ S k) → ∀ (H : Heap) (locs : List Loc) (ls : Array Slot), va_P D vwCl ((((camW ad) ++ (macW cs (ad 0) S F)) ++ (hisW cs (ad 4) kd HS) ++ (macW cs (kd 0) (KS 0) (KF 0)) ++ (macW cs (kd 1) (KS 1) (KF 1)) ++ (macW cs (kd 2) (KS 2) (KF 2)) ++ (macW cs (kd 3) (KS 3) (KF 3))) ++ (((camW bd) ++ (macW cs (bd 0) V G)) ++ (hisW cs (bd 4) ld HV) ++ (macW cs (ld 0) (KV 0) (KG 0)) ++ (macW cs (ld 1) (KV 1) (KG 1)) ++ (macW cs (ld 2) (KV 2) (KG 2)) ++ (macW cs (ld 3) (KV 3) (KG 3))) ++ (macW cs (ad 1) TS TF) ++ (macW cs (bd 1) TV TG) ++ [(ha, .inl (cs.1, 16, .inl HA))] ++ wr) H → va_D A ((((camW ad) ++ (macW cs (ad 0) S F)) ++ (hisW cs (ad 4) kd HS) ++ (macW cs (kd 0) (KS 0) (KF 0)) ++ (macW cs (kd 1) (KS 1) (KF 1)) ++ (macW cs (kd 2) (KS 2) (KF 2)) ++ (macW cs (kd 3) (KS 3) (KF 3))) ++ (((camW bd) ++ (macW cs (bd 0) V G)) ++ (hisW cs (bd 4) ld HV) ++ (macW cs (ld 0) (KV 0) (KG 0)) ++ (macW cs (ld 1) (KV 1) (KG 1)) ++ (macW cs (ld 2) (KV 2) (KG 2)) ++ (macW cs (ld 3) (KV 3) (KG 3))) ++ (macW cs (ad 1) TS TF) ++ (macW cs (bd 1) TV TG) ++ [(ha, .inl (cs.1, 16, .inl HA))] ++ wr) → va_S A s.heap H locs → lv_has ls 10 [(0, .ref sb), (1, .ref (ad 3 0)), (2, .ref (bd 3 0)), (3, .int (nI rb)), (4, .ref ha), (5, .int 1), (6, .int (nI (i + 1)))] → W pq l eq room_1 s mq #[Value.ref sb] below meth cq H locs cells slots Q (F0 mq 53 ls []) := by
    intro k
    induction k with
    | zero =>
      intro i S F HS KS KF TS TF V G HV KV KG TV TG HA p n q r hi1 hi2 hd h1 h2 hh H locs ls hP hD hS hl
      omega
    | succ k ih =>
      intro i S F HS KS KF TS TF V G HV KV KG TV TG HA p n q r hi1 hi2 hd h1 h2 hh H locs ls hP hD hS hl
      refine lv_iload hx hb dL_law_53 (lv_at hl 6 rfl) ?_
      refine lv_bipush (v := 44) hx hb dL_law_55 (by decide) ?_
      refine lv_icmp_ge (tgt := 124) hx hb dL_law_57 (by decide) (fun c_1 => ?_) (fun c_1 => ?_)
      · skip
        exact law_end l hx hb hml hown hts hXs hbl hbA hE hK hA hAs hLs hce hsl hb8 hret S F HS KS KF TS TF V G HV KV KG TV TG HA p n q r (30 * (i : Int)) (by omega) hd.1 h1 hP hD hS (lv_sub hl [0, 1, 2, 3, 4, 5] rfl)
      · skip
        have gi : i + 1 < 44 := z_geK (n := 44) rfl (by omega) (by omega) c_1
        refine lv_iload hx hb dL_law_60 (lv_at hl 5 rfl) ?_
        refine lv_if_eq (tgt := 124) hx hb dL_law_62 (by decide) (fun c_2 => ?_) (fun c_2 => ?_)
        · skip
          exact absurd c_2 (by decide)
        · skip
          refine lv_aload_n hx hb dL_law_65 rfl (lv_at hl 1 rfl) ?_
          refine lv_aload_n hx hb dL_law_66 rfl (lv_at hl 2 rfl) ?_
          refine lv_iload_n hx hb dL_law_67 rfl (lv_at hl 3 rfl) ?_
          refine lv_aload_n hx hb dL_law_68 rfl (lv_at hl 0 rfl) ?_
          refine lv_iload hx hb dL_law_69 (lv_at hl 6 rfl) ?_
          refine z_cell (k := i + 1) ⟨hx, hb, hml, hown, hts⟩ hLs (by omega) hXs hbl hbA hP hD hS hl.1 (Nat.le_of_ble_eq_true rfl) ⟨Nat.le_of_ble_eq_true rfl, Nat.le_of_ble_eq_true rfl⟩ ⟨by show _ ≤ 600104; omega, by show _ ≤ 7301314; omega⟩ dL_law_71 (fun H locs hP hD hS => ?_)
          obtain ⟨hP, hD⟩ := zq_l7 hP hD
          refine z_lawE ⟨hx, hb, hml, hown, hts⟩ zY_L_isStep w_st_yL_isStep w_ml_L_76 [.ref (ad 3 0), .ref (bd 3 0), .int (nI rb), .int (scV xs Ls (i + 1))] [] (c_L_isStep l D cs ad kd bd ld S F HS KS KF V G HV KV KG p n q r rb (30 * (i : Int)) (scV xs Ls (i + 1)) hb8 ⟨by omega, by omega⟩ hd h1 h2) hE hK hA hP hD hS (fun wo hw => stP_len hw _ _ _ _ _ _ _ _ _ _) rfl hl.1 (Nat.le_of_ble_eq_true rfl) ⟨Nat.le_of_ble_eq_true rfl, Nat.le_of_ble_eq_true rfl⟩ ⟨by show _ ≤ 600104; omega, by show _ ≤ 7301314; omega⟩ dL_law_74 (fun wo hw H locs hP hD hS => ?_)
          obtain ⟨S9, F9, HS9, KS9, KF9, V9, G9, HV9, KV9, KG9, p9, n9, q9, r9, rfl, hd9, hm9, h19, h29⟩ := hw
          refine lv_if_eq (tgt := 115) hx hb dL_law_77 (by decide) (fun c_3 => ?_) (fun c_3 => ?_)
          · skip
            exact absurd c_3 (by decide)
          · skip
            refine lv_aload_n hx hb dL_law_80 rfl (lv_at hl 1 rfl) ?_
            refine lv_aload_n hx hb dL_law_81 rfl (lv_at hl 2 rfl) ?_
            refine lv_iload_n hx hb dL_law_82 rfl (lv_at hl 3 rfl) ?_
            obtain ⟨hP, hD⟩ := zq_l8 hP hD
            refine z_lawE ⟨hx, hb, hml, hown, hts⟩ zY_L_areAlike w_st_yL_areAlike w_ml_L_80 [.ref (ad 3 0), .ref (bd 3 0), .int (nI rb)] [] (c_L_areAlike l D cs ad bd S9 F9 V9 G9 TS TF TV TG rb (30 * (i : Int) + 30) hb8 ⟨by omega, by omega⟩ hd9) hE hK hA hP hD hS (fun wo hw => alP_len hw _ _ _ _) rfl hl.1 (Nat.le_of_ble_eq_true rfl) ⟨Nat.le_of_ble_eq_true rfl, Nat.le_of_ble_eq_true rfl⟩ ⟨by show _ ≤ 600104; omega, by show _ ≤ 7301314; omega⟩ dL_law_83 (fun wo hw H locs hP hD hS => ?_)
            obtain ⟨TS9, TF9, TV9, TG9, rfl⟩ := hw
            refine lv_if_eq (tgt := 115) hx hb dL_law_86 (by decide) (fun c_4 => ?_) (fun c_4 => ?_)
            · skip
              exact absurd c_4 (by decide)
            · skip
              refine lv_aload_n hx hb dL_law_89 rfl (lv_at hl 1 rfl) ?_
              refine lv_iconst (v := 2) hx hb dL_law_90 (by decide) ?_
              obtain ⟨hP, hD⟩ := zq_l9 hP hD
              refine z_lawV ⟨hx, hb, hml, hown, hts⟩ zY_X7_value w_im_yX7_value w_se_yX7_value w_ml_L_31 [.int 2] [] (c_X7_value_ok l D cs ad S9 F9 2 (by decide)) hE hK hA hP hD hS (z_la (z_lc _) (z_lm _ _ _ _ _ _)) 7 rfl rfl rfl rfl hl.1 (Nat.le_of_ble_eq_true rfl) ⟨Nat.le_of_ble_eq_true rfl, Nat.le_of_ble_eq_true rfl⟩ ⟨by show _ ≤ 600104; omega, by show _ ≤ 7301314; omega⟩ dL_law_91 (fun H locs hP hD hS => ?_)
              refine z_top (y := S9 2) (zv_l S9 2 (by omega)) ?_
              refine lv_aload_n hx hb dL_law_94 rfl (lv_at hl 1 rfl) ?_
              refine lv_iconst (v := 3) hx hb dL_law_95 (by decide) ?_
              refine z_lawV ⟨hx, hb, hml, hown, hts⟩ zY_X7_value w_im_yX7_value w_se_yX7_value w_ml_L_31 [.int 3] [.int (S9 2)] (c_X7_value_ok l D cs ad S9 F9 3 (by decide)) hE hK hA hP hD hS (z_la (z_lc _) (z_lm _ _ _ _ _ _)) 7 rfl rfl rfl rfl hl.1 (Nat.le_of_ble_eq_true rfl) ⟨Nat.le_of_ble_eq_true rfl, Nat.le_of_ble_eq_true rfl⟩ ⟨by show _ ≤ 600104; omega, by show _ ≤ 7301314; omega⟩ dL_law_96 (fun H locs hP hD hS => ?_)
              refine z_top (y := S9 3) (zv_l S9 3 (by omega)) ?_
              refine lv_icmp_ge (tgt := 111) hx hb dL_law_99 (by decide) (fun c_5 => ?_) (fun c_5 => ?_)
              · skip
                refine lv_iconst (v := 1) hx hb dL_law_111 (by decide) ?_
                refine lv_goto (tgt := 116) hx hb dL_law_112 (by decide) ?_
                refine lv_istore (lv' := [(5, .int 1), (0, .ref sb), (1, .ref (ad 3 0)), (2, .ref (bd 3 0)), (3, .int (nI rb)), (4, .ref ha), (6, .int (nI (i + 1)))]) hx hb dL_law_116 hl (by decide) rfl (fun ls hl => ?_)
                refine lv_iinc (v := nI (i + 1 + 1)) (lv' := [(6, .int (nI (i + 1 + 1))), (5, .int 1), (0, .ref sb), (1, .ref (ad 3 0)), (2, .ref (bd 3 0)), (3, .int (nI rb)), (4, .ref ha)]) hx hb dL_law_118 hl (k := 6) rfl (show nI (i + 1) + Int32.ofInt 1 = nI (i + 1 + 1) from nI_add (i + 1) 1) (by decide) rfl (fun ls hl => ?_)
                refine lv_goto (tgt := 53) hx hb dL_law_121 (by decide) ?_
                obtain ⟨hP, hD⟩ := zq_l10 hP hD
                exact ih (i + 1) S9 F9 HS9 KS9 KF9 TS9 TF9 V9 G9 HV9 KV9 KG9 TV9 TG9 HA p9 n9 q9 r9 (by omega) (by omega) (by rw [show (30 * ((i + 1 : Nat) : Int)) = 30 * (i : Int) + 30 by omega]; exact hd9) h19 h29 (so_m hh hm9) _ _ _ hP hD hS (lv_sub hl [2, 3, 4, 5, 6, 1, 0] rfl)
              · skip
                refine lv_aload_n hx hb dL_law_102 rfl (lv_at hl 1 rfl) ?_
                refine lv_aload hx hb dL_law_103 (lv_at hl 4 rfl) ?_
                obtain ⟨hP, hD⟩ := zq_l11 hP hD
                refine z_lawE ⟨hx, hb, hml, hown, hts⟩ zY_L_isSound w_st_yL_isSound w_ml_L_84 [.ref (ad 3 0), .ref ha] [] (c_L_isSound l D cs ad ha S9 F9 HA (30 * (i : Int) + 30) ⟨by omega, by omega⟩ hd9.1 (Int32.not_le.mp c_5) (so_m hh hm9)) hE hK hA hP hD hS (fun wo hw => soP_len hw _) rfl hl.1 (Nat.le_of_ble_eq_true rfl) ⟨Nat.le_of_ble_eq_true rfl, Nat.le_of_ble_eq_true rfl⟩ ⟨by show _ ≤ 600104; omega, by show _ ≤ 7301314; omega⟩ dL_law_105 (fun wo hw H locs hP hD hS => ?_)
                obtain ⟨HA9, rfl, hh9⟩ := hw
                refine lv_if_eq (tgt := 115) hx hb dL_law_108 (by decide) (fun c_6 => ?_) (fun c_6 => ?_)
                · skip
                  exact absurd c_6 (by decide)
                · skip
                  refine lv_iconst (v := 1) hx hb dL_law_111 (by decide) ?_
                  refine lv_goto (tgt := 116) hx hb dL_law_112 (by decide) ?_
                  refine lv_istore (lv' := [(5, .int 1), (0, .ref sb), (1, .ref (ad 3 0)), (2, .ref (bd 3 0)), (3, .int (nI rb)), (4, .ref ha), (6, .int (nI (i + 1)))]) hx hb dL_law_116 hl (by decide) rfl (fun ls hl => ?_)
                  refine lv_iinc (v := nI (i + 1 + 1)) (lv' := [(6, .int (nI (i + 1 + 1))), (5, .int 1), (0, .ref sb), (1, .ref (ad 3 0)), (2, .ref (bd 3 0)), (3, .int (nI rb)), (4, .ref ha)]) hx hb dL_law_118 hl (k := 6) rfl (show nI (i + 1) + Int32.ofInt 1 = nI (i + 1 + 1) from nI_add (i + 1) 1) (by decide) rfl (fun ls hl => ?_)
                  refine lv_goto (tgt := 53) hx hb dL_law_121 (by decide) ?_
                  obtain ⟨hP, hD⟩ := zq_l12 hP hD
                  exact ih (i + 1) S9 F9 HS9 KS9 KF9 TS9 TF9 V9 G9 HV9 KV9 KG9 TV9 TG9 HA9 p9 n9 q9 r9 (by omega) (by omega) (by rw [show (30 * ((i + 1 : Nat) : Int)) = 30 * (i : Int) + 30 by omega]; exact hd9) h19 h29 hh9 _ _ _ hP hD hS (lv_sub hl [2, 3, 4, 5, 6, 1, 0] rfl)
  exact lp53 44 0 S F HS KS KF TS TF V G HV KV KG TV TG HA p n q r (by omega) (by omega) hd h1 h2 hh _ _ _ hP hD hS (lv_sub hl [0, 1, 2, 3, 4, 5, 6] rfl)
