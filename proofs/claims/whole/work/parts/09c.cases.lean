theorem zp_1 {A : Nat → Prop} {D : va_G} {cl : List vw_C} {H : Heap} {wD wM wT1 wT2 wK wk0 wk1 wk2 wk3 wX wR wO : va_W} (hP : va_P D cl (wD ++ wM ++ wT1 ++ wT2 ++ wK ++ wk0 ++ wk1 ++ wk2 ++ wk3 ++ wX ++ wR ++ wO) H) (hD : va_D A (wD ++ wM ++ wT1 ++ wT2 ++ wK ++ wk0 ++ wk1 ++ wk2 ++ wk3 ++ wX ++ wR ++ wO)) : va_P D cl ((wD ++ wM ++ wK ++ wk0 ++ wk1 ++ wk2 ++ wk3 ++ wO) ++ (wT1 ++ wT2 ++ wX ++ wR)) H ∧ va_D A ((wD ++ wM ++ wK ++ wk0 ++ wk1 ++ wk2 ++ wk3 ++ wO) ++ (wT1 ++ wT2 ++ wX ++ wR)) := by
  refine z_perm (fun q h => ?_) (fun x => ?_) hP hD
  · simp only [List.mem_append] at h ⊢; simp only [or_assoc] at h ⊢; rcases h with h | h | h | h | h | h | h | h | h | h | h | h <;> simp only [h, true_or, or_true]
  · simp only [List.map_append, List.count_append]; omega

theorem zp_2 {A : Nat → Prop} {D : va_G} {cl : List vw_C} {H : Heap} {wD wM wT1 wT2 wK wk0 wk1 wk2 wk3 wX wR wO : va_W} (hP : va_P D cl ((wD ++ wM ++ wK ++ wk0 ++ wk1 ++ wk2 ++ wk3 ++ wO) ++ (wT1 ++ wT2 ++ wX ++ wR)) H) (hD : va_D A ((wD ++ wM ++ wK ++ wk0 ++ wk1 ++ wk2 ++ wk3 ++ wO) ++ (wT1 ++ wT2 ++ wX ++ wR))) : va_P D cl ((wR) ++ (wD ++ wM ++ wT1 ++ wT2 ++ wK ++ wk0 ++ wk1 ++ wk2 ++ wk3 ++ wX ++ wO)) H ∧ va_D A ((wR) ++ (wD ++ wM ++ wT1 ++ wT2 ++ wK ++ wk0 ++ wk1 ++ wk2 ++ wk3 ++ wX ++ wO)) := by
  refine z_perm (fun q h => ?_) (fun x => ?_) hP hD
  · simp only [List.mem_append] at h ⊢; simp only [or_assoc] at h ⊢; rcases h with h | h | h | h | h | h | h | h | h | h | h | h <;> simp only [h, true_or, or_true]
  · simp only [List.map_append, List.count_append]; omega

theorem zp_3 {A : Nat → Prop} {D : va_G} {cl : List vw_C} {H : Heap} {wD wM wT1 wT2 wK wk0 wk1 wk2 wk3 wX wR wO : va_W} (hP : va_P D cl ((wR) ++ (wD ++ wM ++ wT1 ++ wT2 ++ wK ++ wk0 ++ wk1 ++ wk2 ++ wk3 ++ wX ++ wO)) H) (hD : va_D A ((wR) ++ (wD ++ wM ++ wT1 ++ wT2 ++ wK ++ wk0 ++ wk1 ++ wk2 ++ wk3 ++ wX ++ wO))) : va_P D cl ((wO) ++ (wD ++ wM ++ wT1 ++ wT2 ++ wK ++ wk0 ++ wk1 ++ wk2 ++ wk3 ++ wX ++ wR)) H ∧ va_D A ((wO) ++ (wD ++ wM ++ wT1 ++ wT2 ++ wK ++ wk0 ++ wk1 ++ wk2 ++ wk3 ++ wX ++ wR)) := by
  refine z_perm (fun q h => ?_) (fun x => ?_) hP hD
  · simp only [List.mem_append] at h ⊢; simp only [or_assoc] at h ⊢; rcases h with h | h | h | h | h | h | h | h | h | h | h | h <;> simp only [h, true_or, or_true]
  · simp only [List.map_append, List.count_append]; omega

theorem zp_4 {A : Nat → Prop} {D : va_G} {cl : List vw_C} {H : Heap} {wD wM wT1 wT2 wK wk0 wk1 wk2 wk3 wX wR wO : va_W} (hP : va_P D cl ((wO) ++ (wD ++ wM ++ wT1 ++ wT2 ++ wK ++ wk0 ++ wk1 ++ wk2 ++ wk3 ++ wX ++ wR)) H) (hD : va_D A ((wO) ++ (wD ++ wM ++ wT1 ++ wT2 ++ wK ++ wk0 ++ wk1 ++ wk2 ++ wk3 ++ wX ++ wR))) : va_P D cl (wD ++ wM ++ wT1 ++ wT2 ++ wK ++ wk0 ++ wk1 ++ wk2 ++ wk3 ++ wX ++ wR ++ wO) H ∧ va_D A (wD ++ wM ++ wT1 ++ wT2 ++ wK ++ wk0 ++ wk1 ++ wk2 ++ wk3 ++ wX ++ wR ++ wO) := by
  refine z_perm (fun q h => ?_) (fun x => ?_) hP hD
  · simp only [List.mem_append] at h ⊢; simp only [or_assoc] at h ⊢; rcases h with h | h | h | h | h | h | h | h | h | h | h | h <;> simp only [h, true_or, or_true]
  · simp only [List.map_append, List.count_append]; omega

theorem zp_5 {A : Nat → Prop} {D : va_G} {cl : List vw_C} {H : Heap} {wD wM wT1 wT2 wK wk0 wk1 wk2 wk3 wX wR wO : va_W} (hP : va_P D cl ((wR) ++ (wD ++ wM ++ wT1 ++ wT2 ++ wK ++ wk0 ++ wk1 ++ wk2 ++ wk3 ++ wX ++ wO)) H) (hD : va_D A ((wR) ++ (wD ++ wM ++ wT1 ++ wT2 ++ wK ++ wk0 ++ wk1 ++ wk2 ++ wk3 ++ wX ++ wO))) : va_P D cl (wD ++ wM ++ wT1 ++ wT2 ++ wK ++ wk0 ++ wk1 ++ wk2 ++ wk3 ++ wX ++ wR ++ wO) H ∧ va_D A (wD ++ wM ++ wT1 ++ wT2 ++ wK ++ wk0 ++ wk1 ++ wk2 ++ wk3 ++ wX ++ wR ++ wO) := by
  refine z_perm (fun q h => ?_) (fun x => ?_) hP hD
  · simp only [List.mem_append] at h ⊢; simp only [or_assoc] at h ⊢; rcases h with h | h | h | h | h | h | h | h | h | h | h | h <;> simp only [h, true_or, or_true]
  · simp only [List.map_append, List.count_append]; omega

theorem zp_6 {A : Nat → Prop} {D : va_G} {cl : List vw_C} {H : Heap} {wD wM wT1 wT2 wK wk0 wk1 wk2 wk3 wX wR wO : va_W} (hP : va_P D cl (wD ++ wM ++ wT1 ++ wT2 ++ wK ++ wk0 ++ wk1 ++ wk2 ++ wk3 ++ wX ++ wR ++ wO) H) (hD : va_D A (wD ++ wM ++ wT1 ++ wT2 ++ wK ++ wk0 ++ wk1 ++ wk2 ++ wk3 ++ wX ++ wR ++ wO)) : va_P D cl ((wD ++ wM ++ wO) ++ (wT1 ++ wT2 ++ wK ++ wk0 ++ wk1 ++ wk2 ++ wk3 ++ wX ++ wR)) H ∧ va_D A ((wD ++ wM ++ wO) ++ (wT1 ++ wT2 ++ wK ++ wk0 ++ wk1 ++ wk2 ++ wk3 ++ wX ++ wR)) := by
  refine z_perm (fun q h => ?_) (fun x => ?_) hP hD
  · simp only [List.mem_append] at h ⊢; simp only [or_assoc] at h ⊢; rcases h with h | h | h | h | h | h | h | h | h | h | h | h <;> simp only [h, true_or, or_true]
  · simp only [List.map_append, List.count_append]; omega

theorem zp_7 {A : Nat → Prop} {D : va_G} {cl : List vw_C} {H : Heap} {wD wM wT1 wT2 wK wk0 wk1 wk2 wk3 wX wR wO : va_W} (hP : va_P D cl ((wD ++ wM ++ wO) ++ (wT1 ++ wT2 ++ wK ++ wk0 ++ wk1 ++ wk2 ++ wk3 ++ wX ++ wR)) H) (hD : va_D A ((wD ++ wM ++ wO) ++ (wT1 ++ wT2 ++ wK ++ wk0 ++ wk1 ++ wk2 ++ wk3 ++ wX ++ wR))) : va_P D cl ((wR) ++ (wD ++ wM ++ wT1 ++ wT2 ++ wK ++ wk0 ++ wk1 ++ wk2 ++ wk3 ++ wX ++ wO)) H ∧ va_D A ((wR) ++ (wD ++ wM ++ wT1 ++ wT2 ++ wK ++ wk0 ++ wk1 ++ wk2 ++ wk3 ++ wX ++ wO)) := by
  refine z_perm (fun q h => ?_) (fun x => ?_) hP hD
  · simp only [List.mem_append] at h ⊢; simp only [or_assoc] at h ⊢; rcases h with h | h | h | h | h | h | h | h | h | h | h | h <;> simp only [h, true_or, or_true]
  · simp only [List.map_append, List.count_append]; omega

theorem zp_8 {A : Nat → Prop} {D : va_G} {cl : List vw_C} {H : Heap} {wD wM wT1 wT2 wK wk0 wk1 wk2 wk3 wX wR wO : va_W} (hP : va_P D cl (wD ++ wM ++ wT1 ++ wT2 ++ wK ++ wk0 ++ wk1 ++ wk2 ++ wk3 ++ wX ++ wR ++ wO) H) (hD : va_D A (wD ++ wM ++ wT1 ++ wT2 ++ wK ++ wk0 ++ wk1 ++ wk2 ++ wk3 ++ wX ++ wR ++ wO)) : va_P D cl ((wD ++ wM ++ wT1 ++ wO) ++ (wT2 ++ wK ++ wk0 ++ wk1 ++ wk2 ++ wk3 ++ wX ++ wR)) H ∧ va_D A ((wD ++ wM ++ wT1 ++ wO) ++ (wT2 ++ wK ++ wk0 ++ wk1 ++ wk2 ++ wk3 ++ wX ++ wR)) := by
  refine z_perm (fun q h => ?_) (fun x => ?_) hP hD
  · simp only [List.mem_append] at h ⊢; simp only [or_assoc] at h ⊢; rcases h with h | h | h | h | h | h | h | h | h | h | h | h <;> simp only [h, true_or, or_true]
  · simp only [List.map_append, List.count_append]; omega

theorem zp_9 {A : Nat → Prop} {D : va_G} {cl : List vw_C} {H : Heap} {wD wM wT1 wT2 wK wk0 wk1 wk2 wk3 wX wR wO : va_W} (hP : va_P D cl ((wD ++ wM ++ wT1 ++ wO) ++ (wT2 ++ wK ++ wk0 ++ wk1 ++ wk2 ++ wk3 ++ wX ++ wR)) H) (hD : va_D A ((wD ++ wM ++ wT1 ++ wO) ++ (wT2 ++ wK ++ wk0 ++ wk1 ++ wk2 ++ wk3 ++ wX ++ wR))) : va_P D cl ((wR) ++ (wD ++ wM ++ wT1 ++ wT2 ++ wK ++ wk0 ++ wk1 ++ wk2 ++ wk3 ++ wX ++ wO)) H ∧ va_D A ((wR) ++ (wD ++ wM ++ wT1 ++ wT2 ++ wK ++ wk0 ++ wk1 ++ wk2 ++ wk3 ++ wX ++ wO)) := by
  refine z_perm (fun q h => ?_) (fun x => ?_) hP hD
  · simp only [List.mem_append] at h ⊢; simp only [or_assoc] at h ⊢; rcases h with h | h | h | h | h | h | h | h | h | h | h | h <;> simp only [h, true_or, or_true]
  · simp only [List.map_append, List.count_append]; omega

theorem zp_10 {A : Nat → Prop} {D : va_G} {cl : List vw_C} {H : Heap} {wD wM wT1 wT2 wK wk0 wk1 wk2 wk3 wX wR wO : va_W} (hP : va_P D cl (wD ++ wM ++ wT1 ++ wT2 ++ wK ++ wk0 ++ wk1 ++ wk2 ++ wk3 ++ wX ++ wR ++ wO) H) (hD : va_D A (wD ++ wM ++ wT1 ++ wT2 ++ wK ++ wk0 ++ wk1 ++ wk2 ++ wk3 ++ wX ++ wR ++ wO)) : va_P D cl ((wD ++ wM ++ wT1) ++ (wT2 ++ wK ++ wk0 ++ wk1 ++ wk2 ++ wk3 ++ wX ++ wR ++ wO)) H ∧ va_D A ((wD ++ wM ++ wT1) ++ (wT2 ++ wK ++ wk0 ++ wk1 ++ wk2 ++ wk3 ++ wX ++ wR ++ wO)) := by
  refine z_perm (fun q h => ?_) (fun x => ?_) hP hD
  · simp only [List.mem_append] at h ⊢; simp only [or_assoc] at h ⊢; rcases h with h | h | h | h | h | h | h | h | h | h | h | h <;> simp only [h, true_or, or_true]
  · simp only [List.map_append, List.count_append]; omega

theorem zp_11 {A : Nat → Prop} {D : va_G} {cl : List vw_C} {H : Heap} {wD wM wT1 wT2 wK wk0 wk1 wk2 wk3 wX wR wO : va_W} (hP : va_P D cl ((wD ++ wM ++ wT1) ++ (wT2 ++ wK ++ wk0 ++ wk1 ++ wk2 ++ wk3 ++ wX ++ wR ++ wO)) H) (hD : va_D A ((wD ++ wM ++ wT1) ++ (wT2 ++ wK ++ wk0 ++ wk1 ++ wk2 ++ wk3 ++ wX ++ wR ++ wO))) : va_P D cl ((wR) ++ (wD ++ wM ++ wT1 ++ wT2 ++ wK ++ wk0 ++ wk1 ++ wk2 ++ wk3 ++ wX ++ wO)) H ∧ va_D A ((wR) ++ (wD ++ wM ++ wT1 ++ wT2 ++ wK ++ wk0 ++ wk1 ++ wk2 ++ wk3 ++ wX ++ wO)) := by
  refine z_perm (fun q h => ?_) (fun x => ?_) hP hD
  · simp only [List.mem_append] at h ⊢; simp only [or_assoc] at h ⊢; rcases h with h | h | h | h | h | h | h | h | h | h | h | h <;> simp only [h, true_or, or_true]
  · simp only [List.map_append, List.count_append]; omega

theorem zp_12 {A : Nat → Prop} {D : va_G} {cl : List vw_C} {H : Heap} {wD wM wT1 wT2 wK wk0 wk1 wk2 wk3 wX wR wO : va_W} (hP : va_P D cl (wD ++ wM ++ wT1 ++ wT2 ++ wK ++ wk0 ++ wk1 ++ wk2 ++ wk3 ++ wX ++ wR ++ wO) H) (hD : va_D A (wD ++ wM ++ wT1 ++ wT2 ++ wK ++ wk0 ++ wk1 ++ wk2 ++ wk3 ++ wX ++ wR ++ wO)) : va_P D cl ((wD ++ wM ++ wT1 ++ wT2) ++ (wK ++ wk0 ++ wk1 ++ wk2 ++ wk3 ++ wX ++ wR ++ wO)) H ∧ va_D A ((wD ++ wM ++ wT1 ++ wT2) ++ (wK ++ wk0 ++ wk1 ++ wk2 ++ wk3 ++ wX ++ wR ++ wO)) := by
  refine z_perm (fun q h => ?_) (fun x => ?_) hP hD
  · simp only [List.mem_append] at h ⊢; simp only [or_assoc] at h ⊢; rcases h with h | h | h | h | h | h | h | h | h | h | h | h <;> simp only [h, true_or, or_true]
  · simp only [List.map_append, List.count_append]; omega

theorem zp_13 {A : Nat → Prop} {D : va_G} {cl : List vw_C} {H : Heap} {wD wM wT1 wT2 wK wk0 wk1 wk2 wk3 wX wR wO : va_W} (hP : va_P D cl ((wD ++ wM ++ wT1 ++ wT2) ++ (wK ++ wk0 ++ wk1 ++ wk2 ++ wk3 ++ wX ++ wR ++ wO)) H) (hD : va_D A ((wD ++ wM ++ wT1 ++ wT2) ++ (wK ++ wk0 ++ wk1 ++ wk2 ++ wk3 ++ wX ++ wR ++ wO))) : va_P D cl ((wR) ++ (wD ++ wM ++ wT1 ++ wT2 ++ wK ++ wk0 ++ wk1 ++ wk2 ++ wk3 ++ wX ++ wO)) H ∧ va_D A ((wR) ++ (wD ++ wM ++ wT1 ++ wT2 ++ wK ++ wk0 ++ wk1 ++ wk2 ++ wk3 ++ wX ++ wO)) := by
  refine z_perm (fun q h => ?_) (fun x => ?_) hP hD
  · simp only [List.mem_append] at h ⊢; simp only [or_assoc] at h ⊢; rcases h with h | h | h | h | h | h | h | h | h | h | h | h <;> simp only [h, true_or, or_true]
  · simp only [List.map_append, List.count_append]; omega

theorem zp_14 {A : Nat → Prop} {D : va_G} {cl : List vw_C} {H : Heap} {wD wM wT1 wT2 wK wk0 wk1 wk2 wk3 wX wR wO : va_W} (hP : va_P D cl (wD ++ wM ++ wT1 ++ wT2 ++ wK ++ wk0 ++ wk1 ++ wk2 ++ wk3 ++ wX ++ wR ++ wO) H) (hD : va_D A (wD ++ wM ++ wT1 ++ wT2 ++ wK ++ wk0 ++ wk1 ++ wk2 ++ wk3 ++ wX ++ wR ++ wO)) : va_P D cl ((wD ++ wM) ++ (wT1 ++ wT2 ++ wK ++ wk0 ++ wk1 ++ wk2 ++ wk3 ++ wX ++ wR ++ wO)) H ∧ va_D A ((wD ++ wM) ++ (wT1 ++ wT2 ++ wK ++ wk0 ++ wk1 ++ wk2 ++ wk3 ++ wX ++ wR ++ wO)) := by
  refine z_perm (fun q h => ?_) (fun x => ?_) hP hD
  · simp only [List.mem_append] at h ⊢; simp only [or_assoc] at h ⊢; rcases h with h | h | h | h | h | h | h | h | h | h | h | h <;> simp only [h, true_or, or_true]
  · simp only [List.map_append, List.count_append]; omega

theorem zp_15 {A : Nat → Prop} {D : va_G} {cl : List vw_C} {H : Heap} {wD wM wT1 wT2 wK wk0 wk1 wk2 wk3 wX wR wO : va_W} (hP : va_P D cl ((wD ++ wM) ++ (wT1 ++ wT2 ++ wK ++ wk0 ++ wk1 ++ wk2 ++ wk3 ++ wX ++ wR ++ wO)) H) (hD : va_D A ((wD ++ wM) ++ (wT1 ++ wT2 ++ wK ++ wk0 ++ wk1 ++ wk2 ++ wk3 ++ wX ++ wR ++ wO))) : va_P D cl ((wR) ++ (wD ++ wM ++ wT1 ++ wT2 ++ wK ++ wk0 ++ wk1 ++ wk2 ++ wk3 ++ wX ++ wO)) H ∧ va_D A ((wR) ++ (wD ++ wM ++ wT1 ++ wT2 ++ wK ++ wk0 ++ wk1 ++ wk2 ++ wk3 ++ wX ++ wO)) := by
  refine z_perm (fun q h => ?_) (fun x => ?_) hP hD
  · simp only [List.mem_append] at h ⊢; simp only [or_assoc] at h ⊢; rcases h with h | h | h | h | h | h | h | h | h | h | h | h <;> simp only [h, true_or, or_true]
  · simp only [List.map_append, List.count_append]; omega

theorem zp_16 {A : Nat → Prop} {D : va_G} {cl : List vw_C} {H : Heap} {wD wM wT1 wT2 wK wk0 wk1 wk2 wk3 wX wR wO : va_W} (hP : va_P D cl (wD ++ wM ++ wT1 ++ wT2 ++ wK ++ wk0 ++ wk1 ++ wk2 ++ wk3 ++ wX ++ wR ++ wO) H) (hD : va_D A (wD ++ wM ++ wT1 ++ wT2 ++ wK ++ wk0 ++ wk1 ++ wk2 ++ wk3 ++ wX ++ wR ++ wO)) : va_P D cl ((wD ++ wX ++ wO) ++ (wM ++ wT1 ++ wT2 ++ wK ++ wk0 ++ wk1 ++ wk2 ++ wk3 ++ wR)) H ∧ va_D A ((wD ++ wX ++ wO) ++ (wM ++ wT1 ++ wT2 ++ wK ++ wk0 ++ wk1 ++ wk2 ++ wk3 ++ wR)) := by
  refine z_perm (fun q h => ?_) (fun x => ?_) hP hD
  · simp only [List.mem_append] at h ⊢; simp only [or_assoc] at h ⊢; rcases h with h | h | h | h | h | h | h | h | h | h | h | h <;> simp only [h, true_or, or_true]
  · simp only [List.map_append, List.count_append]; omega

theorem zp_17 {A : Nat → Prop} {D : va_G} {cl : List vw_C} {H : Heap} {wD wM wT1 wT2 wK wk0 wk1 wk2 wk3 wX wR wO : va_W} (hP : va_P D cl ((wD ++ wX ++ wO) ++ (wM ++ wT1 ++ wT2 ++ wK ++ wk0 ++ wk1 ++ wk2 ++ wk3 ++ wR)) H) (hD : va_D A ((wD ++ wX ++ wO) ++ (wM ++ wT1 ++ wT2 ++ wK ++ wk0 ++ wk1 ++ wk2 ++ wk3 ++ wR))) : va_P D cl ((wR) ++ (wD ++ wM ++ wT1 ++ wT2 ++ wK ++ wk0 ++ wk1 ++ wk2 ++ wk3 ++ wX ++ wO)) H ∧ va_D A ((wR) ++ (wD ++ wM ++ wT1 ++ wT2 ++ wK ++ wk0 ++ wk1 ++ wk2 ++ wk3 ++ wX ++ wO)) := by
  refine z_perm (fun q h => ?_) (fun x => ?_) hP hD
  · simp only [List.mem_append] at h ⊢; simp only [or_assoc] at h ⊢; rcases h with h | h | h | h | h | h | h | h | h | h | h | h <;> simp only [h, true_or, or_true]
  · simp only [List.map_append, List.count_append]; omega

theorem zp_18 {A : Nat → Prop} {D : va_G} {cl : List vw_C} {H : Heap} {wD wM wT1 wT2 wK wk0 wk1 wk2 wk3 wX wR wO : va_W} (hP : va_P D cl (wD ++ wM ++ wT1 ++ wT2 ++ wK ++ wk0 ++ wk1 ++ wk2 ++ wk3 ++ wX ++ wR ++ wO) H) (hD : va_D A (wD ++ wM ++ wT1 ++ wT2 ++ wK ++ wk0 ++ wk1 ++ wk2 ++ wk3 ++ wX ++ wR ++ wO)) : va_P D cl ((wD ++ wX) ++ (wM ++ wT1 ++ wT2 ++ wK ++ wk0 ++ wk1 ++ wk2 ++ wk3 ++ wR ++ wO)) H ∧ va_D A ((wD ++ wX) ++ (wM ++ wT1 ++ wT2 ++ wK ++ wk0 ++ wk1 ++ wk2 ++ wk3 ++ wR ++ wO)) := by
  refine z_perm (fun q h => ?_) (fun x => ?_) hP hD
  · simp only [List.mem_append] at h ⊢; simp only [or_assoc] at h ⊢; rcases h with h | h | h | h | h | h | h | h | h | h | h | h <;> simp only [h, true_or, or_true]
  · simp only [List.map_append, List.count_append]; omega

theorem zp_19 {A : Nat → Prop} {D : va_G} {cl : List vw_C} {H : Heap} {wD wM wT1 wT2 wK wk0 wk1 wk2 wk3 wX wR wO : va_W} (hP : va_P D cl ((wD ++ wX) ++ (wM ++ wT1 ++ wT2 ++ wK ++ wk0 ++ wk1 ++ wk2 ++ wk3 ++ wR ++ wO)) H) (hD : va_D A ((wD ++ wX) ++ (wM ++ wT1 ++ wT2 ++ wK ++ wk0 ++ wk1 ++ wk2 ++ wk3 ++ wR ++ wO))) : va_P D cl ((wR) ++ (wD ++ wM ++ wT1 ++ wT2 ++ wK ++ wk0 ++ wk1 ++ wk2 ++ wk3 ++ wX ++ wO)) H ∧ va_D A ((wR) ++ (wD ++ wM ++ wT1 ++ wT2 ++ wK ++ wk0 ++ wk1 ++ wk2 ++ wk3 ++ wX ++ wO)) := by
  refine z_perm (fun q h => ?_) (fun x => ?_) hP hD
  · simp only [List.mem_append] at h ⊢; simp only [or_assoc] at h ⊢; rcases h with h | h | h | h | h | h | h | h | h | h | h | h <;> simp only [h, true_or, or_true]
  · simp only [List.map_append, List.count_append]; omega

theorem zp_20 {A : Nat → Prop} {D : va_G} {cl : List vw_C} {H : Heap} {wD wM wT1 wT2 wK wk0 wk1 wk2 wk3 wX wR wO : va_W} (hP : va_P D cl (wD ++ wM ++ wT1 ++ wT2 ++ wK ++ wk0 ++ wk1 ++ wk2 ++ wk3 ++ wX ++ wR ++ wO) H) (hD : va_D A (wD ++ wM ++ wT1 ++ wT2 ++ wK ++ wk0 ++ wk1 ++ wk2 ++ wk3 ++ wX ++ wR ++ wO)) : va_P D cl ((wD ++ wM ++ wX) ++ (wT1 ++ wT2 ++ wK ++ wk0 ++ wk1 ++ wk2 ++ wk3 ++ wR ++ wO)) H ∧ va_D A ((wD ++ wM ++ wX) ++ (wT1 ++ wT2 ++ wK ++ wk0 ++ wk1 ++ wk2 ++ wk3 ++ wR ++ wO)) := by
  refine z_perm (fun q h => ?_) (fun x => ?_) hP hD
  · simp only [List.mem_append] at h ⊢; simp only [or_assoc] at h ⊢; rcases h with h | h | h | h | h | h | h | h | h | h | h | h <;> simp only [h, true_or, or_true]
  · simp only [List.map_append, List.count_append]; omega

theorem zp_21 {A : Nat → Prop} {D : va_G} {cl : List vw_C} {H : Heap} {wD wM wT1 wT2 wK wk0 wk1 wk2 wk3 wX wR wO : va_W} (hP : va_P D cl ((wD ++ wM ++ wX) ++ (wT1 ++ wT2 ++ wK ++ wk0 ++ wk1 ++ wk2 ++ wk3 ++ wR ++ wO)) H) (hD : va_D A ((wD ++ wM ++ wX) ++ (wT1 ++ wT2 ++ wK ++ wk0 ++ wk1 ++ wk2 ++ wk3 ++ wR ++ wO))) : va_P D cl ((wR) ++ (wD ++ wM ++ wT1 ++ wT2 ++ wK ++ wk0 ++ wk1 ++ wk2 ++ wk3 ++ wX ++ wO)) H ∧ va_D A ((wR) ++ (wD ++ wM ++ wT1 ++ wT2 ++ wK ++ wk0 ++ wk1 ++ wk2 ++ wk3 ++ wX ++ wO)) := by
  refine z_perm (fun q h => ?_) (fun x => ?_) hP hD
  · simp only [List.mem_append] at h ⊢; simp only [or_assoc] at h ⊢; rcases h with h | h | h | h | h | h | h | h | h | h | h | h <;> simp only [h, true_or, or_true]
  · simp only [List.map_append, List.count_append]; omega

theorem zp_22 {A : Nat → Prop} {D : va_G} {cl : List vw_C} {H : Heap} {wD wM wT1 wT2 wK wk0 wk1 wk2 wk3 wX wR wO : va_W} (hP : va_P D cl (wD ++ wM ++ wT1 ++ wT2 ++ wK ++ wk0 ++ wk1 ++ wk2 ++ wk3 ++ wX ++ wR ++ wO) H) (hD : va_D A (wD ++ wM ++ wT1 ++ wT2 ++ wK ++ wk0 ++ wk1 ++ wk2 ++ wk3 ++ wX ++ wR ++ wO)) : va_P D cl ((wD ++ wM ++ wX ++ wK ++ wk0 ++ wk1 ++ wk2 ++ wk3) ++ (wT1 ++ wT2 ++ wR ++ wO)) H ∧ va_D A ((wD ++ wM ++ wX ++ wK ++ wk0 ++ wk1 ++ wk2 ++ wk3) ++ (wT1 ++ wT2 ++ wR ++ wO)) := by
  refine z_perm (fun q h => ?_) (fun x => ?_) hP hD
  · simp only [List.mem_append] at h ⊢; simp only [or_assoc] at h ⊢; rcases h with h | h | h | h | h | h | h | h | h | h | h | h <;> simp only [h, true_or, or_true]
  · simp only [List.map_append, List.count_append]; omega

theorem zp_23 {A : Nat → Prop} {D : va_G} {cl : List vw_C} {H : Heap} {wD wM wT1 wT2 wK wk0 wk1 wk2 wk3 wX wR wO : va_W} (hP : va_P D cl ((wD ++ wM ++ wX ++ wK ++ wk0 ++ wk1 ++ wk2 ++ wk3) ++ (wT1 ++ wT2 ++ wR ++ wO)) H) (hD : va_D A ((wD ++ wM ++ wX ++ wK ++ wk0 ++ wk1 ++ wk2 ++ wk3) ++ (wT1 ++ wT2 ++ wR ++ wO))) : va_P D cl ((wR) ++ (wD ++ wM ++ wT1 ++ wT2 ++ wK ++ wk0 ++ wk1 ++ wk2 ++ wk3 ++ wX ++ wO)) H ∧ va_D A ((wR) ++ (wD ++ wM ++ wT1 ++ wT2 ++ wK ++ wk0 ++ wk1 ++ wk2 ++ wk3 ++ wX ++ wO)) := by
  refine z_perm (fun q h => ?_) (fun x => ?_) hP hD
  · simp only [List.mem_append] at h ⊢; simp only [or_assoc] at h ⊢; rcases h with h | h | h | h | h | h | h | h | h | h | h | h <;> simp only [h, true_or, or_true]
  · simp only [List.map_append, List.count_append]; omega

theorem zp_24 {A : Nat → Prop} {D : va_G} {cl : List vw_C} {H : Heap} {wD wM wT1 wT2 wK wk0 wk1 wk2 wk3 wX wR wO : va_W} (hP : va_P D cl (wD ++ wM ++ wT1 ++ wT2 ++ wK ++ wk0 ++ wk1 ++ wk2 ++ wk3 ++ wX ++ wR ++ wO) H) (hD : va_D A (wD ++ wM ++ wT1 ++ wT2 ++ wK ++ wk0 ++ wk1 ++ wk2 ++ wk3 ++ wX ++ wR ++ wO)) : va_P D cl ((wD ++ wM ++ wT1 ++ wK ++ wX) ++ (wT2 ++ wk0 ++ wk1 ++ wk2 ++ wk3 ++ wR ++ wO)) H ∧ va_D A ((wD ++ wM ++ wT1 ++ wK ++ wX) ++ (wT2 ++ wk0 ++ wk1 ++ wk2 ++ wk3 ++ wR ++ wO)) := by
  refine z_perm (fun q h => ?_) (fun x => ?_) hP hD
  · simp only [List.mem_append] at h ⊢; simp only [or_assoc] at h ⊢; rcases h with h | h | h | h | h | h | h | h | h | h | h | h <;> simp only [h, true_or, or_true]
  · simp only [List.map_append, List.count_append]; omega

theorem zp_25 {A : Nat → Prop} {D : va_G} {cl : List vw_C} {H : Heap} {wD wM wT1 wT2 wK wk0 wk1 wk2 wk3 wX wR wO : va_W} (hP : va_P D cl ((wD ++ wM ++ wT1 ++ wK ++ wX) ++ (wT2 ++ wk0 ++ wk1 ++ wk2 ++ wk3 ++ wR ++ wO)) H) (hD : va_D A ((wD ++ wM ++ wT1 ++ wK ++ wX) ++ (wT2 ++ wk0 ++ wk1 ++ wk2 ++ wk3 ++ wR ++ wO))) : va_P D cl ((wR) ++ (wD ++ wM ++ wT1 ++ wT2 ++ wK ++ wk0 ++ wk1 ++ wk2 ++ wk3 ++ wX ++ wO)) H ∧ va_D A ((wR) ++ (wD ++ wM ++ wT1 ++ wT2 ++ wK ++ wk0 ++ wk1 ++ wk2 ++ wk3 ++ wX ++ wO)) := by
  refine z_perm (fun q h => ?_) (fun x => ?_) hP hD
  · simp only [List.mem_append] at h ⊢; simp only [or_assoc] at h ⊢; rcases h with h | h | h | h | h | h | h | h | h | h | h | h <;> simp only [h, true_or, or_true]
  · simp only [List.map_append, List.count_append]; omega

set_option maxHeartbeats 4000000 in
set_option maxRecDepth 100000 in
theorem law_setCam {pq : Program} (l : Launch) {eq : Env} {s : State} {mq : MethodId} {below : List Frame} {meth : Method} {cq : Code} {A : Nat → Prop} {D : va_G} {cs : zCs} {b Ls i : Nat} {xs : Nat → Int32} {H : Heap} {locs : List Loc} {ls : Array Slot} {cells slots : Nat} {Q : State → Prop} {ad kd : Nat → Nat → Nat} {a : Nat → Nat} {ou : Nat} {S : Nat → Int32} {F : Nat → Nat → Int32} {TS : Nat → Int32} {TF : Nat → Nat → Int32} {ES : Nat → Int32} {EF : Nat → Nat → Int32} {HS : Nat → Int32} {KS : Nat → Nat → Int32} {KF : Nat → Nat → Nat → Int32} {X : Nat → Int32} {B : Nat → Nat → Int32} {V : Nat → Int32} {G : Nat → Nat → Int32} {OL : Nat → Int64} {p n L : Nat} (hfl : l.stackTraces = false) (hx : pq.tables.exec = Jvm.exec) (hb : cq.code = cL_law) (hml : cq.maxLocals = 9) (hown : s.vm.findClass RL = some mq.cls) (hts : ∀ w ∈ wsG, w.before #[Value.ref b] s = true) (hXs : va_X b Ls xs s s.heap) (hbl : b < s.heap.size) (hbA : ¬ A b) (hE : zE A s) (hK : va_K D vwCl (zT cs) s) (hA : ∀ q : Nat, s.heap.size ≤ q → A q) (hLs : Ls ≤ 2560) (hi : i + 5 ≤ Ls) (hce : cells + 3 ≤ 601024) (hsl : slots + 18 ≤ 7293034) (hR : lwR S F HS KS KF X B V G p n L) (hP : va_P D vwCl ((camW ad) ++ (macW cs (ad 0) S F) ++ (macW cs (ad 1) TS TF) ++ (macW cs (ad 2) ES EF) ++ (hisW cs (ad 4) kd HS) ++ (macW cs (kd 0) (KS 0) (KF 0)) ++ (macW cs (kd 1) (KS 1) (KF 1)) ++ (macW cs (kd 2) (KS 2) (KF 2)) ++ (macW cs (kd 3) (KS 3) (KF 3)) ++ (txtW cs (ad 5) X B) ++ (refW cs a V G) ++ [(ou, .inl (cs.2.1, 1, .inr (.inl OL)))]) H) (hD : va_D A ((camW ad) ++ (macW cs (ad 0) S F) ++ (macW cs (ad 1) TS TF) ++ (macW cs (ad 2) ES EF) ++ (hisW cs (ad 4) kd HS) ++ (macW cs (kd 0) (KS 0) (KF 0)) ++ (macW cs (kd 1) (KS 1) (KF 1)) ++ (macW cs (kd 2) (KS 2) (KF 2)) ++ (macW cs (kd 3) (KS 3) (KF 3)) ++ (txtW cs (ad 5) X B) ++ (refW cs a V G) ++ [(ou, .inl (cs.2.1, 1, .inr (.inl OL)))])) (hS : va_S A s.heap H locs) (hl : lv_has ls 9 [(0, .ref b), (1, .ref (ad 3 0)), (2, .ref (a 0)), (3, .ref ou), (4, .int (nI i))]) (kk : ∀ (w : va_W), lwI cs ad kd a ou w → ∀ (H : Heap) (locs : List Loc) (ls : Array Slot), va_P D vwCl w H → va_D A w → va_S A s.heap H locs → lv_has ls 9 [(0, .ref b), (1, .ref (ad 3 0)), (2, .ref (a 0)), (3, .ref ou), (4, .int (nI i))] → W pq l eq room_1 s mq #[Value.ref b] below meth cq H locs (cells + 3) (slots + 18) Q (F0 mq 1447 ls [])) : W pq l eq room_1 s mq #[Value.ref b] below meth cq H locs cells slots Q (F0 mq 152 ls []) := by
  obtain ⟨⟨hp, hp4, hn, hn4, hsn⟩, hag, hrg, hX0, hL, h4, hGB, htx⟩ := id hR
  have e0 : G 0 0 = S 0 := agr_s hag (by omega)
  have e8 : G 0 8 = S 8 := agr_s hag (by omega)
  have e9 : G 0 9 = S 9 := agr_s hag (by omega)
  obtain ⟨hn2, hn16, hS0⟩ := lw_n0 hag
  obtain ⟨hg4, hS8, ez⟩ := lw_n8 hag
  have h0 : G 0 0 = nI (nN (S 0)) := e0.trans hS0
  have h8 : G 0 8 = nI (nN (S 8)) := e8.trans hS8
  have hok : rOK (G 0) := r_ok hag
  have ho : ∀ j, j < nN (S 8) → ∃ o, o < 5 ∧ G 0 (51 + 3 * j + 1) = nI o := lw_ho hag
  refine lv_aload_n hx hb dL_law_152 rfl (lv_at hl 1 rfl) ?_
  refine lv_aload_n hx hb dL_law_153 rfl (lv_at hl 0 rfl) ?_
  refine lv_iload hx hb dL_law_154 (lv_at hl 4 rfl) ?_
  refine lv_iconst (v := 1) hx hb dL_law_156 (by decide) ?_
  refine lv_iadd hx hb dL_law_157 ?_
  refine z_top (y := nI (i + 1)) (nI_add i 1) ?_
  refine z_scr (k := i + 1) hx hb hXs hbl hbA hS (by omega) hLs dL_law_158 ?_
  refine lv_aload_n hx hb dL_law_159 rfl (lv_at hl 0 rfl) ?_
  refine lv_iload hx hb dL_law_160 (lv_at hl 4 rfl) ?_
  refine lv_iconst (v := 2) hx hb dL_law_162 (by decide) ?_
  refine lv_iadd hx hb dL_law_163 ?_
  refine z_top (y := nI (i + 2)) (nI_add i 2) ?_
  refine z_scr (k := i + 2) hx hb hXs hbl hbA hS (by omega) hLs dL_law_164 ?_
  refine lv_aload_n hx hb dL_law_165 rfl (lv_at hl 0 rfl) ?_
  refine lv_iload hx hb dL_law_166 (lv_at hl 4 rfl) ?_
  refine lv_iconst (v := 3) hx hb dL_law_168 (by decide) ?_
  refine lv_iadd hx hb dL_law_169 ?_
  refine z_top (y := nI (i + 3)) (nI_add i 3) ?_
  refine z_scr (k := i + 3) hx hb hXs hbl hbA hS (by omega) hLs dL_law_170 ?_
  refine lv_if_eq (tgt := 178) hx hb dL_law_171 (by decide) (fun c_1 => ?_) (fun c_1 => ?_)
  · skip
    refine lv_iconst (v := 0) hx hb dL_law_178 (by decide) ?_
    refine lv_aload_n hx hb dL_law_179 rfl (lv_at hl 3 rfl) ?_
    by_cases w0 : 0 ≤ (xs (i + 1)) ∧ (xs (i + 1)) ≤ 4
    · skip
      by_cases w1 : 0 ≤ (xs (i + 2)) ∧ (xs (i + 2)) ≤ (S 0) - 1
      · skip
        obtain ⟨hP, hD⟩ := zp_1 hP hD
        refine z_lawH ⟨hx, hb, hml, hown, hts⟩ zYw_setCam w_st_yL_setCam w_ml_L_80 [.ref (ad 3 0), .int (xs (i + 1)), .int (xs (i + 2)), .int 0, .ref ou] [] (c_L_setCam_ok l D cs hfl ad S F kd HS KS KF p n (xs (i + 1)) (xs (i + 2)) 0 ou OL hp hp4 hn hn4 (by rw [exT_t w0, exT_t w1])) hE hK hA hP hD hS (z_la (z_la (z_la (z_la (z_la (z_la (z_la rfl (z_lm _ _ _ _ _ _)) (z_lh _ _ _ _ _)) (z_lm _ _ _ _ _ _)) (z_lm _ _ _ _ _ _)) (z_lm _ _ _ _ _ _)) (z_lm _ _ _ _ _ _)) (z_lo _ _ _ _)) rfl hl.1 (Nat.le_of_ble_eq_true rfl) ⟨Nat.le_of_ble_eq_true rfl, Nat.le_of_ble_eq_true rfl⟩ ⟨by show _ ≤ 601024; omega, by show _ ≤ 7293034; omega⟩ dL_law_180 (fun H locs hP hD hS => ?_)
        refine lv_istore (lv' := [(5, .int 0), (0, .ref b), (1, .ref (ad 3 0)), (2, .ref (a 0)), (3, .ref ou), (4, .int (nI i))]) hx hb dL_law_183 hl (by decide) rfl (fun ls hl => ?_)
        refine lv_aload_n hx hb dL_law_185 rfl (lv_at hl 3 rfl) ?_
        refine lv_aload_n hx hb dL_law_186 rfl (lv_at hl 1 rfl) ?_
        refine lv_iload hx hb dL_law_187 (lv_at hl 5 rfl) ?_
        refine lv_iconst (v := 1) hx hb dL_law_189 (by decide) ?_
        refine lv_iadd hx hb dL_law_190 ?_
        refine z_top (y := nI (i + 1)) (nI_add i 1) ?_
        refine z_scr (k := i + 1) hx hb hXs hbl hbA hS (by omega) hLs dL_law_191 ?_
        refine lv_aload_n hx hb dL_law_192 rfl (lv_at hl 1 rfl) ?_
        refine lv_iload hx hb dL_law_193 (lv_at hl 5 rfl) ?_
        refine lv_iconst (v := 2) hx hb dL_law_195 (by decide) ?_
        refine lv_iadd hx hb dL_law_196 ?_
        refine z_top (y := nI (i + 2)) (nI_add i 2) ?_
        refine z_scr (k := i + 2) hx hb hXs hbl hbA hS (by omega) hLs dL_law_197 ?_
        refine lv_aload_n hx hb dL_law_198 rfl (lv_at hl 1 rfl) ?_
        refine lv_iload hx hb dL_law_199 (lv_at hl 5 rfl) ?_
        refine lv_iconst (v := 3) hx hb dL_law_201 (by decide) ?_
        refine lv_iadd hx hb dL_law_202 ?_
        refine z_top (y := nI (i + 3)) (nI_add i 3) ?_
        refine z_scr (k := i + 3) hx hb hXs hbl hbA hS (by omega) hLs dL_law_203 ?_
        refine lv_if_eq (tgt := 211) hx hb dL_law_204 (by decide) (fun c_2 => ?_) (fun c_2 => ?_)
        · skip
          refine lv_iconst (v := 0) hx hb dL_law_211 (by decide) ?_
          obtain ⟨hP, hD⟩ := zp_2 hP hD
          refine z_lawV ⟨hx, hb, hml, hown, hts⟩ zY_X8_setCam w_im_yX8_setCam w_se_yX8_setCam w_ml_L_85 [.int (xs (i + 1)), .int (xs (i + 2)), .int 0] [] (c_X8_setCam_ok l D cs a V G n (nN (S 0)) (xs (i + 1)) (xs (i + 2)) 0 hsn hn4 h0 hn16 w0 (by rw [e0]; exact w1)) hE hK hA hP hD hS (z_lr _ _ _ _ _ _) 8 rfl rfl rfl rfl hl.1 (Nat.le_of_ble_eq_true rfl) ⟨Nat.le_of_ble_eq_true rfl, Nat.le_of_ble_eq_true rfl⟩ ⟨by show _ ≤ 601024; omega, by show _ ≤ 7293034; omega⟩ dL_law_212 (fun H locs hP hD hS => ?_)
          refine lv_istore (lv' := [(6, .int (rCamsN (upd (G 0) (16 + nN (xs (i + 1))) (rCam ((G 0) (16 + nN (xs (i + 1)))) (xs (i + 2)) (0))) (nN (xs (i + 1))) 16)), (5, .int 0), (0, .ref b), (1, .ref (ad 3 0)), (2, .ref (a 0)), (3, .ref ou), (4, .int (nI i))]) hx hb dL_law_215 hl (by decide) rfl (fun ls hl => ?_)
          refine lv_aload_n hx hb dL_law_217 rfl (lv_at hl 4 rfl) ?_
          refine z_lawV ⟨hx, hb, hml, hown, hts⟩ zY_X8_thrown w_im_yX8_thrown w_se_yX8_thrown w_ml_L_86 [] [] (c_X8_thrown l D cs a ((upd (upd V 0 (nI (min (n + 1) 4))) 1 0)) ((zU (zU G 0 (upd (G 0) (16 + nN (xs (i + 1))) (rCam ((G 0) (16 + nN (xs (i + 1)))) (xs (i + 2)) (0)))) 1 (svF n (G 1) (G 0))))) hE hK hA hP hD hS (z_lr _ _ _ _ _ _) 8 rfl rfl rfl rfl hl.1 (Nat.le_of_ble_eq_true rfl) ⟨Nat.le_of_ble_eq_true rfl, Nat.le_of_ble_eq_true rfl⟩ ⟨by show _ ≤ 601024; omega, by show _ ≤ 7293034; omega⟩ dL_law_218 (fun H locs hP hD hS => ?_)
          refine z_top (y := 0) rfl ?_
          refine lv_iload hx hb dL_law_221 (lv_at hl 1 rfl) ?_
          refine lv_icmp_eq (tgt := 228) hx hb dL_law_223 (by decide) (fun c_3 => ?_) (fun c_3 => ?_)
          · skip
            refine lv_iload hx hb dL_law_228 (lv_at hl 1 rfl) ?_
            refine lv_if_ne (tgt := 245) hx hb dL_law_230 (by decide) (fun c_4 => ?_) (fun c_4 => ?_)
            · skip
              first | exact absurd c_4 (by decide) | exact absurd (by decide) c_4 | exact absurd rfl c_4
            · skip
              refine lv_aload_n hx hb dL_law_233 rfl (lv_at hl 5 rfl) ?_
              refine lv_iconst (v := 0) hx hb dL_law_234 (by decide) ?_
              obtain ⟨hP, hD⟩ := zp_3 hP hD
              refine z_lout (q0 := 0) (v := (jbc (camPut ((F 0) (nN (xs (i + 1)))) (xs (i + 2)) (0))).toInt64) hx hb hK hP rfl dL_law_235 rfl ?_
              refine lv_iload hx hb dL_law_236 (lv_at hl 0 rfl) ?_
              refine lv_i2l (v := (rCamsN (upd (G 0) (16 + nN (xs (i + 1))) (rCam ((G 0) (16 + nN (xs (i + 1)))) (xs (i + 2)) (0))) (nN (xs (i + 1))) 16).toInt64) hx hb dL_law_238 rfl ?_
              refine z_lcmp_eq (tgt := 245) hx hb dL_law_239 dL_law_240 (by decide) (fun c_5 => ?_) (fun c_5 => ?_)
              · skip
                refine lv_goto (tgt := 1447) hx hb dL_law_245 (by decide) ?_
                obtain ⟨hP, hD⟩ := zp_4 hP hD
                refine W.widen (k := cells + 3) (n := slots + 18) (by omega) (by omega) ?_
                exact kk _ ⟨S, (zU F 0 (upd (F 0) (nN (xs (i + 1))) (camPut ((F 0) (nN (xs (i + 1)))) (xs (i + 2)) (0)))), TS, TF, ES, EF, (upd (upd HS 0 (nI (hNx p))) 1 (nI (min (n + 1) 4))), (kup KS (hNx p) S), (kup KF (hNx p) F), X, B, (upd (upd V 0 (nI (min (n + 1) 4))) 1 0), (zU (zU G 0 (upd (G 0) (16 + nN (xs (i + 1))) (rCam ((G 0) (16 + nN (xs (i + 1)))) (xs (i + 2)) (0)))) 1 (svF n (G 1) (G 0))), (vp_updL OL 0 (jbc (camPut ((F 0) (nN (xs (i + 1)))) (xs (i + 2)) (0))).toInt64), (hNx p), (min (n + 1) 4), L, rfl, (lwR_save hR (s_setCam hag w0 w1).1 rfl rfl rfl rfl rfl rfl rfl)⟩ _ _ _ hP hD hS (lv_sub hl [2, 3, 4, 5, 6] rfl)
              · exact absurd (congrArg Int32.toInt64 ((s_setCam hag w0 w1).2.symm)) c_5
          · skip
            first | exact absurd c_3 (by decide) | exact absurd (by decide) c_3 | exact absurd rfl c_3
        · skip
          exact absurd c_1 c_2
      · skip
        obtain ⟨hP, hD⟩ := zp_1 hP hD
        refine z_lawH ⟨hx, hb, hml, hown, hts⟩ zYw_setCam w_st_yL_setCam w_ml_L_80 [.ref (ad 3 0), .int (xs (i + 1)), .int (xs (i + 2)), .int 0, .ref ou] [] (c_L_setCam_e1 l D cs hfl ad S F kd HS KS KF p n (xs (i + 1)) (xs (i + 2)) 0 ou OL hp hp4 hn hn4 (by rw [exT_t w0, exT_f w1])) hE hK hA hP hD hS (z_la (z_la (z_la (z_la (z_la (z_la (z_la rfl (z_lm _ _ _ _ _ _)) (z_lh _ _ _ _ _)) (z_lm _ _ _ _ _ _)) (z_lm _ _ _ _ _ _)) (z_lm _ _ _ _ _ _)) (z_lm _ _ _ _ _ _)) (z_lo _ _ _ _)) rfl hl.1 (Nat.le_of_ble_eq_true rfl) ⟨Nat.le_of_ble_eq_true rfl, Nat.le_of_ble_eq_true rfl⟩ ⟨by show _ ≤ 601024; omega, by show _ ≤ 7293034; omega⟩ dL_law_180 (fun H locs hP hD hS => ?_)
        refine lv_istore (lv' := [(5, .int 1), (0, .ref b), (1, .ref (ad 3 0)), (2, .ref (a 0)), (3, .ref ou), (4, .int (nI i))]) hx hb dL_law_183 hl (by decide) rfl (fun ls hl => ?_)
        refine lv_aload_n hx hb dL_law_185 rfl (lv_at hl 3 rfl) ?_
        refine lv_aload_n hx hb dL_law_186 rfl (lv_at hl 1 rfl) ?_
        refine lv_iload hx hb dL_law_187 (lv_at hl 5 rfl) ?_
        refine lv_iconst (v := 1) hx hb dL_law_189 (by decide) ?_
        refine lv_iadd hx hb dL_law_190 ?_
        refine z_top (y := nI (i + 1)) (nI_add i 1) ?_
        refine z_scr (k := i + 1) hx hb hXs hbl hbA hS (by omega) hLs dL_law_191 ?_
        refine lv_aload_n hx hb dL_law_192 rfl (lv_at hl 1 rfl) ?_
        refine lv_iload hx hb dL_law_193 (lv_at hl 5 rfl) ?_
        refine lv_iconst (v := 2) hx hb dL_law_195 (by decide) ?_
        refine lv_iadd hx hb dL_law_196 ?_
        refine z_top (y := nI (i + 2)) (nI_add i 2) ?_
        refine z_scr (k := i + 2) hx hb hXs hbl hbA hS (by omega) hLs dL_law_197 ?_
        refine lv_aload_n hx hb dL_law_198 rfl (lv_at hl 1 rfl) ?_
        refine lv_iload hx hb dL_law_199 (lv_at hl 5 rfl) ?_
        refine lv_iconst (v := 3) hx hb dL_law_201 (by decide) ?_
        refine lv_iadd hx hb dL_law_202 ?_
        refine z_top (y := nI (i + 3)) (nI_add i 3) ?_
        refine z_scr (k := i + 3) hx hb hXs hbl hbA hS (by omega) hLs dL_law_203 ?_
        refine lv_if_eq (tgt := 211) hx hb dL_law_204 (by decide) (fun c_6 => ?_) (fun c_6 => ?_)
        · skip
          refine lv_iconst (v := 0) hx hb dL_law_211 (by decide) ?_
          obtain ⟨hP, hD⟩ := zp_2 hP hD
          refine z_lawV ⟨hx, hb, hml, hown, hts⟩ zY_X8_setCam w_im_yX8_setCam w_se_yX8_setCam w_ml_L_85 [.int (xs (i + 1)), .int (xs (i + 2)), .int 0] [] (c_X8_setCam_t1 l D cs a V G n (nN (S 0)) (xs (i + 1)) (xs (i + 2)) 0 hsn hn4 h0 hn16 (fun z => w1 (by rw [← e0]; exact z.2))) hE hK hA hP hD hS (z_lr _ _ _ _ _ _) 8 rfl rfl rfl rfl hl.1 (Nat.le_of_ble_eq_true rfl) ⟨Nat.le_of_ble_eq_true rfl, Nat.le_of_ble_eq_true rfl⟩ ⟨by show _ ≤ 601024; omega, by show _ ≤ 7293034; omega⟩ dL_law_212 (fun H locs hP hD hS => ?_)
          refine lv_istore (lv' := [(6, .int 0), (5, .int 1), (0, .ref b), (1, .ref (ad 3 0)), (2, .ref (a 0)), (3, .ref ou), (4, .int (nI i))]) hx hb dL_law_215 hl (by decide) rfl (fun ls hl => ?_)
          refine lv_aload_n hx hb dL_law_217 rfl (lv_at hl 4 rfl) ?_
          refine z_lawV ⟨hx, hb, hml, hown, hts⟩ zY_X8_thrown w_im_yX8_thrown w_se_yX8_thrown w_ml_L_86 [] [] (c_X8_thrown l D cs a ((upd V 1 1)) G) hE hK hA hP hD hS (z_lr _ _ _ _ _ _) 8 rfl rfl rfl rfl hl.1 (Nat.le_of_ble_eq_true rfl) ⟨Nat.le_of_ble_eq_true rfl, Nat.le_of_ble_eq_true rfl⟩ ⟨by show _ ≤ 601024; omega, by show _ ≤ 7293034; omega⟩ dL_law_218 (fun H locs hP hD hS => ?_)
          refine z_top (y := 1) rfl ?_
          refine lv_iload hx hb dL_law_221 (lv_at hl 1 rfl) ?_
          refine lv_icmp_eq (tgt := 228) hx hb dL_law_223 (by decide) (fun c_7 => ?_) (fun c_7 => ?_)
          · skip
            refine lv_iload hx hb dL_law_228 (lv_at hl 1 rfl) ?_
            refine lv_if_ne (tgt := 245) hx hb dL_law_230 (by decide) (fun c_8 => ?_) (fun c_8 => ?_)
            · skip
              refine lv_goto (tgt := 1447) hx hb dL_law_245 (by decide) ?_
              obtain ⟨hP, hD⟩ := zp_5 hP hD
              refine W.widen (k := cells + 3) (n := slots + 18) (by omega) (by omega) ?_
              exact kk _ ⟨S, F, TS, TF, ES, EF, HS, KS, KF, X, B, (upd V 1 1), G, OL, p, n, L, rfl, (lwR_v hR rfl rfl)⟩ _ _ _ hP hD hS (lv_sub hl [2, 3, 4, 5, 6] rfl)
            · skip
              first | exact absurd c_8 (by decide) | exact absurd (by decide) c_8 | exact absurd rfl c_8
          · skip
            first | exact absurd c_7 (by decide) | exact absurd (by decide) c_7 | exact absurd rfl c_7
        · skip
          exact absurd c_1 c_6
    · skip
      obtain ⟨hP, hD⟩ := zp_1 hP hD
      refine z_lawH ⟨hx, hb, hml, hown, hts⟩ zYw_setCam w_st_yL_setCam w_ml_L_80 [.ref (ad 3 0), .int (xs (i + 1)), .int (xs (i + 2)), .int 0, .ref ou] [] (c_L_setCam_e1 l D cs hfl ad S F kd HS KS KF p n (xs (i + 1)) (xs (i + 2)) 0 ou OL hp hp4 hn hn4 (by rw [exT_f w0])) hE hK hA hP hD hS (z_la (z_la (z_la (z_la (z_la (z_la (z_la rfl (z_lm _ _ _ _ _ _)) (z_lh _ _ _ _ _)) (z_lm _ _ _ _ _ _)) (z_lm _ _ _ _ _ _)) (z_lm _ _ _ _ _ _)) (z_lm _ _ _ _ _ _)) (z_lo _ _ _ _)) rfl hl.1 (Nat.le_of_ble_eq_true rfl) ⟨Nat.le_of_ble_eq_true rfl, Nat.le_of_ble_eq_true rfl⟩ ⟨by show _ ≤ 601024; omega, by show _ ≤ 7293034; omega⟩ dL_law_180 (fun H locs hP hD hS => ?_)
      refine lv_istore (lv' := [(5, .int 1), (0, .ref b), (1, .ref (ad 3 0)), (2, .ref (a 0)), (3, .ref ou), (4, .int (nI i))]) hx hb dL_law_183 hl (by decide) rfl (fun ls hl => ?_)
      refine lv_aload_n hx hb dL_law_185 rfl (lv_at hl 3 rfl) ?_
      refine lv_aload_n hx hb dL_law_186 rfl (lv_at hl 1 rfl) ?_
      refine lv_iload hx hb dL_law_187 (lv_at hl 5 rfl) ?_
      refine lv_iconst (v := 1) hx hb dL_law_189 (by decide) ?_
      refine lv_iadd hx hb dL_law_190 ?_
      refine z_top (y := nI (i + 1)) (nI_add i 1) ?_
      refine z_scr (k := i + 1) hx hb hXs hbl hbA hS (by omega) hLs dL_law_191 ?_
      refine lv_aload_n hx hb dL_law_192 rfl (lv_at hl 1 rfl) ?_
      refine lv_iload hx hb dL_law_193 (lv_at hl 5 rfl) ?_
      refine lv_iconst (v := 2) hx hb dL_law_195 (by decide) ?_
      refine lv_iadd hx hb dL_law_196 ?_
      refine z_top (y := nI (i + 2)) (nI_add i 2) ?_
      refine z_scr (k := i + 2) hx hb hXs hbl hbA hS (by omega) hLs dL_law_197 ?_
      refine lv_aload_n hx hb dL_law_198 rfl (lv_at hl 1 rfl) ?_
      refine lv_iload hx hb dL_law_199 (lv_at hl 5 rfl) ?_
      refine lv_iconst (v := 3) hx hb dL_law_201 (by decide) ?_
      refine lv_iadd hx hb dL_law_202 ?_
      refine z_top (y := nI (i + 3)) (nI_add i 3) ?_
      refine z_scr (k := i + 3) hx hb hXs hbl hbA hS (by omega) hLs dL_law_203 ?_
      refine lv_if_eq (tgt := 211) hx hb dL_law_204 (by decide) (fun c_9 => ?_) (fun c_9 => ?_)
      · skip
        refine lv_iconst (v := 0) hx hb dL_law_211 (by decide) ?_
        obtain ⟨hP, hD⟩ := zp_2 hP hD
        refine z_lawV ⟨hx, hb, hml, hown, hts⟩ zY_X8_setCam w_im_yX8_setCam w_se_yX8_setCam w_ml_L_85 [.int (xs (i + 1)), .int (xs (i + 2)), .int 0] [] (c_X8_setCam_t1 l D cs a V G n (nN (S 0)) (xs (i + 1)) (xs (i + 2)) 0 hsn hn4 h0 hn16 (fun z => w0 z.1)) hE hK hA hP hD hS (z_lr _ _ _ _ _ _) 8 rfl rfl rfl rfl hl.1 (Nat.le_of_ble_eq_true rfl) ⟨Nat.le_of_ble_eq_true rfl, Nat.le_of_ble_eq_true rfl⟩ ⟨by show _ ≤ 601024; omega, by show _ ≤ 7293034; omega⟩ dL_law_212 (fun H locs hP hD hS => ?_)
        refine lv_istore (lv' := [(6, .int 0), (5, .int 1), (0, .ref b), (1, .ref (ad 3 0)), (2, .ref (a 0)), (3, .ref ou), (4, .int (nI i))]) hx hb dL_law_215 hl (by decide) rfl (fun ls hl => ?_)
        refine lv_aload_n hx hb dL_law_217 rfl (lv_at hl 4 rfl) ?_
        refine z_lawV ⟨hx, hb, hml, hown, hts⟩ zY_X8_thrown w_im_yX8_thrown w_se_yX8_thrown w_ml_L_86 [] [] (c_X8_thrown l D cs a ((upd V 1 1)) G) hE hK hA hP hD hS (z_lr _ _ _ _ _ _) 8 rfl rfl rfl rfl hl.1 (Nat.le_of_ble_eq_true rfl) ⟨Nat.le_of_ble_eq_true rfl, Nat.le_of_ble_eq_true rfl⟩ ⟨by show _ ≤ 601024; omega, by show _ ≤ 7293034; omega⟩ dL_law_218 (fun H locs hP hD hS => ?_)
        refine z_top (y := 1) rfl ?_
        refine lv_iload hx hb dL_law_221 (lv_at hl 1 rfl) ?_
        refine lv_icmp_eq (tgt := 228) hx hb dL_law_223 (by decide) (fun c_10 => ?_) (fun c_10 => ?_)
        · skip
          refine lv_iload hx hb dL_law_228 (lv_at hl 1 rfl) ?_
          refine lv_if_ne (tgt := 245) hx hb dL_law_230 (by decide) (fun c_11 => ?_) (fun c_11 => ?_)
          · skip
            refine lv_goto (tgt := 1447) hx hb dL_law_245 (by decide) ?_
            obtain ⟨hP, hD⟩ := zp_5 hP hD
            refine W.widen (k := cells + 3) (n := slots + 18) (by omega) (by omega) ?_
            exact kk _ ⟨S, F, TS, TF, ES, EF, HS, KS, KF, X, B, (upd V 1 1), G, OL, p, n, L, rfl, (lwR_v hR rfl rfl)⟩ _ _ _ hP hD hS (lv_sub hl [2, 3, 4, 5, 6] rfl)
          · skip
            first | exact absurd c_11 (by decide) | exact absurd (by decide) c_11 | exact absurd rfl c_11
        · skip
          first | exact absurd c_10 (by decide) | exact absurd (by decide) c_10 | exact absurd rfl c_10
      · skip
        exact absurd c_1 c_9
  · skip
    refine lv_iconst (v := 1) hx hb dL_law_174 (by decide) ?_
    refine lv_goto (tgt := 179) hx hb dL_law_175 (by decide) ?_
    refine lv_aload_n hx hb dL_law_179 rfl (lv_at hl 3 rfl) ?_
    by_cases w0 : 0 ≤ (xs (i + 1)) ∧ (xs (i + 1)) ≤ 4
    · skip
      by_cases w1 : 0 ≤ (xs (i + 2)) ∧ (xs (i + 2)) ≤ (S 0) - 1
      · skip
        obtain ⟨hP, hD⟩ := zp_1 hP hD
        refine z_lawH ⟨hx, hb, hml, hown, hts⟩ zYw_setCam w_st_yL_setCam w_ml_L_80 [.ref (ad 3 0), .int (xs (i + 1)), .int (xs (i + 2)), .int 1, .ref ou] [] (c_L_setCam_ok l D cs hfl ad S F kd HS KS KF p n (xs (i + 1)) (xs (i + 2)) 1 ou OL hp hp4 hn hn4 (by rw [exT_t w0, exT_t w1])) hE hK hA hP hD hS (z_la (z_la (z_la (z_la (z_la (z_la (z_la rfl (z_lm _ _ _ _ _ _)) (z_lh _ _ _ _ _)) (z_lm _ _ _ _ _ _)) (z_lm _ _ _ _ _ _)) (z_lm _ _ _ _ _ _)) (z_lm _ _ _ _ _ _)) (z_lo _ _ _ _)) rfl hl.1 (Nat.le_of_ble_eq_true rfl) ⟨Nat.le_of_ble_eq_true rfl, Nat.le_of_ble_eq_true rfl⟩ ⟨by show _ ≤ 601024; omega, by show _ ≤ 7293034; omega⟩ dL_law_180 (fun H locs hP hD hS => ?_)
        refine lv_istore (lv' := [(5, .int 0), (0, .ref b), (1, .ref (ad 3 0)), (2, .ref (a 0)), (3, .ref ou), (4, .int (nI i))]) hx hb dL_law_183 hl (by decide) rfl (fun ls hl => ?_)
        refine lv_aload_n hx hb dL_law_185 rfl (lv_at hl 3 rfl) ?_
        refine lv_aload_n hx hb dL_law_186 rfl (lv_at hl 1 rfl) ?_
        refine lv_iload hx hb dL_law_187 (lv_at hl 5 rfl) ?_
        refine lv_iconst (v := 1) hx hb dL_law_189 (by decide) ?_
        refine lv_iadd hx hb dL_law_190 ?_
        refine z_top (y := nI (i + 1)) (nI_add i 1) ?_
        refine z_scr (k := i + 1) hx hb hXs hbl hbA hS (by omega) hLs dL_law_191 ?_
        refine lv_aload_n hx hb dL_law_192 rfl (lv_at hl 1 rfl) ?_
        refine lv_iload hx hb dL_law_193 (lv_at hl 5 rfl) ?_
        refine lv_iconst (v := 2) hx hb dL_law_195 (by decide) ?_
        refine lv_iadd hx hb dL_law_196 ?_
        refine z_top (y := nI (i + 2)) (nI_add i 2) ?_
        refine z_scr (k := i + 2) hx hb hXs hbl hbA hS (by omega) hLs dL_law_197 ?_
        refine lv_aload_n hx hb dL_law_198 rfl (lv_at hl 1 rfl) ?_
        refine lv_iload hx hb dL_law_199 (lv_at hl 5 rfl) ?_
        refine lv_iconst (v := 3) hx hb dL_law_201 (by decide) ?_
        refine lv_iadd hx hb dL_law_202 ?_
        refine z_top (y := nI (i + 3)) (nI_add i 3) ?_
        refine z_scr (k := i + 3) hx hb hXs hbl hbA hS (by omega) hLs dL_law_203 ?_
        refine lv_if_eq (tgt := 211) hx hb dL_law_204 (by decide) (fun c_12 => ?_) (fun c_12 => ?_)
        · skip
          exact absurd c_12 c_1
        · skip
          refine lv_iconst (v := 1) hx hb dL_law_207 (by decide) ?_
          refine lv_goto (tgt := 212) hx hb dL_law_208 (by decide) ?_
          obtain ⟨hP, hD⟩ := zp_2 hP hD
          refine z_lawV ⟨hx, hb, hml, hown, hts⟩ zY_X8_setCam w_im_yX8_setCam w_se_yX8_setCam w_ml_L_85 [.int (xs (i + 1)), .int (xs (i + 2)), .int 1] [] (c_X8_setCam_ok l D cs a V G n (nN (S 0)) (xs (i + 1)) (xs (i + 2)) 1 hsn hn4 h0 hn16 w0 (by rw [e0]; exact w1)) hE hK hA hP hD hS (z_lr _ _ _ _ _ _) 8 rfl rfl rfl rfl hl.1 (Nat.le_of_ble_eq_true rfl) ⟨Nat.le_of_ble_eq_true rfl, Nat.le_of_ble_eq_true rfl⟩ ⟨by show _ ≤ 601024; omega, by show _ ≤ 7293034; omega⟩ dL_law_212 (fun H locs hP hD hS => ?_)
          refine lv_istore (lv' := [(6, .int (rCamsN (upd (G 0) (16 + nN (xs (i + 1))) (rCam ((G 0) (16 + nN (xs (i + 1)))) (xs (i + 2)) (1))) (nN (xs (i + 1))) 16)), (5, .int 0), (0, .ref b), (1, .ref (ad 3 0)), (2, .ref (a 0)), (3, .ref ou), (4, .int (nI i))]) hx hb dL_law_215 hl (by decide) rfl (fun ls hl => ?_)
          refine lv_aload_n hx hb dL_law_217 rfl (lv_at hl 4 rfl) ?_
          refine z_lawV ⟨hx, hb, hml, hown, hts⟩ zY_X8_thrown w_im_yX8_thrown w_se_yX8_thrown w_ml_L_86 [] [] (c_X8_thrown l D cs a ((upd (upd V 0 (nI (min (n + 1) 4))) 1 0)) ((zU (zU G 0 (upd (G 0) (16 + nN (xs (i + 1))) (rCam ((G 0) (16 + nN (xs (i + 1)))) (xs (i + 2)) (1)))) 1 (svF n (G 1) (G 0))))) hE hK hA hP hD hS (z_lr _ _ _ _ _ _) 8 rfl rfl rfl rfl hl.1 (Nat.le_of_ble_eq_true rfl) ⟨Nat.le_of_ble_eq_true rfl, Nat.le_of_ble_eq_true rfl⟩ ⟨by show _ ≤ 601024; omega, by show _ ≤ 7293034; omega⟩ dL_law_218 (fun H locs hP hD hS => ?_)
          refine z_top (y := 0) rfl ?_
          refine lv_iload hx hb dL_law_221 (lv_at hl 1 rfl) ?_
          refine lv_icmp_eq (tgt := 228) hx hb dL_law_223 (by decide) (fun c_13 => ?_) (fun c_13 => ?_)
          · skip
            refine lv_iload hx hb dL_law_228 (lv_at hl 1 rfl) ?_
            refine lv_if_ne (tgt := 245) hx hb dL_law_230 (by decide) (fun c_14 => ?_) (fun c_14 => ?_)
            · skip
              first | exact absurd c_14 (by decide) | exact absurd (by decide) c_14 | exact absurd rfl c_14
            · skip
              refine lv_aload_n hx hb dL_law_233 rfl (lv_at hl 5 rfl) ?_
              refine lv_iconst (v := 0) hx hb dL_law_234 (by decide) ?_
              obtain ⟨hP, hD⟩ := zp_3 hP hD
              refine z_lout (q0 := 0) (v := (jbc (camPut ((F 0) (nN (xs (i + 1)))) (xs (i + 2)) (1))).toInt64) hx hb hK hP rfl dL_law_235 rfl ?_
              refine lv_iload hx hb dL_law_236 (lv_at hl 0 rfl) ?_
              refine lv_i2l (v := (rCamsN (upd (G 0) (16 + nN (xs (i + 1))) (rCam ((G 0) (16 + nN (xs (i + 1)))) (xs (i + 2)) (1))) (nN (xs (i + 1))) 16).toInt64) hx hb dL_law_238 rfl ?_
              refine z_lcmp_eq (tgt := 245) hx hb dL_law_239 dL_law_240 (by decide) (fun c_15 => ?_) (fun c_15 => ?_)
              · skip
                refine lv_goto (tgt := 1447) hx hb dL_law_245 (by decide) ?_
                obtain ⟨hP, hD⟩ := zp_4 hP hD
                refine W.widen (k := cells + 3) (n := slots + 18) (by omega) (by omega) ?_
                exact kk _ ⟨S, (zU F 0 (upd (F 0) (nN (xs (i + 1))) (camPut ((F 0) (nN (xs (i + 1)))) (xs (i + 2)) (1)))), TS, TF, ES, EF, (upd (upd HS 0 (nI (hNx p))) 1 (nI (min (n + 1) 4))), (kup KS (hNx p) S), (kup KF (hNx p) F), X, B, (upd (upd V 0 (nI (min (n + 1) 4))) 1 0), (zU (zU G 0 (upd (G 0) (16 + nN (xs (i + 1))) (rCam ((G 0) (16 + nN (xs (i + 1)))) (xs (i + 2)) (1)))) 1 (svF n (G 1) (G 0))), (vp_updL OL 0 (jbc (camPut ((F 0) (nN (xs (i + 1)))) (xs (i + 2)) (1))).toInt64), (hNx p), (min (n + 1) 4), L, rfl, (lwR_save hR (s_setCam hag w0 w1).1 rfl rfl rfl rfl rfl rfl rfl)⟩ _ _ _ hP hD hS (lv_sub hl [2, 3, 4, 5, 6] rfl)
              · exact absurd (congrArg Int32.toInt64 ((s_setCam hag w0 w1).2.symm)) c_15
          · skip
            first | exact absurd c_13 (by decide) | exact absurd (by decide) c_13 | exact absurd rfl c_13
      · skip
        obtain ⟨hP, hD⟩ := zp_1 hP hD
        refine z_lawH ⟨hx, hb, hml, hown, hts⟩ zYw_setCam w_st_yL_setCam w_ml_L_80 [.ref (ad 3 0), .int (xs (i + 1)), .int (xs (i + 2)), .int 1, .ref ou] [] (c_L_setCam_e1 l D cs hfl ad S F kd HS KS KF p n (xs (i + 1)) (xs (i + 2)) 1 ou OL hp hp4 hn hn4 (by rw [exT_t w0, exT_f w1])) hE hK hA hP hD hS (z_la (z_la (z_la (z_la (z_la (z_la (z_la rfl (z_lm _ _ _ _ _ _)) (z_lh _ _ _ _ _)) (z_lm _ _ _ _ _ _)) (z_lm _ _ _ _ _ _)) (z_lm _ _ _ _ _ _)) (z_lm _ _ _ _ _ _)) (z_lo _ _ _ _)) rfl hl.1 (Nat.le_of_ble_eq_true rfl) ⟨Nat.le_of_ble_eq_true rfl, Nat.le_of_ble_eq_true rfl⟩ ⟨by show _ ≤ 601024; omega, by show _ ≤ 7293034; omega⟩ dL_law_180 (fun H locs hP hD hS => ?_)
        refine lv_istore (lv' := [(5, .int 1), (0, .ref b), (1, .ref (ad 3 0)), (2, .ref (a 0)), (3, .ref ou), (4, .int (nI i))]) hx hb dL_law_183 hl (by decide) rfl (fun ls hl => ?_)
        refine lv_aload_n hx hb dL_law_185 rfl (lv_at hl 3 rfl) ?_
        refine lv_aload_n hx hb dL_law_186 rfl (lv_at hl 1 rfl) ?_
        refine lv_iload hx hb dL_law_187 (lv_at hl 5 rfl) ?_
        refine lv_iconst (v := 1) hx hb dL_law_189 (by decide) ?_
        refine lv_iadd hx hb dL_law_190 ?_
        refine z_top (y := nI (i + 1)) (nI_add i 1) ?_
        refine z_scr (k := i + 1) hx hb hXs hbl hbA hS (by omega) hLs dL_law_191 ?_
        refine lv_aload_n hx hb dL_law_192 rfl (lv_at hl 1 rfl) ?_
        refine lv_iload hx hb dL_law_193 (lv_at hl 5 rfl) ?_
        refine lv_iconst (v := 2) hx hb dL_law_195 (by decide) ?_
        refine lv_iadd hx hb dL_law_196 ?_
        refine z_top (y := nI (i + 2)) (nI_add i 2) ?_
        refine z_scr (k := i + 2) hx hb hXs hbl hbA hS (by omega) hLs dL_law_197 ?_
        refine lv_aload_n hx hb dL_law_198 rfl (lv_at hl 1 rfl) ?_
        refine lv_iload hx hb dL_law_199 (lv_at hl 5 rfl) ?_
        refine lv_iconst (v := 3) hx hb dL_law_201 (by decide) ?_
        refine lv_iadd hx hb dL_law_202 ?_
        refine z_top (y := nI (i + 3)) (nI_add i 3) ?_
        refine z_scr (k := i + 3) hx hb hXs hbl hbA hS (by omega) hLs dL_law_203 ?_
        refine lv_if_eq (tgt := 211) hx hb dL_law_204 (by decide) (fun c_16 => ?_) (fun c_16 => ?_)
        · skip
          exact absurd c_16 c_1
        · skip
          refine lv_iconst (v := 1) hx hb dL_law_207 (by decide) ?_
          refine lv_goto (tgt := 212) hx hb dL_law_208 (by decide) ?_
          obtain ⟨hP, hD⟩ := zp_2 hP hD
          refine z_lawV ⟨hx, hb, hml, hown, hts⟩ zY_X8_setCam w_im_yX8_setCam w_se_yX8_setCam w_ml_L_85 [.int (xs (i + 1)), .int (xs (i + 2)), .int 1] [] (c_X8_setCam_t1 l D cs a V G n (nN (S 0)) (xs (i + 1)) (xs (i + 2)) 1 hsn hn4 h0 hn16 (fun z => w1 (by rw [← e0]; exact z.2))) hE hK hA hP hD hS (z_lr _ _ _ _ _ _) 8 rfl rfl rfl rfl hl.1 (Nat.le_of_ble_eq_true rfl) ⟨Nat.le_of_ble_eq_true rfl, Nat.le_of_ble_eq_true rfl⟩ ⟨by show _ ≤ 601024; omega, by show _ ≤ 7293034; omega⟩ dL_law_212 (fun H locs hP hD hS => ?_)
          refine lv_istore (lv' := [(6, .int 0), (5, .int 1), (0, .ref b), (1, .ref (ad 3 0)), (2, .ref (a 0)), (3, .ref ou), (4, .int (nI i))]) hx hb dL_law_215 hl (by decide) rfl (fun ls hl => ?_)
          refine lv_aload_n hx hb dL_law_217 rfl (lv_at hl 4 rfl) ?_
          refine z_lawV ⟨hx, hb, hml, hown, hts⟩ zY_X8_thrown w_im_yX8_thrown w_se_yX8_thrown w_ml_L_86 [] [] (c_X8_thrown l D cs a ((upd V 1 1)) G) hE hK hA hP hD hS (z_lr _ _ _ _ _ _) 8 rfl rfl rfl rfl hl.1 (Nat.le_of_ble_eq_true rfl) ⟨Nat.le_of_ble_eq_true rfl, Nat.le_of_ble_eq_true rfl⟩ ⟨by show _ ≤ 601024; omega, by show _ ≤ 7293034; omega⟩ dL_law_218 (fun H locs hP hD hS => ?_)
          refine z_top (y := 1) rfl ?_
          refine lv_iload hx hb dL_law_221 (lv_at hl 1 rfl) ?_
          refine lv_icmp_eq (tgt := 228) hx hb dL_law_223 (by decide) (fun c_17 => ?_) (fun c_17 => ?_)
          · skip
            refine lv_iload hx hb dL_law_228 (lv_at hl 1 rfl) ?_
            refine lv_if_ne (tgt := 245) hx hb dL_law_230 (by decide) (fun c_18 => ?_) (fun c_18 => ?_)
            · skip
              refine lv_goto (tgt := 1447) hx hb dL_law_245 (by decide) ?_
              obtain ⟨hP, hD⟩ := zp_5 hP hD
              refine W.widen (k := cells + 3) (n := slots + 18) (by omega) (by omega) ?_
              exact kk _ ⟨S, F, TS, TF, ES, EF, HS, KS, KF, X, B, (upd V 1 1), G, OL, p, n, L, rfl, (lwR_v hR rfl rfl)⟩ _ _ _ hP hD hS (lv_sub hl [2, 3, 4, 5, 6] rfl)
            · skip
              first | exact absurd c_18 (by decide) | exact absurd (by decide) c_18 | exact absurd rfl c_18
          · skip
            first | exact absurd c_17 (by decide) | exact absurd (by decide) c_17 | exact absurd rfl c_17
    · skip
      obtain ⟨hP, hD⟩ := zp_1 hP hD
      refine z_lawH ⟨hx, hb, hml, hown, hts⟩ zYw_setCam w_st_yL_setCam w_ml_L_80 [.ref (ad 3 0), .int (xs (i + 1)), .int (xs (i + 2)), .int 1, .ref ou] [] (c_L_setCam_e1 l D cs hfl ad S F kd HS KS KF p n (xs (i + 1)) (xs (i + 2)) 1 ou OL hp hp4 hn hn4 (by rw [exT_f w0])) hE hK hA hP hD hS (z_la (z_la (z_la (z_la (z_la (z_la (z_la rfl (z_lm _ _ _ _ _ _)) (z_lh _ _ _ _ _)) (z_lm _ _ _ _ _ _)) (z_lm _ _ _ _ _ _)) (z_lm _ _ _ _ _ _)) (z_lm _ _ _ _ _ _)) (z_lo _ _ _ _)) rfl hl.1 (Nat.le_of_ble_eq_true rfl) ⟨Nat.le_of_ble_eq_true rfl, Nat.le_of_ble_eq_true rfl⟩ ⟨by show _ ≤ 601024; omega, by show _ ≤ 7293034; omega⟩ dL_law_180 (fun H locs hP hD hS => ?_)
      refine lv_istore (lv' := [(5, .int 1), (0, .ref b), (1, .ref (ad 3 0)), (2, .ref (a 0)), (3, .ref ou), (4, .int (nI i))]) hx hb dL_law_183 hl (by decide) rfl (fun ls hl => ?_)
      refine lv_aload_n hx hb dL_law_185 rfl (lv_at hl 3 rfl) ?_
      refine lv_aload_n hx hb dL_law_186 rfl (lv_at hl 1 rfl) ?_
      refine lv_iload hx hb dL_law_187 (lv_at hl 5 rfl) ?_
      refine lv_iconst (v := 1) hx hb dL_law_189 (by decide) ?_
      refine lv_iadd hx hb dL_law_190 ?_
      refine z_top (y := nI (i + 1)) (nI_add i 1) ?_
      refine z_scr (k := i + 1) hx hb hXs hbl hbA hS (by omega) hLs dL_law_191 ?_
      refine lv_aload_n hx hb dL_law_192 rfl (lv_at hl 1 rfl) ?_
      refine lv_iload hx hb dL_law_193 (lv_at hl 5 rfl) ?_
      refine lv_iconst (v := 2) hx hb dL_law_195 (by decide) ?_
      refine lv_iadd hx hb dL_law_196 ?_
      refine z_top (y := nI (i + 2)) (nI_add i 2) ?_
      refine z_scr (k := i + 2) hx hb hXs hbl hbA hS (by omega) hLs dL_law_197 ?_
      refine lv_aload_n hx hb dL_law_198 rfl (lv_at hl 1 rfl) ?_
      refine lv_iload hx hb dL_law_199 (lv_at hl 5 rfl) ?_
      refine lv_iconst (v := 3) hx hb dL_law_201 (by decide) ?_
      refine lv_iadd hx hb dL_law_202 ?_
      refine z_top (y := nI (i + 3)) (nI_add i 3) ?_
      refine z_scr (k := i + 3) hx hb hXs hbl hbA hS (by omega) hLs dL_law_203 ?_
      refine lv_if_eq (tgt := 211) hx hb dL_law_204 (by decide) (fun c_19 => ?_) (fun c_19 => ?_)
      · skip
        exact absurd c_19 c_1
      · skip
        refine lv_iconst (v := 1) hx hb dL_law_207 (by decide) ?_
        refine lv_goto (tgt := 212) hx hb dL_law_208 (by decide) ?_
        obtain ⟨hP, hD⟩ := zp_2 hP hD
        refine z_lawV ⟨hx, hb, hml, hown, hts⟩ zY_X8_setCam w_im_yX8_setCam w_se_yX8_setCam w_ml_L_85 [.int (xs (i + 1)), .int (xs (i + 2)), .int 1] [] (c_X8_setCam_t1 l D cs a V G n (nN (S 0)) (xs (i + 1)) (xs (i + 2)) 1 hsn hn4 h0 hn16 (fun z => w0 z.1)) hE hK hA hP hD hS (z_lr _ _ _ _ _ _) 8 rfl rfl rfl rfl hl.1 (Nat.le_of_ble_eq_true rfl) ⟨Nat.le_of_ble_eq_true rfl, Nat.le_of_ble_eq_true rfl⟩ ⟨by show _ ≤ 601024; omega, by show _ ≤ 7293034; omega⟩ dL_law_212 (fun H locs hP hD hS => ?_)
        refine lv_istore (lv' := [(6, .int 0), (5, .int 1), (0, .ref b), (1, .ref (ad 3 0)), (2, .ref (a 0)), (3, .ref ou), (4, .int (nI i))]) hx hb dL_law_215 hl (by decide) rfl (fun ls hl => ?_)
        refine lv_aload_n hx hb dL_law_217 rfl (lv_at hl 4 rfl) ?_
        refine z_lawV ⟨hx, hb, hml, hown, hts⟩ zY_X8_thrown w_im_yX8_thrown w_se_yX8_thrown w_ml_L_86 [] [] (c_X8_thrown l D cs a ((upd V 1 1)) G) hE hK hA hP hD hS (z_lr _ _ _ _ _ _) 8 rfl rfl rfl rfl hl.1 (Nat.le_of_ble_eq_true rfl) ⟨Nat.le_of_ble_eq_true rfl, Nat.le_of_ble_eq_true rfl⟩ ⟨by show _ ≤ 601024; omega, by show _ ≤ 7293034; omega⟩ dL_law_218 (fun H locs hP hD hS => ?_)
        refine z_top (y := 1) rfl ?_
        refine lv_iload hx hb dL_law_221 (lv_at hl 1 rfl) ?_
        refine lv_icmp_eq (tgt := 228) hx hb dL_law_223 (by decide) (fun c_20 => ?_) (fun c_20 => ?_)
        · skip
          refine lv_iload hx hb dL_law_228 (lv_at hl 1 rfl) ?_
          refine lv_if_ne (tgt := 245) hx hb dL_law_230 (by decide) (fun c_21 => ?_) (fun c_21 => ?_)
          · skip
            refine lv_goto (tgt := 1447) hx hb dL_law_245 (by decide) ?_
            obtain ⟨hP, hD⟩ := zp_5 hP hD
            refine W.widen (k := cells + 3) (n := slots + 18) (by omega) (by omega) ?_
            exact kk _ ⟨S, F, TS, TF, ES, EF, HS, KS, KF, X, B, (upd V 1 1), G, OL, p, n, L, rfl, (lwR_v hR rfl rfl)⟩ _ _ _ hP hD hS (lv_sub hl [2, 3, 4, 5, 6] rfl)
          · skip
            first | exact absurd c_21 (by decide) | exact absurd (by decide) c_21 | exact absurd rfl c_21
        · skip
          first | exact absurd c_20 (by decide) | exact absurd (by decide) c_20 | exact absurd rfl c_20

set_option maxHeartbeats 4000000 in
set_option maxRecDepth 100000 in
theorem law_setPawl {pq : Program} (l : Launch) {eq : Env} {s : State} {mq : MethodId} {below : List Frame} {meth : Method} {cq : Code} {A : Nat → Prop} {D : va_G} {cs : zCs} {b Ls i : Nat} {xs : Nat → Int32} {H : Heap} {locs : List Loc} {ls : Array Slot} {cells slots : Nat} {Q : State → Prop} {ad kd : Nat → Nat → Nat} {a : Nat → Nat} {ou : Nat} {S : Nat → Int32} {F : Nat → Nat → Int32} {TS : Nat → Int32} {TF : Nat → Nat → Int32} {ES : Nat → Int32} {EF : Nat → Nat → Int32} {HS : Nat → Int32} {KS : Nat → Nat → Int32} {KF : Nat → Nat → Nat → Int32} {X : Nat → Int32} {B : Nat → Nat → Int32} {V : Nat → Int32} {G : Nat → Nat → Int32} {OL : Nat → Int64} {p n L : Nat} (hfl : l.stackTraces = false) (hx : pq.tables.exec = Jvm.exec) (hb : cq.code = cL_law) (hml : cq.maxLocals = 9) (hown : s.vm.findClass RL = some mq.cls) (hts : ∀ w ∈ wsG, w.before #[Value.ref b] s = true) (hXs : va_X b Ls xs s s.heap) (hbl : b < s.heap.size) (hbA : ¬ A b) (hE : zE A s) (hK : va_K D vwCl (zT cs) s) (hA : ∀ q : Nat, s.heap.size ≤ q → A q) (hLs : Ls ≤ 2560) (hi : i + 5 ≤ Ls) (hce : cells + 3 ≤ 601024) (hsl : slots + 18 ≤ 7293034) (hR : lwR S F HS KS KF X B V G p n L) (hP : va_P D vwCl ((camW ad) ++ (macW cs (ad 0) S F) ++ (macW cs (ad 1) TS TF) ++ (macW cs (ad 2) ES EF) ++ (hisW cs (ad 4) kd HS) ++ (macW cs (kd 0) (KS 0) (KF 0)) ++ (macW cs (kd 1) (KS 1) (KF 1)) ++ (macW cs (kd 2) (KS 2) (KF 2)) ++ (macW cs (kd 3) (KS 3) (KF 3)) ++ (txtW cs (ad 5) X B) ++ (refW cs a V G) ++ [(ou, .inl (cs.2.1, 1, .inr (.inl OL)))]) H) (hD : va_D A ((camW ad) ++ (macW cs (ad 0) S F) ++ (macW cs (ad 1) TS TF) ++ (macW cs (ad 2) ES EF) ++ (hisW cs (ad 4) kd HS) ++ (macW cs (kd 0) (KS 0) (KF 0)) ++ (macW cs (kd 1) (KS 1) (KF 1)) ++ (macW cs (kd 2) (KS 2) (KF 2)) ++ (macW cs (kd 3) (KS 3) (KF 3)) ++ (txtW cs (ad 5) X B) ++ (refW cs a V G) ++ [(ou, .inl (cs.2.1, 1, .inr (.inl OL)))])) (hS : va_S A s.heap H locs) (hl : lv_has ls 9 [(0, .ref b), (1, .ref (ad 3 0)), (2, .ref (a 0)), (3, .ref ou), (4, .int (nI i))]) (kk : ∀ (w : va_W), lwI cs ad kd a ou w → ∀ (H : Heap) (locs : List Loc) (ls : Array Slot), va_P D vwCl w H → va_D A w → va_S A s.heap H locs → lv_has ls 9 [(0, .ref b), (1, .ref (ad 3 0)), (2, .ref (a 0)), (3, .ref ou), (4, .int (nI i))] → W pq l eq room_1 s mq #[Value.ref b] below meth cq H locs (cells + 3) (slots + 18) Q (F0 mq 1447 ls [])) : W pq l eq room_1 s mq #[Value.ref b] below meth cq H locs cells slots Q (F0 mq 248 ls []) := by
  obtain ⟨⟨hp, hp4, hn, hn4, hsn⟩, hag, hrg, hX0, hL, h4, hGB, htx⟩ := id hR
  have e0 : G 0 0 = S 0 := agr_s hag (by omega)
  have e8 : G 0 8 = S 8 := agr_s hag (by omega)
  have e9 : G 0 9 = S 9 := agr_s hag (by omega)
  obtain ⟨hn2, hn16, hS0⟩ := lw_n0 hag
  obtain ⟨hg4, hS8, ez⟩ := lw_n8 hag
  have h0 : G 0 0 = nI (nN (S 0)) := e0.trans hS0
  have h8 : G 0 8 = nI (nN (S 8)) := e8.trans hS8
  have hok : rOK (G 0) := r_ok hag
  have ho : ∀ j, j < nN (S 8) → ∃ o, o < 5 ∧ G 0 (51 + 3 * j + 1) = nI o := lw_ho hag
  refine lv_aload_n hx hb dL_law_248 rfl (lv_at hl 1 rfl) ?_
  refine lv_aload_n hx hb dL_law_249 rfl (lv_at hl 0 rfl) ?_
  refine lv_iload hx hb dL_law_250 (lv_at hl 4 rfl) ?_
  refine lv_iconst (v := 1) hx hb dL_law_252 (by decide) ?_
  refine lv_iadd hx hb dL_law_253 ?_
  refine z_top (y := nI (i + 1)) (nI_add i 1) ?_
  refine z_scr (k := i + 1) hx hb hXs hbl hbA hS (by omega) hLs dL_law_254 ?_
  refine lv_aload_n hx hb dL_law_255 rfl (lv_at hl 0 rfl) ?_
  refine lv_iload hx hb dL_law_256 (lv_at hl 4 rfl) ?_
  refine lv_iconst (v := 2) hx hb dL_law_258 (by decide) ?_
  refine lv_iadd hx hb dL_law_259 ?_
  refine z_top (y := nI (i + 2)) (nI_add i 2) ?_
  refine z_scr (k := i + 2) hx hb hXs hbl hbA hS (by omega) hLs dL_law_260 ?_
  refine lv_aload_n hx hb dL_law_261 rfl (lv_at hl 3 rfl) ?_
  by_cases w0 : (1 ≤ (xs (i + 1)) ∧ (xs (i + 1)) ≤ 20) ∧ (0 ≤ (xs (i + 2)) ∧ (xs (i + 2)) ≤ 5000)
  · skip
    obtain ⟨hP, hD⟩ := zp_1 hP hD
    refine z_lawH ⟨hx, hb, hml, hown, hts⟩ zYw_setPawl w_st_yL_setPawl w_ml_L_89 [.ref (ad 3 0), .int (xs (i + 1)), .int (xs (i + 2)), .ref ou] [] (c_L_setPawl_ok l D cs hfl ad S F kd HS KS KF p n (xs (i + 1)) (xs (i + 2)) ou OL hp hp4 hn hn4 (by rw [exT_t w0])) hE hK hA hP hD hS (z_la (z_la (z_la (z_la (z_la (z_la (z_la rfl (z_lm _ _ _ _ _ _)) (z_lh _ _ _ _ _)) (z_lm _ _ _ _ _ _)) (z_lm _ _ _ _ _ _)) (z_lm _ _ _ _ _ _)) (z_lm _ _ _ _ _ _)) (z_lo _ _ _ _)) rfl hl.1 (Nat.le_of_ble_eq_true rfl) ⟨Nat.le_of_ble_eq_true rfl, Nat.le_of_ble_eq_true rfl⟩ ⟨by show _ ≤ 601024; omega, by show _ ≤ 7293034; omega⟩ dL_law_262 (fun H locs hP hD hS => ?_)
    refine lv_istore (lv' := [(5, .int 0), (0, .ref b), (1, .ref (ad 3 0)), (2, .ref (a 0)), (3, .ref ou), (4, .int (nI i))]) hx hb dL_law_265 hl (by decide) rfl (fun ls hl => ?_)
    refine lv_aload_n hx hb dL_law_267 rfl (lv_at hl 3 rfl) ?_
    refine lv_aload_n hx hb dL_law_268 rfl (lv_at hl 1 rfl) ?_
    refine lv_iload hx hb dL_law_269 (lv_at hl 5 rfl) ?_
    refine lv_iconst (v := 1) hx hb dL_law_271 (by decide) ?_
    refine lv_iadd hx hb dL_law_272 ?_
    refine z_top (y := nI (i + 1)) (nI_add i 1) ?_
    refine z_scr (k := i + 1) hx hb hXs hbl hbA hS (by omega) hLs dL_law_273 ?_
    refine lv_aload_n hx hb dL_law_274 rfl (lv_at hl 1 rfl) ?_
    refine lv_iload hx hb dL_law_275 (lv_at hl 5 rfl) ?_
    refine lv_iconst (v := 2) hx hb dL_law_277 (by decide) ?_
    refine lv_iadd hx hb dL_law_278 ?_
    refine z_top (y := nI (i + 2)) (nI_add i 2) ?_
    refine z_scr (k := i + 2) hx hb hXs hbl hbA hS (by omega) hLs dL_law_279 ?_
    obtain ⟨hP, hD⟩ := zp_2 hP hD
    refine z_lawV ⟨hx, hb, hml, hown, hts⟩ zY_X8_setPawl w_im_yX8_setPawl w_se_yX8_setPawl w_ml_L_92 [.int (xs (i + 1)), .int (xs (i + 2))] [] (c_X8_setPawl_ok l D cs a V G n (xs (i + 1)) (xs (i + 2)) hsn hn4 w0.1 w0.2) hE hK hA hP hD hS (z_lr _ _ _ _ _ _) 8 rfl rfl rfl rfl hl.1 (Nat.le_of_ble_eq_true rfl) ⟨Nat.le_of_ble_eq_true rfl, Nat.le_of_ble_eq_true rfl⟩ ⟨by show _ ≤ 601024; omega, by show _ ≤ 7293034; omega⟩ dL_law_280 (fun H locs hP hD hS => ?_)
    refine lv_istore (lv' := [(6, .int ((G 0) 3)), (5, .int 0), (0, .ref b), (1, .ref (ad 3 0)), (2, .ref (a 0)), (3, .ref ou), (4, .int (nI i))]) hx hb dL_law_283 hl (by decide) rfl (fun ls hl => ?_)
    refine lv_aload_n hx hb dL_law_285 rfl (lv_at hl 4 rfl) ?_
    refine z_lawV ⟨hx, hb, hml, hown, hts⟩ zY_X8_thrown w_im_yX8_thrown w_se_yX8_thrown w_ml_L_86 [] [] (c_X8_thrown l D cs a ((upd (upd V 0 (nI (min (n + 1) 4))) 1 0)) ((zU (zU G 0 (upd (upd (G 0) 3 (xs (i + 1))) 4 (xs (i + 2)))) 1 (svF n (G 1) (G 0))))) hE hK hA hP hD hS (z_lr _ _ _ _ _ _) 8 rfl rfl rfl rfl hl.1 (Nat.le_of_ble_eq_true rfl) ⟨Nat.le_of_ble_eq_true rfl, Nat.le_of_ble_eq_true rfl⟩ ⟨by show _ ≤ 601024; omega, by show _ ≤ 7293034; omega⟩ dL_law_286 (fun H locs hP hD hS => ?_)
    refine z_top (y := 0) rfl ?_
    refine lv_iload hx hb dL_law_289 (lv_at hl 1 rfl) ?_
    refine lv_icmp_eq (tgt := 296) hx hb dL_law_291 (by decide) (fun c_1 => ?_) (fun c_1 => ?_)
    · skip
      refine lv_iload hx hb dL_law_296 (lv_at hl 1 rfl) ?_
      refine lv_if_ne (tgt := 313) hx hb dL_law_298 (by decide) (fun c_2 => ?_) (fun c_2 => ?_)
      · skip
        first | exact absurd c_2 (by decide) | exact absurd (by decide) c_2 | exact absurd rfl c_2
      · skip
        refine lv_aload_n hx hb dL_law_301 rfl (lv_at hl 5 rfl) ?_
        refine lv_iconst (v := 0) hx hb dL_law_302 (by decide) ?_
        obtain ⟨hP, hD⟩ := zp_3 hP hD
        refine z_lout (q0 := 0) (v := (S 3).toInt64) hx hb hK hP rfl dL_law_303 rfl ?_
        refine lv_iload hx hb dL_law_304 (lv_at hl 0 rfl) ?_
        refine lv_i2l (v := ((G 0) 3).toInt64) hx hb dL_law_306 rfl ?_
        refine z_lcmp_eq (tgt := 313) hx hb dL_law_307 dL_law_308 (by decide) (fun c_3 => ?_) (fun c_3 => ?_)
        · skip
          refine lv_goto (tgt := 1447) hx hb dL_law_313 (by decide) ?_
          obtain ⟨hP, hD⟩ := zp_4 hP hD
          refine W.widen (k := cells + 3) (n := slots + 18) (by omega) (by omega) ?_
          exact kk _ ⟨(upd (upd S 3 (xs (i + 1))) 4 (xs (i + 2))), F, TS, TF, ES, EF, (upd (upd HS 0 (nI (hNx p))) 1 (nI (min (n + 1) 4))), (kup KS (hNx p) S), (kup KF (hNx p) F), X, B, (upd (upd V 0 (nI (min (n + 1) 4))) 1 0), (zU (zU G 0 (upd (upd (G 0) 3 (xs (i + 1))) 4 (xs (i + 2)))) 1 (svF n (G 1) (G 0))), (vp_updL OL 0 (S 3).toInt64), (hNx p), (min (n + 1) 4), L, rfl, (lwR_save hR (s_setPawl hag w0.1).1 rfl rfl rfl rfl rfl rfl rfl)⟩ _ _ _ hP hD hS (lv_sub hl [2, 3, 4, 5, 6] rfl)
        · exact absurd (congrArg Int32.toInt64 ((s_setPawl (le := 0) hag w0.1).2.symm)) c_3
    · skip
      first | exact absurd c_1 (by decide) | exact absurd (by decide) c_1 | exact absurd rfl c_1
  · skip
    obtain ⟨hP, hD⟩ := zp_1 hP hD
    refine z_lawH ⟨hx, hb, hml, hown, hts⟩ zYw_setPawl w_st_yL_setPawl w_ml_L_89 [.ref (ad 3 0), .int (xs (i + 1)), .int (xs (i + 2)), .ref ou] [] (c_L_setPawl_e1 l D cs hfl ad S F kd HS KS KF p n (xs (i + 1)) (xs (i + 2)) ou OL hp hp4 hn hn4 (by rw [exT_f w0])) hE hK hA hP hD hS (z_la (z_la (z_la (z_la (z_la (z_la (z_la rfl (z_lm _ _ _ _ _ _)) (z_lh _ _ _ _ _)) (z_lm _ _ _ _ _ _)) (z_lm _ _ _ _ _ _)) (z_lm _ _ _ _ _ _)) (z_lm _ _ _ _ _ _)) (z_lo _ _ _ _)) rfl hl.1 (Nat.le_of_ble_eq_true rfl) ⟨Nat.le_of_ble_eq_true rfl, Nat.le_of_ble_eq_true rfl⟩ ⟨by show _ ≤ 601024; omega, by show _ ≤ 7293034; omega⟩ dL_law_262 (fun H locs hP hD hS => ?_)
    refine lv_istore (lv' := [(5, .int 1), (0, .ref b), (1, .ref (ad 3 0)), (2, .ref (a 0)), (3, .ref ou), (4, .int (nI i))]) hx hb dL_law_265 hl (by decide) rfl (fun ls hl => ?_)
    refine lv_aload_n hx hb dL_law_267 rfl (lv_at hl 3 rfl) ?_
    refine lv_aload_n hx hb dL_law_268 rfl (lv_at hl 1 rfl) ?_
    refine lv_iload hx hb dL_law_269 (lv_at hl 5 rfl) ?_
    refine lv_iconst (v := 1) hx hb dL_law_271 (by decide) ?_
    refine lv_iadd hx hb dL_law_272 ?_
    refine z_top (y := nI (i + 1)) (nI_add i 1) ?_
    refine z_scr (k := i + 1) hx hb hXs hbl hbA hS (by omega) hLs dL_law_273 ?_
    refine lv_aload_n hx hb dL_law_274 rfl (lv_at hl 1 rfl) ?_
    refine lv_iload hx hb dL_law_275 (lv_at hl 5 rfl) ?_
    refine lv_iconst (v := 2) hx hb dL_law_277 (by decide) ?_
    refine lv_iadd hx hb dL_law_278 ?_
    refine z_top (y := nI (i + 2)) (nI_add i 2) ?_
    refine z_scr (k := i + 2) hx hb hXs hbl hbA hS (by omega) hLs dL_law_279 ?_
    obtain ⟨hP, hD⟩ := zp_2 hP hD
    refine z_lawV ⟨hx, hb, hml, hown, hts⟩ zY_X8_setPawl w_im_yX8_setPawl w_se_yX8_setPawl w_ml_L_92 [.int (xs (i + 1)), .int (xs (i + 2))] [] (c_X8_setPawl_t1 l D cs a V G n (xs (i + 1)) (xs (i + 2)) hsn hn4 w0) hE hK hA hP hD hS (z_lr _ _ _ _ _ _) 8 rfl rfl rfl rfl hl.1 (Nat.le_of_ble_eq_true rfl) ⟨Nat.le_of_ble_eq_true rfl, Nat.le_of_ble_eq_true rfl⟩ ⟨by show _ ≤ 601024; omega, by show _ ≤ 7293034; omega⟩ dL_law_280 (fun H locs hP hD hS => ?_)
    refine lv_istore (lv' := [(6, .int 0), (5, .int 1), (0, .ref b), (1, .ref (ad 3 0)), (2, .ref (a 0)), (3, .ref ou), (4, .int (nI i))]) hx hb dL_law_283 hl (by decide) rfl (fun ls hl => ?_)
    refine lv_aload_n hx hb dL_law_285 rfl (lv_at hl 4 rfl) ?_
    refine z_lawV ⟨hx, hb, hml, hown, hts⟩ zY_X8_thrown w_im_yX8_thrown w_se_yX8_thrown w_ml_L_86 [] [] (c_X8_thrown l D cs a ((upd V 1 1)) G) hE hK hA hP hD hS (z_lr _ _ _ _ _ _) 8 rfl rfl rfl rfl hl.1 (Nat.le_of_ble_eq_true rfl) ⟨Nat.le_of_ble_eq_true rfl, Nat.le_of_ble_eq_true rfl⟩ ⟨by show _ ≤ 601024; omega, by show _ ≤ 7293034; omega⟩ dL_law_286 (fun H locs hP hD hS => ?_)
    refine z_top (y := 1) rfl ?_
    refine lv_iload hx hb dL_law_289 (lv_at hl 1 rfl) ?_
    refine lv_icmp_eq (tgt := 296) hx hb dL_law_291 (by decide) (fun c_4 => ?_) (fun c_4 => ?_)
    · skip
      refine lv_iload hx hb dL_law_296 (lv_at hl 1 rfl) ?_
      refine lv_if_ne (tgt := 313) hx hb dL_law_298 (by decide) (fun c_5 => ?_) (fun c_5 => ?_)
      · skip
        refine lv_goto (tgt := 1447) hx hb dL_law_313 (by decide) ?_
        obtain ⟨hP, hD⟩ := zp_5 hP hD
        refine W.widen (k := cells + 3) (n := slots + 18) (by omega) (by omega) ?_
        exact kk _ ⟨S, F, TS, TF, ES, EF, HS, KS, KF, X, B, (upd V 1 1), G, OL, p, n, L, rfl, (lwR_v hR rfl rfl)⟩ _ _ _ hP hD hS (lv_sub hl [2, 3, 4, 5, 6] rfl)
      · skip
        first | exact absurd c_5 (by decide) | exact absurd (by decide) c_5 | exact absurd rfl c_5
    · skip
      first | exact absurd c_4 (by decide) | exact absurd (by decide) c_4 | exact absurd rfl c_4

set_option maxHeartbeats 4000000 in
set_option maxRecDepth 100000 in
theorem law_setCylinder {pq : Program} (l : Launch) {eq : Env} {s : State} {mq : MethodId} {below : List Frame} {meth : Method} {cq : Code} {A : Nat → Prop} {D : va_G} {cs : zCs} {b Ls i : Nat} {xs : Nat → Int32} {H : Heap} {locs : List Loc} {ls : Array Slot} {cells slots : Nat} {Q : State → Prop} {ad kd : Nat → Nat → Nat} {a : Nat → Nat} {ou : Nat} {S : Nat → Int32} {F : Nat → Nat → Int32} {TS : Nat → Int32} {TF : Nat → Nat → Int32} {ES : Nat → Int32} {EF : Nat → Nat → Int32} {HS : Nat → Int32} {KS : Nat → Nat → Int32} {KF : Nat → Nat → Nat → Int32} {X : Nat → Int32} {B : Nat → Nat → Int32} {V : Nat → Int32} {G : Nat → Nat → Int32} {OL : Nat → Int64} {p n L : Nat} (hfl : l.stackTraces = false) (hx : pq.tables.exec = Jvm.exec) (hb : cq.code = cL_law) (hml : cq.maxLocals = 9) (hown : s.vm.findClass RL = some mq.cls) (hts : ∀ w ∈ wsG, w.before #[Value.ref b] s = true) (hXs : va_X b Ls xs s s.heap) (hbl : b < s.heap.size) (hbA : ¬ A b) (hE : zE A s) (hK : va_K D vwCl (zT cs) s) (hA : ∀ q : Nat, s.heap.size ≤ q → A q) (hLs : Ls ≤ 2560) (hi : i + 5 ≤ Ls) (hce : cells + 3 ≤ 601024) (hsl : slots + 18 ≤ 7293034) (hR : lwR S F HS KS KF X B V G p n L) (hP : va_P D vwCl ((camW ad) ++ (macW cs (ad 0) S F) ++ (macW cs (ad 1) TS TF) ++ (macW cs (ad 2) ES EF) ++ (hisW cs (ad 4) kd HS) ++ (macW cs (kd 0) (KS 0) (KF 0)) ++ (macW cs (kd 1) (KS 1) (KF 1)) ++ (macW cs (kd 2) (KS 2) (KF 2)) ++ (macW cs (kd 3) (KS 3) (KF 3)) ++ (txtW cs (ad 5) X B) ++ (refW cs a V G) ++ [(ou, .inl (cs.2.1, 1, .inr (.inl OL)))]) H) (hD : va_D A ((camW ad) ++ (macW cs (ad 0) S F) ++ (macW cs (ad 1) TS TF) ++ (macW cs (ad 2) ES EF) ++ (hisW cs (ad 4) kd HS) ++ (macW cs (kd 0) (KS 0) (KF 0)) ++ (macW cs (kd 1) (KS 1) (KF 1)) ++ (macW cs (kd 2) (KS 2) (KF 2)) ++ (macW cs (kd 3) (KS 3) (KF 3)) ++ (txtW cs (ad 5) X B) ++ (refW cs a V G) ++ [(ou, .inl (cs.2.1, 1, .inr (.inl OL)))])) (hS : va_S A s.heap H locs) (hl : lv_has ls 9 [(0, .ref b), (1, .ref (ad 3 0)), (2, .ref (a 0)), (3, .ref ou), (4, .int (nI i))]) (kk : ∀ (w : va_W), lwI cs ad kd a ou w → ∀ (H : Heap) (locs : List Loc) (ls : Array Slot), va_P D vwCl w H → va_D A w → va_S A s.heap H locs → lv_has ls 9 [(0, .ref b), (1, .ref (ad 3 0)), (2, .ref (a 0)), (3, .ref ou), (4, .int (nI i))] → W pq l eq room_1 s mq #[Value.ref b] below meth cq H locs (cells + 3) (slots + 18) Q (F0 mq 1447 ls [])) : W pq l eq room_1 s mq #[Value.ref b] below meth cq H locs cells slots Q (F0 mq 316 ls []) := by
  obtain ⟨⟨hp, hp4, hn, hn4, hsn⟩, hag, hrg, hX0, hL, h4, hGB, htx⟩ := id hR
  have e0 : G 0 0 = S 0 := agr_s hag (by omega)
  have e8 : G 0 8 = S 8 := agr_s hag (by omega)
  have e9 : G 0 9 = S 9 := agr_s hag (by omega)
  obtain ⟨hn2, hn16, hS0⟩ := lw_n0 hag
  obtain ⟨hg4, hS8, ez⟩ := lw_n8 hag
  have h0 : G 0 0 = nI (nN (S 0)) := e0.trans hS0
  have h8 : G 0 8 = nI (nN (S 8)) := e8.trans hS8
  have hok : rOK (G 0) := r_ok hag
  have ho : ∀ j, j < nN (S 8) → ∃ o, o < 5 ∧ G 0 (51 + 3 * j + 1) = nI o := lw_ho hag
  refine lv_aload_n hx hb dL_law_316 rfl (lv_at hl 1 rfl) ?_
  refine lv_aload_n hx hb dL_law_317 rfl (lv_at hl 0 rfl) ?_
  refine lv_iload hx hb dL_law_318 (lv_at hl 4 rfl) ?_
  refine lv_iconst (v := 1) hx hb dL_law_320 (by decide) ?_
  refine lv_iadd hx hb dL_law_321 ?_
  refine z_top (y := nI (i + 1)) (nI_add i 1) ?_
  refine z_scr (k := i + 1) hx hb hXs hbl hbA hS (by omega) hLs dL_law_322 ?_
  refine lv_aload_n hx hb dL_law_323 rfl (lv_at hl 0 rfl) ?_
  refine lv_iload hx hb dL_law_324 (lv_at hl 4 rfl) ?_
  refine lv_iconst (v := 2) hx hb dL_law_326 (by decide) ?_
  refine lv_iadd hx hb dL_law_327 ?_
  refine z_top (y := nI (i + 2)) (nI_add i 2) ?_
  refine z_scr (k := i + 2) hx hb hXs hbl hbA hS (by omega) hLs dL_law_328 ?_
  refine lv_aload_n hx hb dL_law_329 rfl (lv_at hl 0 rfl) ?_
  refine lv_iload hx hb dL_law_330 (lv_at hl 4 rfl) ?_
  refine lv_iconst (v := 3) hx hb dL_law_332 (by decide) ?_
  refine lv_iadd hx hb dL_law_333 ?_
  refine z_top (y := nI (i + 3)) (nI_add i 3) ?_
  refine z_scr (k := i + 3) hx hb hXs hbl hbA hS (by omega) hLs dL_law_334 ?_
  refine lv_aload_n hx hb dL_law_335 rfl (lv_at hl 0 rfl) ?_
  refine lv_iload hx hb dL_law_336 (lv_at hl 4 rfl) ?_
  refine lv_iconst (v := 4) hx hb dL_law_338 (by decide) ?_
  refine lv_iadd hx hb dL_law_339 ?_
  refine z_top (y := nI (i + 4)) (nI_add i 4) ?_
  refine z_scr (k := i + 4) hx hb hXs hbl hbA hS (by omega) hLs dL_law_340 ?_
  refine lv_aload_n hx hb dL_law_341 rfl (lv_at hl 3 rfl) ?_
  by_cases w0 : 0 ≤ (xs (i + 1)) ∧ (xs (i + 1)) ≤ 4
  · skip
    by_cases w1 : (1 ≤ (xs (i + 2)) ∧ (xs (i + 2)) ≤ 9) ∧ (1 ≤ (xs (i + 3)) ∧ (xs (i + 3)) ≤ 50) ∧ (0 ≤ (xs (i + 4)) ∧ (xs (i + 4)) ≤ 20)
    · skip
      obtain ⟨hP, hD⟩ := zp_1 hP hD
      refine z_lawH ⟨hx, hb, hml, hown, hts⟩ zYw_setCylinder w_st_yL_setCylinder w_ml_L_93 [.ref (ad 3 0), .int (xs (i + 1)), .int (xs (i + 2)), .int (xs (i + 3)), .int (xs (i + 4)), .ref ou] [] (c_L_setCylinder_ok l D cs hfl ad S F kd HS KS KF p n (xs (i + 1)) (xs (i + 2)) (xs (i + 3)) (xs (i + 4)) ou OL hp hp4 hn hn4 (by rw [exT_t w0, exT_t w1])) hE hK hA hP hD hS (z_la (z_la (z_la (z_la (z_la (z_la (z_la rfl (z_lm _ _ _ _ _ _)) (z_lh _ _ _ _ _)) (z_lm _ _ _ _ _ _)) (z_lm _ _ _ _ _ _)) (z_lm _ _ _ _ _ _)) (z_lm _ _ _ _ _ _)) (z_lo _ _ _ _)) rfl hl.1 (Nat.le_of_ble_eq_true rfl) ⟨Nat.le_of_ble_eq_true rfl, Nat.le_of_ble_eq_true rfl⟩ ⟨by show _ ≤ 601024; omega, by show _ ≤ 7293034; omega⟩ dL_law_342 (fun H locs hP hD hS => ?_)
      refine lv_istore (lv' := [(5, .int 0), (0, .ref b), (1, .ref (ad 3 0)), (2, .ref (a 0)), (3, .ref ou), (4, .int (nI i))]) hx hb dL_law_345 hl (by decide) rfl (fun ls hl => ?_)
      refine lv_aload_n hx hb dL_law_347 rfl (lv_at hl 3 rfl) ?_
      refine lv_aload_n hx hb dL_law_348 rfl (lv_at hl 1 rfl) ?_
      refine lv_iload hx hb dL_law_349 (lv_at hl 5 rfl) ?_
      refine lv_iconst (v := 1) hx hb dL_law_351 (by decide) ?_
      refine lv_iadd hx hb dL_law_352 ?_
      refine z_top (y := nI (i + 1)) (nI_add i 1) ?_
      refine z_scr (k := i + 1) hx hb hXs hbl hbA hS (by omega) hLs dL_law_353 ?_
      refine lv_aload_n hx hb dL_law_354 rfl (lv_at hl 1 rfl) ?_
      refine lv_iload hx hb dL_law_355 (lv_at hl 5 rfl) ?_
      refine lv_iconst (v := 2) hx hb dL_law_357 (by decide) ?_
      refine lv_iadd hx hb dL_law_358 ?_
      refine z_top (y := nI (i + 2)) (nI_add i 2) ?_
      refine z_scr (k := i + 2) hx hb hXs hbl hbA hS (by omega) hLs dL_law_359 ?_
      refine lv_aload_n hx hb dL_law_360 rfl (lv_at hl 1 rfl) ?_
      refine lv_iload hx hb dL_law_361 (lv_at hl 5 rfl) ?_
      refine lv_iconst (v := 3) hx hb dL_law_363 (by decide) ?_
      refine lv_iadd hx hb dL_law_364 ?_
      refine z_top (y := nI (i + 3)) (nI_add i 3) ?_
      refine z_scr (k := i + 3) hx hb hXs hbl hbA hS (by omega) hLs dL_law_365 ?_
      refine lv_aload_n hx hb dL_law_366 rfl (lv_at hl 1 rfl) ?_
      refine lv_iload hx hb dL_law_367 (lv_at hl 5 rfl) ?_
      refine lv_iconst (v := 4) hx hb dL_law_369 (by decide) ?_
      refine lv_iadd hx hb dL_law_370 ?_
      refine z_top (y := nI (i + 4)) (nI_add i 4) ?_
      refine z_scr (k := i + 4) hx hb hXs hbl hbA hS (by omega) hLs dL_law_371 ?_
      obtain ⟨hP, hD⟩ := zp_2 hP hD
      refine z_lawV ⟨hx, hb, hml, hown, hts⟩ zY_X8_setCylinder w_im_yX8_setCylinder w_se_yX8_setCylinder w_ml_L_96 [.int (xs (i + 1)), .int (xs (i + 2)), .int (xs (i + 3)), .int (xs (i + 4))] [] (c_X8_setCylinder_ok l D cs a V G n (xs (i + 1)) (xs (i + 2)) (xs (i + 3)) (xs (i + 4)) hsn hn4 w0 w1.1 w1.2.1 w1.2.2) hE hK hA hP hD hS (z_lr _ _ _ _ _ _) 8 rfl rfl rfl rfl hl.1 (Nat.le_of_ble_eq_true rfl) ⟨Nat.le_of_ble_eq_true rfl, Nat.le_of_ble_eq_true rfl⟩ ⟨by show _ ≤ 601024; omega, by show _ ≤ 7293034; omega⟩ dL_law_372 (fun H locs hP hD hS => ?_)
      refine lv_istore (lv' := [(6, .int ((upd (upd (upd (G 0) (21 + 6 * nN (xs (i + 1)) + 1) (xs (i + 2))) (21 + 6 * nN (xs (i + 1)) + 2) (xs (i + 3))) (21 + 6 * nN (xs (i + 1)) + 3) (xs (i + 4))) (21 + 6 * nN (xs (i + 1))))), (5, .int 0), (0, .ref b), (1, .ref (ad 3 0)), (2, .ref (a 0)), (3, .ref ou), (4, .int (nI i))]) hx hb dL_law_375 hl (by decide) rfl (fun ls hl => ?_)
      refine lv_aload_n hx hb dL_law_377 rfl (lv_at hl 4 rfl) ?_
      refine z_lawV ⟨hx, hb, hml, hown, hts⟩ zY_X8_thrown w_im_yX8_thrown w_se_yX8_thrown w_ml_L_86 [] [] (c_X8_thrown l D cs a ((upd (upd V 0 (nI (min (n + 1) 4))) 1 0)) ((zU (zU G 0 (upd (upd (upd (G 0) (21 + 6 * nN (xs (i + 1)) + 1) (xs (i + 2))) (21 + 6 * nN (xs (i + 1)) + 2) (xs (i + 3))) (21 + 6 * nN (xs (i + 1)) + 3) (xs (i + 4)))) 1 (svF n (G 1) (G 0))))) hE hK hA hP hD hS (z_lr _ _ _ _ _ _) 8 rfl rfl rfl rfl hl.1 (Nat.le_of_ble_eq_true rfl) ⟨Nat.le_of_ble_eq_true rfl, Nat.le_of_ble_eq_true rfl⟩ ⟨by show _ ≤ 601024; omega, by show _ ≤ 7293034; omega⟩ dL_law_378 (fun H locs hP hD hS => ?_)
      refine z_top (y := 0) rfl ?_
      refine lv_iload hx hb dL_law_381 (lv_at hl 1 rfl) ?_
      refine lv_icmp_eq (tgt := 388) hx hb dL_law_383 (by decide) (fun c_1 => ?_) (fun c_1 => ?_)
      · skip
        refine lv_iload hx hb dL_law_388 (lv_at hl 1 rfl) ?_
        refine lv_if_ne (tgt := 405) hx hb dL_law_390 (by decide) (fun c_2 => ?_) (fun c_2 => ?_)
        · skip
          first | exact absurd c_2 (by decide) | exact absurd (by decide) c_2 | exact absurd rfl c_2
        · skip
          refine lv_aload_n hx hb dL_law_393 rfl (lv_at hl 5 rfl) ?_
          refine lv_iconst (v := 0) hx hb dL_law_394 (by decide) ?_
          obtain ⟨hP, hD⟩ := zp_3 hP hD
          refine z_lout (q0 := 0) (v := ((F 1) (nN (xs (i + 1)))).toInt64) hx hb hK hP rfl dL_law_395 rfl ?_
          refine lv_iload hx hb dL_law_396 (lv_at hl 0 rfl) ?_
          refine lv_i2l (v := ((upd (upd (upd (G 0) (21 + 6 * nN (xs (i + 1)) + 1) (xs (i + 2))) (21 + 6 * nN (xs (i + 1)) + 2) (xs (i + 3))) (21 + 6 * nN (xs (i + 1)) + 3) (xs (i + 4))) (21 + 6 * nN (xs (i + 1)))).toInt64) hx hb dL_law_398 rfl ?_
          refine z_lcmp_eq (tgt := 405) hx hb dL_law_399 dL_law_400 (by decide) (fun c_3 => ?_) (fun c_3 => ?_)
          · skip
            refine lv_goto (tgt := 1447) hx hb dL_law_405 (by decide) ?_
            obtain ⟨hP, hD⟩ := zp_4 hP hD
            refine W.widen (k := cells + 3) (n := slots + 18) (by omega) (by omega) ?_
            exact kk _ ⟨S, (zU (zU (zU F 2 (upd (F 2) (nN (xs (i + 1))) (xs (i + 2)))) 3 (upd (F 3) (nN (xs (i + 1))) (xs (i + 3)))) 4 (upd (F 4) (nN (xs (i + 1))) (xs (i + 4)))), TS, TF, ES, EF, (upd (upd HS 0 (nI (hNx p))) 1 (nI (min (n + 1) 4))), (kup KS (hNx p) S), (kup KF (hNx p) F), X, B, (upd (upd V 0 (nI (min (n + 1) 4))) 1 0), (zU (zU G 0 (upd (upd (upd (G 0) (21 + 6 * nN (xs (i + 1)) + 1) (xs (i + 2))) (21 + 6 * nN (xs (i + 1)) + 2) (xs (i + 3))) (21 + 6 * nN (xs (i + 1)) + 3) (xs (i + 4)))) 1 (svF n (G 1) (G 0))), (vp_updL OL 0 ((F 1) (nN (xs (i + 1)))).toInt64), (hNx p), (min (n + 1) 4), L, rfl, (lwR_save hR (s_setCylinder hag w0 w1.1 w1.2.1 w1.2.2).1 rfl rfl rfl rfl rfl rfl rfl)⟩ _ _ _ hP hD hS (lv_sub hl [2, 3, 4, 5, 6] rfl)
          · exact absurd (congrArg Int32.toInt64 ((s_setCylinder hag w0 w1.1 w1.2.1 w1.2.2).2.symm)) c_3
      · skip
        first | exact absurd c_1 (by decide) | exact absurd (by decide) c_1 | exact absurd rfl c_1
    · skip
      obtain ⟨hP, hD⟩ := zp_1 hP hD
      refine z_lawH ⟨hx, hb, hml, hown, hts⟩ zYw_setCylinder w_st_yL_setCylinder w_ml_L_93 [.ref (ad 3 0), .int (xs (i + 1)), .int (xs (i + 2)), .int (xs (i + 3)), .int (xs (i + 4)), .ref ou] [] (c_L_setCylinder_e2 l D cs hfl ad S F kd HS KS KF p n (xs (i + 1)) (xs (i + 2)) (xs (i + 3)) (xs (i + 4)) ou OL hp hp4 hn hn4 (by rw [exT_t w0, exT_f w1])) hE hK hA hP hD hS (z_la (z_la (z_la (z_la (z_la (z_la (z_la rfl (z_lm _ _ _ _ _ _)) (z_lh _ _ _ _ _)) (z_lm _ _ _ _ _ _)) (z_lm _ _ _ _ _ _)) (z_lm _ _ _ _ _ _)) (z_lm _ _ _ _ _ _)) (z_lo _ _ _ _)) rfl hl.1 (Nat.le_of_ble_eq_true rfl) ⟨Nat.le_of_ble_eq_true rfl, Nat.le_of_ble_eq_true rfl⟩ ⟨by show _ ≤ 601024; omega, by show _ ≤ 7293034; omega⟩ dL_law_342 (fun H locs hP hD hS => ?_)
      refine lv_istore (lv' := [(5, .int 2), (0, .ref b), (1, .ref (ad 3 0)), (2, .ref (a 0)), (3, .ref ou), (4, .int (nI i))]) hx hb dL_law_345 hl (by decide) rfl (fun ls hl => ?_)
      refine lv_aload_n hx hb dL_law_347 rfl (lv_at hl 3 rfl) ?_
      refine lv_aload_n hx hb dL_law_348 rfl (lv_at hl 1 rfl) ?_
      refine lv_iload hx hb dL_law_349 (lv_at hl 5 rfl) ?_
      refine lv_iconst (v := 1) hx hb dL_law_351 (by decide) ?_
      refine lv_iadd hx hb dL_law_352 ?_
      refine z_top (y := nI (i + 1)) (nI_add i 1) ?_
      refine z_scr (k := i + 1) hx hb hXs hbl hbA hS (by omega) hLs dL_law_353 ?_
      refine lv_aload_n hx hb dL_law_354 rfl (lv_at hl 1 rfl) ?_
      refine lv_iload hx hb dL_law_355 (lv_at hl 5 rfl) ?_
      refine lv_iconst (v := 2) hx hb dL_law_357 (by decide) ?_
      refine lv_iadd hx hb dL_law_358 ?_
      refine z_top (y := nI (i + 2)) (nI_add i 2) ?_
      refine z_scr (k := i + 2) hx hb hXs hbl hbA hS (by omega) hLs dL_law_359 ?_
      refine lv_aload_n hx hb dL_law_360 rfl (lv_at hl 1 rfl) ?_
      refine lv_iload hx hb dL_law_361 (lv_at hl 5 rfl) ?_
      refine lv_iconst (v := 3) hx hb dL_law_363 (by decide) ?_
      refine lv_iadd hx hb dL_law_364 ?_
      refine z_top (y := nI (i + 3)) (nI_add i 3) ?_
      refine z_scr (k := i + 3) hx hb hXs hbl hbA hS (by omega) hLs dL_law_365 ?_
      refine lv_aload_n hx hb dL_law_366 rfl (lv_at hl 1 rfl) ?_
      refine lv_iload hx hb dL_law_367 (lv_at hl 5 rfl) ?_
      refine lv_iconst (v := 4) hx hb dL_law_369 (by decide) ?_
      refine lv_iadd hx hb dL_law_370 ?_
      refine z_top (y := nI (i + 4)) (nI_add i 4) ?_
      refine z_scr (k := i + 4) hx hb hXs hbl hbA hS (by omega) hLs dL_law_371 ?_
      obtain ⟨hP, hD⟩ := zp_2 hP hD
      refine z_lawV ⟨hx, hb, hml, hown, hts⟩ zY_X8_setCylinder w_im_yX8_setCylinder w_se_yX8_setCylinder w_ml_L_96 [.int (xs (i + 1)), .int (xs (i + 2)), .int (xs (i + 3)), .int (xs (i + 4))] [] (c_X8_setCylinder_t2 l D cs a V G n (xs (i + 1)) (xs (i + 2)) (xs (i + 3)) (xs (i + 4)) hsn hn4 w0 w1) hE hK hA hP hD hS (z_lr _ _ _ _ _ _) 8 rfl rfl rfl rfl hl.1 (Nat.le_of_ble_eq_true rfl) ⟨Nat.le_of_ble_eq_true rfl, Nat.le_of_ble_eq_true rfl⟩ ⟨by show _ ≤ 601024; omega, by show _ ≤ 7293034; omega⟩ dL_law_372 (fun H locs hP hD hS => ?_)
      refine lv_istore (lv' := [(6, .int 0), (5, .int 2), (0, .ref b), (1, .ref (ad 3 0)), (2, .ref (a 0)), (3, .ref ou), (4, .int (nI i))]) hx hb dL_law_375 hl (by decide) rfl (fun ls hl => ?_)
      refine lv_aload_n hx hb dL_law_377 rfl (lv_at hl 4 rfl) ?_
      refine z_lawV ⟨hx, hb, hml, hown, hts⟩ zY_X8_thrown w_im_yX8_thrown w_se_yX8_thrown w_ml_L_86 [] [] (c_X8_thrown l D cs a ((upd V 1 2)) G) hE hK hA hP hD hS (z_lr _ _ _ _ _ _) 8 rfl rfl rfl rfl hl.1 (Nat.le_of_ble_eq_true rfl) ⟨Nat.le_of_ble_eq_true rfl, Nat.le_of_ble_eq_true rfl⟩ ⟨by show _ ≤ 601024; omega, by show _ ≤ 7293034; omega⟩ dL_law_378 (fun H locs hP hD hS => ?_)
      refine z_top (y := 2) rfl ?_
      refine lv_iload hx hb dL_law_381 (lv_at hl 1 rfl) ?_
      refine lv_icmp_eq (tgt := 388) hx hb dL_law_383 (by decide) (fun c_4 => ?_) (fun c_4 => ?_)
      · skip
        refine lv_iload hx hb dL_law_388 (lv_at hl 1 rfl) ?_
        refine lv_if_ne (tgt := 405) hx hb dL_law_390 (by decide) (fun c_5 => ?_) (fun c_5 => ?_)
        · skip
          refine lv_goto (tgt := 1447) hx hb dL_law_405 (by decide) ?_
          obtain ⟨hP, hD⟩ := zp_5 hP hD
          refine W.widen (k := cells + 3) (n := slots + 18) (by omega) (by omega) ?_
          exact kk _ ⟨S, F, TS, TF, ES, EF, HS, KS, KF, X, B, (upd V 1 2), G, OL, p, n, L, rfl, (lwR_v hR rfl rfl)⟩ _ _ _ hP hD hS (lv_sub hl [2, 3, 4, 5, 6] rfl)
        · skip
          first | exact absurd c_5 (by decide) | exact absurd (by decide) c_5 | exact absurd rfl c_5
      · skip
        first | exact absurd c_4 (by decide) | exact absurd (by decide) c_4 | exact absurd rfl c_4
  · skip
    obtain ⟨hP, hD⟩ := zp_1 hP hD
    refine z_lawH ⟨hx, hb, hml, hown, hts⟩ zYw_setCylinder w_st_yL_setCylinder w_ml_L_93 [.ref (ad 3 0), .int (xs (i + 1)), .int (xs (i + 2)), .int (xs (i + 3)), .int (xs (i + 4)), .ref ou] [] (c_L_setCylinder_e1 l D cs hfl ad S F kd HS KS KF p n (xs (i + 1)) (xs (i + 2)) (xs (i + 3)) (xs (i + 4)) ou OL hp hp4 hn hn4 (by rw [exT_f w0])) hE hK hA hP hD hS (z_la (z_la (z_la (z_la (z_la (z_la (z_la rfl (z_lm _ _ _ _ _ _)) (z_lh _ _ _ _ _)) (z_lm _ _ _ _ _ _)) (z_lm _ _ _ _ _ _)) (z_lm _ _ _ _ _ _)) (z_lm _ _ _ _ _ _)) (z_lo _ _ _ _)) rfl hl.1 (Nat.le_of_ble_eq_true rfl) ⟨Nat.le_of_ble_eq_true rfl, Nat.le_of_ble_eq_true rfl⟩ ⟨by show _ ≤ 601024; omega, by show _ ≤ 7293034; omega⟩ dL_law_342 (fun H locs hP hD hS => ?_)
    refine lv_istore (lv' := [(5, .int 1), (0, .ref b), (1, .ref (ad 3 0)), (2, .ref (a 0)), (3, .ref ou), (4, .int (nI i))]) hx hb dL_law_345 hl (by decide) rfl (fun ls hl => ?_)
    refine lv_aload_n hx hb dL_law_347 rfl (lv_at hl 3 rfl) ?_
    refine lv_aload_n hx hb dL_law_348 rfl (lv_at hl 1 rfl) ?_
    refine lv_iload hx hb dL_law_349 (lv_at hl 5 rfl) ?_
    refine lv_iconst (v := 1) hx hb dL_law_351 (by decide) ?_
    refine lv_iadd hx hb dL_law_352 ?_
    refine z_top (y := nI (i + 1)) (nI_add i 1) ?_
    refine z_scr (k := i + 1) hx hb hXs hbl hbA hS (by omega) hLs dL_law_353 ?_
    refine lv_aload_n hx hb dL_law_354 rfl (lv_at hl 1 rfl) ?_
    refine lv_iload hx hb dL_law_355 (lv_at hl 5 rfl) ?_
    refine lv_iconst (v := 2) hx hb dL_law_357 (by decide) ?_
    refine lv_iadd hx hb dL_law_358 ?_
    refine z_top (y := nI (i + 2)) (nI_add i 2) ?_
    refine z_scr (k := i + 2) hx hb hXs hbl hbA hS (by omega) hLs dL_law_359 ?_
    refine lv_aload_n hx hb dL_law_360 rfl (lv_at hl 1 rfl) ?_
    refine lv_iload hx hb dL_law_361 (lv_at hl 5 rfl) ?_
    refine lv_iconst (v := 3) hx hb dL_law_363 (by decide) ?_
    refine lv_iadd hx hb dL_law_364 ?_
    refine z_top (y := nI (i + 3)) (nI_add i 3) ?_
    refine z_scr (k := i + 3) hx hb hXs hbl hbA hS (by omega) hLs dL_law_365 ?_
    refine lv_aload_n hx hb dL_law_366 rfl (lv_at hl 1 rfl) ?_
    refine lv_iload hx hb dL_law_367 (lv_at hl 5 rfl) ?_
    refine lv_iconst (v := 4) hx hb dL_law_369 (by decide) ?_
    refine lv_iadd hx hb dL_law_370 ?_
    refine z_top (y := nI (i + 4)) (nI_add i 4) ?_
    refine z_scr (k := i + 4) hx hb hXs hbl hbA hS (by omega) hLs dL_law_371 ?_
    obtain ⟨hP, hD⟩ := zp_2 hP hD
    refine z_lawV ⟨hx, hb, hml, hown, hts⟩ zY_X8_setCylinder w_im_yX8_setCylinder w_se_yX8_setCylinder w_ml_L_96 [.int (xs (i + 1)), .int (xs (i + 2)), .int (xs (i + 3)), .int (xs (i + 4))] [] (c_X8_setCylinder_t1 l D cs a V G n (xs (i + 1)) (xs (i + 2)) (xs (i + 3)) (xs (i + 4)) hsn hn4 w0) hE hK hA hP hD hS (z_lr _ _ _ _ _ _) 8 rfl rfl rfl rfl hl.1 (Nat.le_of_ble_eq_true rfl) ⟨Nat.le_of_ble_eq_true rfl, Nat.le_of_ble_eq_true rfl⟩ ⟨by show _ ≤ 601024; omega, by show _ ≤ 7293034; omega⟩ dL_law_372 (fun H locs hP hD hS => ?_)
    refine lv_istore (lv' := [(6, .int 0), (5, .int 1), (0, .ref b), (1, .ref (ad 3 0)), (2, .ref (a 0)), (3, .ref ou), (4, .int (nI i))]) hx hb dL_law_375 hl (by decide) rfl (fun ls hl => ?_)
    refine lv_aload_n hx hb dL_law_377 rfl (lv_at hl 4 rfl) ?_
    refine z_lawV ⟨hx, hb, hml, hown, hts⟩ zY_X8_thrown w_im_yX8_thrown w_se_yX8_thrown w_ml_L_86 [] [] (c_X8_thrown l D cs a ((upd V 1 1)) G) hE hK hA hP hD hS (z_lr _ _ _ _ _ _) 8 rfl rfl rfl rfl hl.1 (Nat.le_of_ble_eq_true rfl) ⟨Nat.le_of_ble_eq_true rfl, Nat.le_of_ble_eq_true rfl⟩ ⟨by show _ ≤ 601024; omega, by show _ ≤ 7293034; omega⟩ dL_law_378 (fun H locs hP hD hS => ?_)
    refine z_top (y := 1) rfl ?_
    refine lv_iload hx hb dL_law_381 (lv_at hl 1 rfl) ?_
    refine lv_icmp_eq (tgt := 388) hx hb dL_law_383 (by decide) (fun c_6 => ?_) (fun c_6 => ?_)
    · skip
      refine lv_iload hx hb dL_law_388 (lv_at hl 1 rfl) ?_
      refine lv_if_ne (tgt := 405) hx hb dL_law_390 (by decide) (fun c_7 => ?_) (fun c_7 => ?_)
      · skip
        refine lv_goto (tgt := 1447) hx hb dL_law_405 (by decide) ?_
        obtain ⟨hP, hD⟩ := zp_5 hP hD
        refine W.widen (k := cells + 3) (n := slots + 18) (by omega) (by omega) ?_
        exact kk _ ⟨S, F, TS, TF, ES, EF, HS, KS, KF, X, B, (upd V 1 1), G, OL, p, n, L, rfl, (lwR_v hR rfl rfl)⟩ _ _ _ hP hD hS (lv_sub hl [2, 3, 4, 5, 6] rfl)
      · skip
        first | exact absurd c_7 (by decide) | exact absurd (by decide) c_7 | exact absurd rfl c_7
    · skip
      first | exact absurd c_6 (by decide) | exact absurd (by decide) c_6 | exact absurd rfl c_6

set_option maxHeartbeats 4000000 in
set_option maxRecDepth 100000 in
theorem law_setAir {pq : Program} (l : Launch) {eq : Env} {s : State} {mq : MethodId} {below : List Frame} {meth : Method} {cq : Code} {A : Nat → Prop} {D : va_G} {cs : zCs} {b Ls i : Nat} {xs : Nat → Int32} {H : Heap} {locs : List Loc} {ls : Array Slot} {cells slots : Nat} {Q : State → Prop} {ad kd : Nat → Nat → Nat} {a : Nat → Nat} {ou : Nat} {S : Nat → Int32} {F : Nat → Nat → Int32} {TS : Nat → Int32} {TF : Nat → Nat → Int32} {ES : Nat → Int32} {EF : Nat → Nat → Int32} {HS : Nat → Int32} {KS : Nat → Nat → Int32} {KF : Nat → Nat → Nat → Int32} {X : Nat → Int32} {B : Nat → Nat → Int32} {V : Nat → Int32} {G : Nat → Nat → Int32} {OL : Nat → Int64} {p n L : Nat} (hfl : l.stackTraces = false) (hx : pq.tables.exec = Jvm.exec) (hb : cq.code = cL_law) (hml : cq.maxLocals = 9) (hown : s.vm.findClass RL = some mq.cls) (hts : ∀ w ∈ wsG, w.before #[Value.ref b] s = true) (hXs : va_X b Ls xs s s.heap) (hbl : b < s.heap.size) (hbA : ¬ A b) (hE : zE A s) (hK : va_K D vwCl (zT cs) s) (hA : ∀ q : Nat, s.heap.size ≤ q → A q) (hLs : Ls ≤ 2560) (hi : i + 5 ≤ Ls) (hce : cells + 3 ≤ 601024) (hsl : slots + 18 ≤ 7293034) (hR : lwR S F HS KS KF X B V G p n L) (hP : va_P D vwCl ((camW ad) ++ (macW cs (ad 0) S F) ++ (macW cs (ad 1) TS TF) ++ (macW cs (ad 2) ES EF) ++ (hisW cs (ad 4) kd HS) ++ (macW cs (kd 0) (KS 0) (KF 0)) ++ (macW cs (kd 1) (KS 1) (KF 1)) ++ (macW cs (kd 2) (KS 2) (KF 2)) ++ (macW cs (kd 3) (KS 3) (KF 3)) ++ (txtW cs (ad 5) X B) ++ (refW cs a V G) ++ [(ou, .inl (cs.2.1, 1, .inr (.inl OL)))]) H) (hD : va_D A ((camW ad) ++ (macW cs (ad 0) S F) ++ (macW cs (ad 1) TS TF) ++ (macW cs (ad 2) ES EF) ++ (hisW cs (ad 4) kd HS) ++ (macW cs (kd 0) (KS 0) (KF 0)) ++ (macW cs (kd 1) (KS 1) (KF 1)) ++ (macW cs (kd 2) (KS 2) (KF 2)) ++ (macW cs (kd 3) (KS 3) (KF 3)) ++ (txtW cs (ad 5) X B) ++ (refW cs a V G) ++ [(ou, .inl (cs.2.1, 1, .inr (.inl OL)))])) (hS : va_S A s.heap H locs) (hl : lv_has ls 9 [(0, .ref b), (1, .ref (ad 3 0)), (2, .ref (a 0)), (3, .ref ou), (4, .int (nI i))]) (kk : ∀ (w : va_W), lwI cs ad kd a ou w → ∀ (H : Heap) (locs : List Loc) (ls : Array Slot), va_P D vwCl w H → va_D A w → va_S A s.heap H locs → lv_has ls 9 [(0, .ref b), (1, .ref (ad 3 0)), (2, .ref (a 0)), (3, .ref ou), (4, .int (nI i))] → W pq l eq room_1 s mq #[Value.ref b] below meth cq H locs (cells + 3) (slots + 18) Q (F0 mq 1447 ls [])) : W pq l eq room_1 s mq #[Value.ref b] below meth cq H locs cells slots Q (F0 mq 408 ls []) := by
  obtain ⟨⟨hp, hp4, hn, hn4, hsn⟩, hag, hrg, hX0, hL, h4, hGB, htx⟩ := id hR
  have e0 : G 0 0 = S 0 := agr_s hag (by omega)
  have e8 : G 0 8 = S 8 := agr_s hag (by omega)
  have e9 : G 0 9 = S 9 := agr_s hag (by omega)
  obtain ⟨hn2, hn16, hS0⟩ := lw_n0 hag
  obtain ⟨hg4, hS8, ez⟩ := lw_n8 hag
  have h0 : G 0 0 = nI (nN (S 0)) := e0.trans hS0
  have h8 : G 0 8 = nI (nN (S 8)) := e8.trans hS8
  have hok : rOK (G 0) := r_ok hag
  have ho : ∀ j, j < nN (S 8) → ∃ o, o < 5 ∧ G 0 (51 + 3 * j + 1) = nI o := lw_ho hag
  refine lv_aload_n hx hb dL_law_408 rfl (lv_at hl 1 rfl) ?_
  refine lv_aload_n hx hb dL_law_409 rfl (lv_at hl 0 rfl) ?_
  refine lv_iload hx hb dL_law_410 (lv_at hl 4 rfl) ?_
  refine lv_iconst (v := 1) hx hb dL_law_412 (by decide) ?_
  refine lv_iadd hx hb dL_law_413 ?_
  refine z_top (y := nI (i + 1)) (nI_add i 1) ?_
  refine z_scr (k := i + 1) hx hb hXs hbl hbA hS (by omega) hLs dL_law_414 ?_
  refine lv_aload_n hx hb dL_law_415 rfl (lv_at hl 0 rfl) ?_
  refine lv_iload hx hb dL_law_416 (lv_at hl 4 rfl) ?_
  refine lv_iconst (v := 2) hx hb dL_law_418 (by decide) ?_
  refine lv_iadd hx hb dL_law_419 ?_
  refine z_top (y := nI (i + 2)) (nI_add i 2) ?_
  refine z_scr (k := i + 2) hx hb hXs hbl hbA hS (by omega) hLs dL_law_420 ?_
  refine lv_aload_n hx hb dL_law_421 rfl (lv_at hl 3 rfl) ?_
  by_cases w0 : (100 ≤ (xs (i + 1)) ∧ (xs (i + 1)) ≤ 9999) ∧ (0 ≤ (xs (i + 2)) ∧ (xs (i + 2)) ≤ 500)
  · skip
    obtain ⟨hP, hD⟩ := zp_1 hP hD
    refine z_lawH ⟨hx, hb, hml, hown, hts⟩ zYw_setAir w_st_yL_setAir w_ml_L_97 [.ref (ad 3 0), .int (xs (i + 1)), .int (xs (i + 2)), .ref ou] [] (c_L_setAir_ok l D cs hfl ad S F kd HS KS KF p n (xs (i + 1)) (xs (i + 2)) ou OL hp hp4 hn hn4 (by rw [exT_t w0])) hE hK hA hP hD hS (z_la (z_la (z_la (z_la (z_la (z_la (z_la rfl (z_lm _ _ _ _ _ _)) (z_lh _ _ _ _ _)) (z_lm _ _ _ _ _ _)) (z_lm _ _ _ _ _ _)) (z_lm _ _ _ _ _ _)) (z_lm _ _ _ _ _ _)) (z_lo _ _ _ _)) rfl hl.1 (Nat.le_of_ble_eq_true rfl) ⟨Nat.le_of_ble_eq_true rfl, Nat.le_of_ble_eq_true rfl⟩ ⟨by show _ ≤ 601024; omega, by show _ ≤ 7293034; omega⟩ dL_law_422 (fun H locs hP hD hS => ?_)
    refine lv_istore (lv' := [(5, .int 0), (0, .ref b), (1, .ref (ad 3 0)), (2, .ref (a 0)), (3, .ref ou), (4, .int (nI i))]) hx hb dL_law_425 hl (by decide) rfl (fun ls hl => ?_)
    refine lv_aload_n hx hb dL_law_427 rfl (lv_at hl 3 rfl) ?_
    refine lv_aload_n hx hb dL_law_428 rfl (lv_at hl 1 rfl) ?_
    refine lv_iload hx hb dL_law_429 (lv_at hl 5 rfl) ?_
    refine lv_iconst (v := 1) hx hb dL_law_431 (by decide) ?_
    refine lv_iadd hx hb dL_law_432 ?_
    refine z_top (y := nI (i + 1)) (nI_add i 1) ?_
    refine z_scr (k := i + 1) hx hb hXs hbl hbA hS (by omega) hLs dL_law_433 ?_
    refine lv_aload_n hx hb dL_law_434 rfl (lv_at hl 1 rfl) ?_
    refine lv_iload hx hb dL_law_435 (lv_at hl 5 rfl) ?_
    refine lv_iconst (v := 2) hx hb dL_law_437 (by decide) ?_
    refine lv_iadd hx hb dL_law_438 ?_
    refine z_top (y := nI (i + 2)) (nI_add i 2) ?_
    refine z_scr (k := i + 2) hx hb hXs hbl hbA hS (by omega) hLs dL_law_439 ?_
    obtain ⟨hP, hD⟩ := zp_2 hP hD
    refine z_lawV ⟨hx, hb, hml, hown, hts⟩ zY_X8_setAir w_im_yX8_setAir w_se_yX8_setAir w_ml_L_99 [.int (xs (i + 1)), .int (xs (i + 2))] [] (c_X8_setAir_ok l D cs a V G n (xs (i + 1)) (xs (i + 2)) hsn hn4 w0.1 w0.2) hE hK hA hP hD hS (z_lr _ _ _ _ _ _) 8 rfl rfl rfl rfl hl.1 (Nat.le_of_ble_eq_true rfl) ⟨Nat.le_of_ble_eq_true rfl, Nat.le_of_ble_eq_true rfl⟩ ⟨by show _ ≤ 601024; omega, by show _ ≤ 7293034; omega⟩ dL_law_440 (fun H locs hP hD hS => ?_)
    refine lv_istore (lv' := [(6, .int ((rOff (upd (upd (G 0) 6 (xs (i + 1))) 7 (xs (i + 2)))) 5)), (5, .int 0), (0, .ref b), (1, .ref (ad 3 0)), (2, .ref (a 0)), (3, .ref ou), (4, .int (nI i))]) hx hb dL_law_443 hl (by decide) rfl (fun ls hl => ?_)
    refine lv_aload_n hx hb dL_law_445 rfl (lv_at hl 4 rfl) ?_
    refine z_lawV ⟨hx, hb, hml, hown, hts⟩ zY_X8_thrown w_im_yX8_thrown w_se_yX8_thrown w_ml_L_86 [] [] (c_X8_thrown l D cs a ((upd (upd V 0 (nI (min (n + 1) 4))) 1 0)) ((zU (zU G 0 (rOff (upd (upd (G 0) 6 (xs (i + 1))) 7 (xs (i + 2))))) 1 (svF n (G 1) (G 0))))) hE hK hA hP hD hS (z_lr _ _ _ _ _ _) 8 rfl rfl rfl rfl hl.1 (Nat.le_of_ble_eq_true rfl) ⟨Nat.le_of_ble_eq_true rfl, Nat.le_of_ble_eq_true rfl⟩ ⟨by show _ ≤ 601024; omega, by show _ ≤ 7293034; omega⟩ dL_law_446 (fun H locs hP hD hS => ?_)
    refine z_top (y := 0) rfl ?_
    refine lv_iload hx hb dL_law_449 (lv_at hl 1 rfl) ?_
    refine lv_icmp_eq (tgt := 456) hx hb dL_law_451 (by decide) (fun c_1 => ?_) (fun c_1 => ?_)
    · skip
      refine lv_iload hx hb dL_law_456 (lv_at hl 1 rfl) ?_
      refine lv_if_ne (tgt := 473) hx hb dL_law_458 (by decide) (fun c_2 => ?_) (fun c_2 => ?_)
      · skip
        first | exact absurd c_2 (by decide) | exact absurd (by decide) c_2 | exact absurd rfl c_2
      · skip
        refine lv_aload_n hx hb dL_law_461 rfl (lv_at hl 5 rfl) ?_
        refine lv_iconst (v := 0) hx hb dL_law_462 (by decide) ?_
        obtain ⟨hP, hD⟩ := zp_3 hP hD
        refine z_lout (q0 := 0) (v := (airOff (upd (upd S 6 (xs (i + 1))) 7 (xs (i + 2))) 5).toInt64) hx hb hK hP rfl dL_law_463 rfl ?_
        refine lv_iload hx hb dL_law_464 (lv_at hl 0 rfl) ?_
        refine lv_i2l (v := ((rOff (upd (upd (G 0) 6 (xs (i + 1))) 7 (xs (i + 2)))) 5).toInt64) hx hb dL_law_466 rfl ?_
        refine z_lcmp_eq (tgt := 473) hx hb dL_law_467 dL_law_468 (by decide) (fun c_3 => ?_) (fun c_3 => ?_)
        · skip
          refine lv_goto (tgt := 1447) hx hb dL_law_473 (by decide) ?_
          obtain ⟨hP, hD⟩ := zp_4 hP hD
          refine W.widen (k := cells + 3) (n := slots + 18) (by omega) (by omega) ?_
          exact kk _ ⟨(airOff (upd (upd S 6 (xs (i + 1))) 7 (xs (i + 2)))), F, TS, TF, ES, EF, (upd (upd HS 0 (nI (hNx p))) 1 (nI (min (n + 1) 4))), (kup KS (hNx p) S), (kup KF (hNx p) F), X, B, (upd (upd V 0 (nI (min (n + 1) 4))) 1 0), (zU (zU G 0 (rOff (upd (upd (G 0) 6 (xs (i + 1))) 7 (xs (i + 2))))) 1 (svF n (G 1) (G 0))), (vp_updL OL 0 (airOff (upd (upd S 6 (xs (i + 1))) 7 (xs (i + 2))) 5).toInt64), (hNx p), (min (n + 1) 4), L, rfl, (lwR_save hR (s_setAir hag w0.1 w0.2).1 rfl rfl rfl rfl rfl rfl rfl)⟩ _ _ _ hP hD hS (lv_sub hl [2, 3, 4, 5, 6] rfl)
        · exact absurd (congrArg Int32.toInt64 ((s_setAir hag w0.1 w0.2).2.symm)) c_3
    · skip
      first | exact absurd c_1 (by decide) | exact absurd (by decide) c_1 | exact absurd rfl c_1
  · skip
    obtain ⟨hP, hD⟩ := zp_1 hP hD
    refine z_lawH ⟨hx, hb, hml, hown, hts⟩ zYw_setAir w_st_yL_setAir w_ml_L_97 [.ref (ad 3 0), .int (xs (i + 1)), .int (xs (i + 2)), .ref ou] [] (c_L_setAir_e1 l D cs hfl ad S F kd HS KS KF p n (xs (i + 1)) (xs (i + 2)) ou OL hp hp4 hn hn4 (by rw [exT_f w0])) hE hK hA hP hD hS (z_la (z_la (z_la (z_la (z_la (z_la (z_la rfl (z_lm _ _ _ _ _ _)) (z_lh _ _ _ _ _)) (z_lm _ _ _ _ _ _)) (z_lm _ _ _ _ _ _)) (z_lm _ _ _ _ _ _)) (z_lm _ _ _ _ _ _)) (z_lo _ _ _ _)) rfl hl.1 (Nat.le_of_ble_eq_true rfl) ⟨Nat.le_of_ble_eq_true rfl, Nat.le_of_ble_eq_true rfl⟩ ⟨by show _ ≤ 601024; omega, by show _ ≤ 7293034; omega⟩ dL_law_422 (fun H locs hP hD hS => ?_)
    refine lv_istore (lv' := [(5, .int 1), (0, .ref b), (1, .ref (ad 3 0)), (2, .ref (a 0)), (3, .ref ou), (4, .int (nI i))]) hx hb dL_law_425 hl (by decide) rfl (fun ls hl => ?_)
    refine lv_aload_n hx hb dL_law_427 rfl (lv_at hl 3 rfl) ?_
    refine lv_aload_n hx hb dL_law_428 rfl (lv_at hl 1 rfl) ?_
    refine lv_iload hx hb dL_law_429 (lv_at hl 5 rfl) ?_
    refine lv_iconst (v := 1) hx hb dL_law_431 (by decide) ?_
    refine lv_iadd hx hb dL_law_432 ?_
    refine z_top (y := nI (i + 1)) (nI_add i 1) ?_
    refine z_scr (k := i + 1) hx hb hXs hbl hbA hS (by omega) hLs dL_law_433 ?_
    refine lv_aload_n hx hb dL_law_434 rfl (lv_at hl 1 rfl) ?_
    refine lv_iload hx hb dL_law_435 (lv_at hl 5 rfl) ?_
    refine lv_iconst (v := 2) hx hb dL_law_437 (by decide) ?_
    refine lv_iadd hx hb dL_law_438 ?_
    refine z_top (y := nI (i + 2)) (nI_add i 2) ?_
    refine z_scr (k := i + 2) hx hb hXs hbl hbA hS (by omega) hLs dL_law_439 ?_
    obtain ⟨hP, hD⟩ := zp_2 hP hD
    refine z_lawV ⟨hx, hb, hml, hown, hts⟩ zY_X8_setAir w_im_yX8_setAir w_se_yX8_setAir w_ml_L_99 [.int (xs (i + 1)), .int (xs (i + 2))] [] (c_X8_setAir_t1 l D cs a V G n (xs (i + 1)) (xs (i + 2)) hsn hn4 w0) hE hK hA hP hD hS (z_lr _ _ _ _ _ _) 8 rfl rfl rfl rfl hl.1 (Nat.le_of_ble_eq_true rfl) ⟨Nat.le_of_ble_eq_true rfl, Nat.le_of_ble_eq_true rfl⟩ ⟨by show _ ≤ 601024; omega, by show _ ≤ 7293034; omega⟩ dL_law_440 (fun H locs hP hD hS => ?_)
    refine lv_istore (lv' := [(6, .int 0), (5, .int 1), (0, .ref b), (1, .ref (ad 3 0)), (2, .ref (a 0)), (3, .ref ou), (4, .int (nI i))]) hx hb dL_law_443 hl (by decide) rfl (fun ls hl => ?_)
    refine lv_aload_n hx hb dL_law_445 rfl (lv_at hl 4 rfl) ?_
    refine z_lawV ⟨hx, hb, hml, hown, hts⟩ zY_X8_thrown w_im_yX8_thrown w_se_yX8_thrown w_ml_L_86 [] [] (c_X8_thrown l D cs a ((upd V 1 1)) G) hE hK hA hP hD hS (z_lr _ _ _ _ _ _) 8 rfl rfl rfl rfl hl.1 (Nat.le_of_ble_eq_true rfl) ⟨Nat.le_of_ble_eq_true rfl, Nat.le_of_ble_eq_true rfl⟩ ⟨by show _ ≤ 601024; omega, by show _ ≤ 7293034; omega⟩ dL_law_446 (fun H locs hP hD hS => ?_)
    refine z_top (y := 1) rfl ?_
    refine lv_iload hx hb dL_law_449 (lv_at hl 1 rfl) ?_
    refine lv_icmp_eq (tgt := 456) hx hb dL_law_451 (by decide) (fun c_4 => ?_) (fun c_4 => ?_)
    · skip
      refine lv_iload hx hb dL_law_456 (lv_at hl 1 rfl) ?_
      refine lv_if_ne (tgt := 473) hx hb dL_law_458 (by decide) (fun c_5 => ?_) (fun c_5 => ?_)
      · skip
        refine lv_goto (tgt := 1447) hx hb dL_law_473 (by decide) ?_
        obtain ⟨hP, hD⟩ := zp_5 hP hD
        refine W.widen (k := cells + 3) (n := slots + 18) (by omega) (by omega) ?_
        exact kk _ ⟨S, F, TS, TF, ES, EF, HS, KS, KF, X, B, (upd V 1 1), G, OL, p, n, L, rfl, (lwR_v hR rfl rfl)⟩ _ _ _ hP hD hS (lv_sub hl [2, 3, 4, 5, 6] rfl)
      · skip
        first | exact absurd c_5 (by decide) | exact absurd (by decide) c_5 | exact absurd rfl c_5
    · skip
      first | exact absurd c_4 (by decide) | exact absurd (by decide) c_4 | exact absurd rfl c_4

set_option maxHeartbeats 4000000 in
set_option maxRecDepth 100000 in
theorem law_addGuard {pq : Program} (l : Launch) {eq : Env} {s : State} {mq : MethodId} {below : List Frame} {meth : Method} {cq : Code} {A : Nat → Prop} {D : va_G} {cs : zCs} {b Ls i : Nat} {xs : Nat → Int32} {H : Heap} {locs : List Loc} {ls : Array Slot} {cells slots : Nat} {Q : State → Prop} {ad kd : Nat → Nat → Nat} {a : Nat → Nat} {ou : Nat} {S : Nat → Int32} {F : Nat → Nat → Int32} {TS : Nat → Int32} {TF : Nat → Nat → Int32} {ES : Nat → Int32} {EF : Nat → Nat → Int32} {HS : Nat → Int32} {KS : Nat → Nat → Int32} {KF : Nat → Nat → Nat → Int32} {X : Nat → Int32} {B : Nat → Nat → Int32} {V : Nat → Int32} {G : Nat → Nat → Int32} {OL : Nat → Int64} {p n L : Nat} (hfl : l.stackTraces = false) (hx : pq.tables.exec = Jvm.exec) (hb : cq.code = cL_law) (hml : cq.maxLocals = 9) (hown : s.vm.findClass RL = some mq.cls) (hts : ∀ w ∈ wsG, w.before #[Value.ref b] s = true) (hXs : va_X b Ls xs s s.heap) (hbl : b < s.heap.size) (hbA : ¬ A b) (hE : zE A s) (hK : va_K D vwCl (zT cs) s) (hA : ∀ q : Nat, s.heap.size ≤ q → A q) (hLs : Ls ≤ 2560) (hi : i + 5 ≤ Ls) (hce : cells + 3 ≤ 601024) (hsl : slots + 18 ≤ 7293034) (hR : lwR S F HS KS KF X B V G p n L) (hP : va_P D vwCl ((camW ad) ++ (macW cs (ad 0) S F) ++ (macW cs (ad 1) TS TF) ++ (macW cs (ad 2) ES EF) ++ (hisW cs (ad 4) kd HS) ++ (macW cs (kd 0) (KS 0) (KF 0)) ++ (macW cs (kd 1) (KS 1) (KF 1)) ++ (macW cs (kd 2) (KS 2) (KF 2)) ++ (macW cs (kd 3) (KS 3) (KF 3)) ++ (txtW cs (ad 5) X B) ++ (refW cs a V G) ++ [(ou, .inl (cs.2.1, 1, .inr (.inl OL)))]) H) (hD : va_D A ((camW ad) ++ (macW cs (ad 0) S F) ++ (macW cs (ad 1) TS TF) ++ (macW cs (ad 2) ES EF) ++ (hisW cs (ad 4) kd HS) ++ (macW cs (kd 0) (KS 0) (KF 0)) ++ (macW cs (kd 1) (KS 1) (KF 1)) ++ (macW cs (kd 2) (KS 2) (KF 2)) ++ (macW cs (kd 3) (KS 3) (KF 3)) ++ (txtW cs (ad 5) X B) ++ (refW cs a V G) ++ [(ou, .inl (cs.2.1, 1, .inr (.inl OL)))])) (hS : va_S A s.heap H locs) (hl : lv_has ls 9 [(0, .ref b), (1, .ref (ad 3 0)), (2, .ref (a 0)), (3, .ref ou), (4, .int (nI i))]) (kk : ∀ (w : va_W), lwI cs ad kd a ou w → ∀ (H : Heap) (locs : List Loc) (ls : Array Slot), va_P D vwCl w H → va_D A w → va_S A s.heap H locs → lv_has ls 9 [(0, .ref b), (1, .ref (ad 3 0)), (2, .ref (a 0)), (3, .ref ou), (4, .int (nI i))] → W pq l eq room_1 s mq #[Value.ref b] below meth cq H locs (cells + 3) (slots + 18) Q (F0 mq 1447 ls [])) : W pq l eq room_1 s mq #[Value.ref b] below meth cq H locs cells slots Q (F0 mq 476 ls []) := by
  obtain ⟨⟨hp, hp4, hn, hn4, hsn⟩, hag, hrg, hX0, hL, h4, hGB, htx⟩ := id hR
  have e0 : G 0 0 = S 0 := agr_s hag (by omega)
  have e8 : G 0 8 = S 8 := agr_s hag (by omega)
  have e9 : G 0 9 = S 9 := agr_s hag (by omega)
  obtain ⟨hn2, hn16, hS0⟩ := lw_n0 hag
  obtain ⟨hg4, hS8, ez⟩ := lw_n8 hag
  have h0 : G 0 0 = nI (nN (S 0)) := e0.trans hS0
  have h8 : G 0 8 = nI (nN (S 8)) := e8.trans hS8
  have hok : rOK (G 0) := r_ok hag
  have ho : ∀ j, j < nN (S 8) → ∃ o, o < 5 ∧ G 0 (51 + 3 * j + 1) = nI o := lw_ho hag
  refine lv_aload_n hx hb dL_law_476 rfl (lv_at hl 1 rfl) ?_
  refine lv_aload_n hx hb dL_law_477 rfl (lv_at hl 0 rfl) ?_
  refine lv_iload hx hb dL_law_478 (lv_at hl 4 rfl) ?_
  refine lv_iconst (v := 1) hx hb dL_law_480 (by decide) ?_
  refine lv_iadd hx hb dL_law_481 ?_
  refine z_top (y := nI (i + 1)) (nI_add i 1) ?_
  refine z_scr (k := i + 1) hx hb hXs hbl hbA hS (by omega) hLs dL_law_482 ?_
  refine lv_aload_n hx hb dL_law_483 rfl (lv_at hl 0 rfl) ?_
  refine lv_iload hx hb dL_law_484 (lv_at hl 4 rfl) ?_
  refine lv_iconst (v := 2) hx hb dL_law_486 (by decide) ?_
  refine lv_iadd hx hb dL_law_487 ?_
  refine z_top (y := nI (i + 2)) (nI_add i 2) ?_
  refine z_scr (k := i + 2) hx hb hXs hbl hbA hS (by omega) hLs dL_law_488 ?_
  refine lv_aload_n hx hb dL_law_489 rfl (lv_at hl 0 rfl) ?_
  refine lv_iload hx hb dL_law_490 (lv_at hl 4 rfl) ?_
  refine lv_iconst (v := 3) hx hb dL_law_492 (by decide) ?_
  refine lv_iadd hx hb dL_law_493 ?_
  refine z_top (y := nI (i + 3)) (nI_add i 3) ?_
  refine z_scr (k := i + 3) hx hb hXs hbl hbA hS (by omega) hLs dL_law_494 ?_
  refine lv_aload_n hx hb dL_law_495 rfl (lv_at hl 3 rfl) ?_
  by_cases w0 : 0 ≤ (xs (i + 1)) ∧ (xs (i + 1)) ≤ 4
  · skip
    by_cases w1 : 0 ≤ (xs (i + 2)) ∧ (xs (i + 2)) ≤ 4
    · skip
      by_cases w2 : (¬ (xs (i + 1)) = (xs (i + 2))) ∧ (1 ≤ (xs (i + 3)) ∧ (xs (i + 3)) ≤ 99)
      · skip
        by_cases w3 : (S 8) < 4
        · skip
          obtain ⟨hP, hD⟩ := zp_1 hP hD
          refine z_lawH ⟨hx, hb, hml, hown, hts⟩ zYw_addGuard w_st_yL_addGuard w_ml_L_100 [.ref (ad 3 0), .int (xs (i + 1)), .int (xs (i + 2)), .int (xs (i + 3)), .ref ou] [] (c_L_addGuard_ok l D cs hfl ad S F kd HS KS KF p n (xs (i + 1)) (xs (i + 2)) (xs (i + 3)) ou OL hp hp4 hn hn4 (lw_g0 hag) (by rw [exT_t w0, exT_t w1, exT_t w2, exT_t w3])) hE hK hA hP hD hS (z_la (z_la (z_la (z_la (z_la (z_la (z_la rfl (z_lm _ _ _ _ _ _)) (z_lh _ _ _ _ _)) (z_lm _ _ _ _ _ _)) (z_lm _ _ _ _ _ _)) (z_lm _ _ _ _ _ _)) (z_lm _ _ _ _ _ _)) (z_lo _ _ _ _)) rfl hl.1 (Nat.le_of_ble_eq_true rfl) ⟨Nat.le_of_ble_eq_true rfl, Nat.le_of_ble_eq_true rfl⟩ ⟨by show _ ≤ 601024; omega, by show _ ≤ 7293034; omega⟩ dL_law_496 (fun H locs hP hD hS => ?_)
          refine lv_istore (lv' := [(5, .int 0), (0, .ref b), (1, .ref (ad 3 0)), (2, .ref (a 0)), (3, .ref ou), (4, .int (nI i))]) hx hb dL_law_499 hl (by decide) rfl (fun ls hl => ?_)
          refine lv_aload_n hx hb dL_law_501 rfl (lv_at hl 3 rfl) ?_
          refine lv_aload_n hx hb dL_law_502 rfl (lv_at hl 1 rfl) ?_
          refine lv_iload hx hb dL_law_503 (lv_at hl 5 rfl) ?_
          refine lv_iconst (v := 1) hx hb dL_law_505 (by decide) ?_
          refine lv_iadd hx hb dL_law_506 ?_
          refine z_top (y := nI (i + 1)) (nI_add i 1) ?_
          refine z_scr (k := i + 1) hx hb hXs hbl hbA hS (by omega) hLs dL_law_507 ?_
          refine lv_aload_n hx hb dL_law_508 rfl (lv_at hl 1 rfl) ?_
          refine lv_iload hx hb dL_law_509 (lv_at hl 5 rfl) ?_
          refine lv_iconst (v := 2) hx hb dL_law_511 (by decide) ?_
          refine lv_iadd hx hb dL_law_512 ?_
          refine z_top (y := nI (i + 2)) (nI_add i 2) ?_
          refine z_scr (k := i + 2) hx hb hXs hbl hbA hS (by omega) hLs dL_law_513 ?_
          refine lv_aload_n hx hb dL_law_514 rfl (lv_at hl 1 rfl) ?_
          refine lv_iload hx hb dL_law_515 (lv_at hl 5 rfl) ?_
          refine lv_iconst (v := 3) hx hb dL_law_517 (by decide) ?_
          refine lv_iadd hx hb dL_law_518 ?_
          refine z_top (y := nI (i + 3)) (nI_add i 3) ?_
          refine z_scr (k := i + 3) hx hb hXs hbl hbA hS (by omega) hLs dL_law_519 ?_
          obtain ⟨hP, hD⟩ := zp_2 hP hD
          refine z_lawV ⟨hx, hb, hml, hown, hts⟩ zY_X8_addGuard w_im_yX8_addGuard w_se_yX8_addGuard w_ml_L_103 [.int (xs (i + 1)), .int (xs (i + 2)), .int (xs (i + 3))] [] (c_X8_addGuard_ok l D cs a V G n (xs (i + 1)) (xs (i + 2)) (xs (i + 3)) (nN (S 8)) hsn hn4 h8 hg4 w0 w1 w2.1 w2.2 ((lw_gl hag).mp w3)) hE hK hA hP hD hS (z_lr _ _ _ _ _ _) 8 rfl rfl rfl rfl hl.1 (Nat.le_of_ble_eq_true rfl) ⟨Nat.le_of_ble_eq_true rfl, Nat.le_of_ble_eq_true rfl⟩ ⟨by show _ ≤ 601024; omega, by show _ ≤ 7293034; omega⟩ dL_law_520 (fun H locs hP hD hS => ?_)
          refine lv_istore (lv' := [(6, .int (nI (nN (S 8)))), (5, .int 0), (0, .ref b), (1, .ref (ad 3 0)), (2, .ref (a 0)), (3, .ref ou), (4, .int (nI i))]) hx hb dL_law_523 hl (by decide) rfl (fun ls hl => ?_)
          refine lv_aload_n hx hb dL_law_525 rfl (lv_at hl 4 rfl) ?_
          refine z_lawV ⟨hx, hb, hml, hown, hts⟩ zY_X8_thrown w_im_yX8_thrown w_se_yX8_thrown w_ml_L_86 [] [] (c_X8_thrown l D cs a ((upd (upd V 0 (nI (min (n + 1) 4))) 1 0)) ((zU (zU G 0 (upd (upd (upd (upd (G 0) (51 + 3 * nN (S 8)) (xs (i + 1))) (51 + 3 * nN (S 8) + 1) (xs (i + 2))) (51 + 3 * nN (S 8) + 2) (xs (i + 3))) 8 (nI (nN (S 8) + 1)))) 1 (svF n (G 1) (G 0))))) hE hK hA hP hD hS (z_lr _ _ _ _ _ _) 8 rfl rfl rfl rfl hl.1 (Nat.le_of_ble_eq_true rfl) ⟨Nat.le_of_ble_eq_true rfl, Nat.le_of_ble_eq_true rfl⟩ ⟨by show _ ≤ 601024; omega, by show _ ≤ 7293034; omega⟩ dL_law_526 (fun H locs hP hD hS => ?_)
          refine z_top (y := 0) rfl ?_
          refine lv_iload hx hb dL_law_529 (lv_at hl 1 rfl) ?_
          refine lv_icmp_eq (tgt := 536) hx hb dL_law_531 (by decide) (fun c_1 => ?_) (fun c_1 => ?_)
          · skip
            refine lv_iload hx hb dL_law_536 (lv_at hl 1 rfl) ?_
            refine lv_if_ne (tgt := 553) hx hb dL_law_538 (by decide) (fun c_2 => ?_) (fun c_2 => ?_)
            · skip
              first | exact absurd c_2 (by decide) | exact absurd (by decide) c_2 | exact absurd rfl c_2
            · skip
              refine lv_aload_n hx hb dL_law_541 rfl (lv_at hl 5 rfl) ?_
              refine lv_iconst (v := 0) hx hb dL_law_542 (by decide) ?_
              obtain ⟨hP, hD⟩ := zp_3 hP hD
              refine z_lout (q0 := 0) (v := ((S 8) + 1 - 1).toInt64) hx hb hK hP rfl dL_law_543 rfl ?_
              refine lv_iload hx hb dL_law_544 (lv_at hl 0 rfl) ?_
              refine lv_i2l (v := (nI (nN (S 8))).toInt64) hx hb dL_law_546 rfl ?_
              refine z_lcmp_eq (tgt := 553) hx hb dL_law_547 dL_law_548 (by decide) (fun c_3 => ?_) (fun c_3 => ?_)
              · skip
                refine lv_goto (tgt := 1447) hx hb dL_law_553 (by decide) ?_
                obtain ⟨hP, hD⟩ := zp_4 hP hD
                refine W.widen (k := cells + 3) (n := slots + 18) (by omega) (by omega) ?_
                exact kk _ ⟨(upd S 8 ((S 8) + 1)), (zU (zU (zU F 7 (upd (F 7) (S 8).toNatClampNeg (xs (i + 1)))) 8 (upd (F 8) (S 8).toNatClampNeg (xs (i + 2)))) 9 (upd (F 9) (S 8).toNatClampNeg (xs (i + 3)))), TS, TF, ES, EF, (upd (upd HS 0 (nI (hNx p))) 1 (nI (min (n + 1) 4))), (kup KS (hNx p) S), (kup KF (hNx p) F), X, B, (upd (upd V 0 (nI (min (n + 1) 4))) 1 0), (zU (zU G 0 (upd (upd (upd (upd (G 0) (51 + 3 * nN (S 8)) (xs (i + 1))) (51 + 3 * nN (S 8) + 1) (xs (i + 2))) (51 + 3 * nN (S 8) + 2) (xs (i + 3))) 8 (nI (nN (S 8) + 1)))) 1 (svF n (G 1) (G 0))), (vp_updL OL 0 ((S 8) + 1 - 1).toInt64), (hNx p), (min (n + 1) 4), L, rfl, (lwR_save hR (s_addGuard hag hS8 w0 w1 w2.2 (lw_g4 hag w3)) rfl rfl rfl rfl rfl rfl rfl)⟩ _ _ _ hP hD hS (lv_sub hl [2, 3, 4, 5, 6] rfl)
              · exact absurd (congrArg Int32.toInt64 (lw_ag hag)) c_3
          · skip
            first | exact absurd c_1 (by decide) | exact absurd (by decide) c_1 | exact absurd rfl c_1
        · skip
          obtain ⟨hP, hD⟩ := zp_1 hP hD
          refine z_lawH ⟨hx, hb, hml, hown, hts⟩ zYw_addGuard w_st_yL_addGuard w_ml_L_100 [.ref (ad 3 0), .int (xs (i + 1)), .int (xs (i + 2)), .int (xs (i + 3)), .ref ou] [] (c_L_addGuard_e3 l D cs hfl ad S F kd HS KS KF p n (xs (i + 1)) (xs (i + 2)) (xs (i + 3)) ou OL hp hp4 hn hn4 (lw_g0 hag) (by rw [exT_t w0, exT_t w1, exT_t w2, exT_f w3])) hE hK hA hP hD hS (z_la (z_la (z_la (z_la (z_la (z_la (z_la rfl (z_lm _ _ _ _ _ _)) (z_lh _ _ _ _ _)) (z_lm _ _ _ _ _ _)) (z_lm _ _ _ _ _ _)) (z_lm _ _ _ _ _ _)) (z_lm _ _ _ _ _ _)) (z_lo _ _ _ _)) rfl hl.1 (Nat.le_of_ble_eq_true rfl) ⟨Nat.le_of_ble_eq_true rfl, Nat.le_of_ble_eq_true rfl⟩ ⟨by show _ ≤ 601024; omega, by show _ ≤ 7293034; omega⟩ dL_law_496 (fun H locs hP hD hS => ?_)
          refine lv_istore (lv' := [(5, .int 3), (0, .ref b), (1, .ref (ad 3 0)), (2, .ref (a 0)), (3, .ref ou), (4, .int (nI i))]) hx hb dL_law_499 hl (by decide) rfl (fun ls hl => ?_)
          refine lv_aload_n hx hb dL_law_501 rfl (lv_at hl 3 rfl) ?_
          refine lv_aload_n hx hb dL_law_502 rfl (lv_at hl 1 rfl) ?_
          refine lv_iload hx hb dL_law_503 (lv_at hl 5 rfl) ?_
          refine lv_iconst (v := 1) hx hb dL_law_505 (by decide) ?_
          refine lv_iadd hx hb dL_law_506 ?_
          refine z_top (y := nI (i + 1)) (nI_add i 1) ?_
          refine z_scr (k := i + 1) hx hb hXs hbl hbA hS (by omega) hLs dL_law_507 ?_
          refine lv_aload_n hx hb dL_law_508 rfl (lv_at hl 1 rfl) ?_
          refine lv_iload hx hb dL_law_509 (lv_at hl 5 rfl) ?_
          refine lv_iconst (v := 2) hx hb dL_law_511 (by decide) ?_
          refine lv_iadd hx hb dL_law_512 ?_
          refine z_top (y := nI (i + 2)) (nI_add i 2) ?_
          refine z_scr (k := i + 2) hx hb hXs hbl hbA hS (by omega) hLs dL_law_513 ?_
          refine lv_aload_n hx hb dL_law_514 rfl (lv_at hl 1 rfl) ?_
          refine lv_iload hx hb dL_law_515 (lv_at hl 5 rfl) ?_
          refine lv_iconst (v := 3) hx hb dL_law_517 (by decide) ?_
          refine lv_iadd hx hb dL_law_518 ?_
          refine z_top (y := nI (i + 3)) (nI_add i 3) ?_
          refine z_scr (k := i + 3) hx hb hXs hbl hbA hS (by omega) hLs dL_law_519 ?_
          obtain ⟨hP, hD⟩ := zp_2 hP hD
          refine z_lawV ⟨hx, hb, hml, hown, hts⟩ zY_X8_addGuard w_im_yX8_addGuard w_se_yX8_addGuard w_ml_L_103 [.int (xs (i + 1)), .int (xs (i + 2)), .int (xs (i + 3))] [] (c_X8_addGuard_t3 l D cs a V G n (xs (i + 1)) (xs (i + 2)) (xs (i + 3)) (nN (S 8)) hsn hn4 h8 hg4 w0 w1 w2.1 w2.2 (fun z => w3 ((lw_gl hag).mpr z))) hE hK hA hP hD hS (z_lr _ _ _ _ _ _) 8 rfl rfl rfl rfl hl.1 (Nat.le_of_ble_eq_true rfl) ⟨Nat.le_of_ble_eq_true rfl, Nat.le_of_ble_eq_true rfl⟩ ⟨by show _ ≤ 601024; omega, by show _ ≤ 7293034; omega⟩ dL_law_520 (fun H locs hP hD hS => ?_)
          refine lv_istore (lv' := [(6, .int 0), (5, .int 3), (0, .ref b), (1, .ref (ad 3 0)), (2, .ref (a 0)), (3, .ref ou), (4, .int (nI i))]) hx hb dL_law_523 hl (by decide) rfl (fun ls hl => ?_)
          refine lv_aload_n hx hb dL_law_525 rfl (lv_at hl 4 rfl) ?_
          refine z_lawV ⟨hx, hb, hml, hown, hts⟩ zY_X8_thrown w_im_yX8_thrown w_se_yX8_thrown w_ml_L_86 [] [] (c_X8_thrown l D cs a ((upd V 1 3)) G) hE hK hA hP hD hS (z_lr _ _ _ _ _ _) 8 rfl rfl rfl rfl hl.1 (Nat.le_of_ble_eq_true rfl) ⟨Nat.le_of_ble_eq_true rfl, Nat.le_of_ble_eq_true rfl⟩ ⟨by show _ ≤ 601024; omega, by show _ ≤ 7293034; omega⟩ dL_law_526 (fun H locs hP hD hS => ?_)
          refine z_top (y := 3) rfl ?_
          refine lv_iload hx hb dL_law_529 (lv_at hl 1 rfl) ?_
          refine lv_icmp_eq (tgt := 536) hx hb dL_law_531 (by decide) (fun c_4 => ?_) (fun c_4 => ?_)
          · skip
            refine lv_iload hx hb dL_law_536 (lv_at hl 1 rfl) ?_
            refine lv_if_ne (tgt := 553) hx hb dL_law_538 (by decide) (fun c_5 => ?_) (fun c_5 => ?_)
            · skip
              refine lv_goto (tgt := 1447) hx hb dL_law_553 (by decide) ?_
              obtain ⟨hP, hD⟩ := zp_5 hP hD
              refine W.widen (k := cells + 3) (n := slots + 18) (by omega) (by omega) ?_
              exact kk _ ⟨S, F, TS, TF, ES, EF, HS, KS, KF, X, B, (upd V 1 3), G, OL, p, n, L, rfl, (lwR_v hR rfl rfl)⟩ _ _ _ hP hD hS (lv_sub hl [2, 3, 4, 5, 6] rfl)
            · skip
              first | exact absurd c_5 (by decide) | exact absurd (by decide) c_5 | exact absurd rfl c_5
          · skip
            first | exact absurd c_4 (by decide) | exact absurd (by decide) c_4 | exact absurd rfl c_4
      · skip
        obtain ⟨hP, hD⟩ := zp_1 hP hD
        refine z_lawH ⟨hx, hb, hml, hown, hts⟩ zYw_addGuard w_st_yL_addGuard w_ml_L_100 [.ref (ad 3 0), .int (xs (i + 1)), .int (xs (i + 2)), .int (xs (i + 3)), .ref ou] [] (c_L_addGuard_e2 l D cs hfl ad S F kd HS KS KF p n (xs (i + 1)) (xs (i + 2)) (xs (i + 3)) ou OL hp hp4 hn hn4 (lw_g0 hag) (by rw [exT_t w0, exT_t w1, exT_f w2])) hE hK hA hP hD hS (z_la (z_la (z_la (z_la (z_la (z_la (z_la rfl (z_lm _ _ _ _ _ _)) (z_lh _ _ _ _ _)) (z_lm _ _ _ _ _ _)) (z_lm _ _ _ _ _ _)) (z_lm _ _ _ _ _ _)) (z_lm _ _ _ _ _ _)) (z_lo _ _ _ _)) rfl hl.1 (Nat.le_of_ble_eq_true rfl) ⟨Nat.le_of_ble_eq_true rfl, Nat.le_of_ble_eq_true rfl⟩ ⟨by show _ ≤ 601024; omega, by show _ ≤ 7293034; omega⟩ dL_law_496 (fun H locs hP hD hS => ?_)
        refine lv_istore (lv' := [(5, .int 2), (0, .ref b), (1, .ref (ad 3 0)), (2, .ref (a 0)), (3, .ref ou), (4, .int (nI i))]) hx hb dL_law_499 hl (by decide) rfl (fun ls hl => ?_)
        refine lv_aload_n hx hb dL_law_501 rfl (lv_at hl 3 rfl) ?_
        refine lv_aload_n hx hb dL_law_502 rfl (lv_at hl 1 rfl) ?_
        refine lv_iload hx hb dL_law_503 (lv_at hl 5 rfl) ?_
        refine lv_iconst (v := 1) hx hb dL_law_505 (by decide) ?_
        refine lv_iadd hx hb dL_law_506 ?_
        refine z_top (y := nI (i + 1)) (nI_add i 1) ?_
        refine z_scr (k := i + 1) hx hb hXs hbl hbA hS (by omega) hLs dL_law_507 ?_
        refine lv_aload_n hx hb dL_law_508 rfl (lv_at hl 1 rfl) ?_
        refine lv_iload hx hb dL_law_509 (lv_at hl 5 rfl) ?_
        refine lv_iconst (v := 2) hx hb dL_law_511 (by decide) ?_
        refine lv_iadd hx hb dL_law_512 ?_
        refine z_top (y := nI (i + 2)) (nI_add i 2) ?_
        refine z_scr (k := i + 2) hx hb hXs hbl hbA hS (by omega) hLs dL_law_513 ?_
        refine lv_aload_n hx hb dL_law_514 rfl (lv_at hl 1 rfl) ?_
        refine lv_iload hx hb dL_law_515 (lv_at hl 5 rfl) ?_
        refine lv_iconst (v := 3) hx hb dL_law_517 (by decide) ?_
        refine lv_iadd hx hb dL_law_518 ?_
        refine z_top (y := nI (i + 3)) (nI_add i 3) ?_
        refine z_scr (k := i + 3) hx hb hXs hbl hbA hS (by omega) hLs dL_law_519 ?_
        obtain ⟨hP, hD⟩ := zp_2 hP hD
        refine z_lawV ⟨hx, hb, hml, hown, hts⟩ zY_X8_addGuard w_im_yX8_addGuard w_se_yX8_addGuard w_ml_L_103 [.int (xs (i + 1)), .int (xs (i + 2)), .int (xs (i + 3))] [] (c_X8_addGuard_t2 l D cs a V G n (xs (i + 1)) (xs (i + 2)) (xs (i + 3)) (nN (S 8)) hsn hn4 h8 hg4 w0 w1 w2) hE hK hA hP hD hS (z_lr _ _ _ _ _ _) 8 rfl rfl rfl rfl hl.1 (Nat.le_of_ble_eq_true rfl) ⟨Nat.le_of_ble_eq_true rfl, Nat.le_of_ble_eq_true rfl⟩ ⟨by show _ ≤ 601024; omega, by show _ ≤ 7293034; omega⟩ dL_law_520 (fun H locs hP hD hS => ?_)
        refine lv_istore (lv' := [(6, .int 0), (5, .int 2), (0, .ref b), (1, .ref (ad 3 0)), (2, .ref (a 0)), (3, .ref ou), (4, .int (nI i))]) hx hb dL_law_523 hl (by decide) rfl (fun ls hl => ?_)
        refine lv_aload_n hx hb dL_law_525 rfl (lv_at hl 4 rfl) ?_
        refine z_lawV ⟨hx, hb, hml, hown, hts⟩ zY_X8_thrown w_im_yX8_thrown w_se_yX8_thrown w_ml_L_86 [] [] (c_X8_thrown l D cs a ((upd V 1 2)) G) hE hK hA hP hD hS (z_lr _ _ _ _ _ _) 8 rfl rfl rfl rfl hl.1 (Nat.le_of_ble_eq_true rfl) ⟨Nat.le_of_ble_eq_true rfl, Nat.le_of_ble_eq_true rfl⟩ ⟨by show _ ≤ 601024; omega, by show _ ≤ 7293034; omega⟩ dL_law_526 (fun H locs hP hD hS => ?_)
        refine z_top (y := 2) rfl ?_
        refine lv_iload hx hb dL_law_529 (lv_at hl 1 rfl) ?_
        refine lv_icmp_eq (tgt := 536) hx hb dL_law_531 (by decide) (fun c_6 => ?_) (fun c_6 => ?_)
        · skip
          refine lv_iload hx hb dL_law_536 (lv_at hl 1 rfl) ?_
          refine lv_if_ne (tgt := 553) hx hb dL_law_538 (by decide) (fun c_7 => ?_) (fun c_7 => ?_)
          · skip
            refine lv_goto (tgt := 1447) hx hb dL_law_553 (by decide) ?_
            obtain ⟨hP, hD⟩ := zp_5 hP hD
            refine W.widen (k := cells + 3) (n := slots + 18) (by omega) (by omega) ?_
            exact kk _ ⟨S, F, TS, TF, ES, EF, HS, KS, KF, X, B, (upd V 1 2), G, OL, p, n, L, rfl, (lwR_v hR rfl rfl)⟩ _ _ _ hP hD hS (lv_sub hl [2, 3, 4, 5, 6] rfl)
          · skip
            first | exact absurd c_7 (by decide) | exact absurd (by decide) c_7 | exact absurd rfl c_7
        · skip
          first | exact absurd c_6 (by decide) | exact absurd (by decide) c_6 | exact absurd rfl c_6
    · skip
      obtain ⟨hP, hD⟩ := zp_1 hP hD
      refine z_lawH ⟨hx, hb, hml, hown, hts⟩ zYw_addGuard w_st_yL_addGuard w_ml_L_100 [.ref (ad 3 0), .int (xs (i + 1)), .int (xs (i + 2)), .int (xs (i + 3)), .ref ou] [] (c_L_addGuard_e1 l D cs hfl ad S F kd HS KS KF p n (xs (i + 1)) (xs (i + 2)) (xs (i + 3)) ou OL hp hp4 hn hn4 (lw_g0 hag) (by rw [exT_t w0, exT_f w1])) hE hK hA hP hD hS (z_la (z_la (z_la (z_la (z_la (z_la (z_la rfl (z_lm _ _ _ _ _ _)) (z_lh _ _ _ _ _)) (z_lm _ _ _ _ _ _)) (z_lm _ _ _ _ _ _)) (z_lm _ _ _ _ _ _)) (z_lm _ _ _ _ _ _)) (z_lo _ _ _ _)) rfl hl.1 (Nat.le_of_ble_eq_true rfl) ⟨Nat.le_of_ble_eq_true rfl, Nat.le_of_ble_eq_true rfl⟩ ⟨by show _ ≤ 601024; omega, by show _ ≤ 7293034; omega⟩ dL_law_496 (fun H locs hP hD hS => ?_)
      refine lv_istore (lv' := [(5, .int 1), (0, .ref b), (1, .ref (ad 3 0)), (2, .ref (a 0)), (3, .ref ou), (4, .int (nI i))]) hx hb dL_law_499 hl (by decide) rfl (fun ls hl => ?_)
      refine lv_aload_n hx hb dL_law_501 rfl (lv_at hl 3 rfl) ?_
      refine lv_aload_n hx hb dL_law_502 rfl (lv_at hl 1 rfl) ?_
      refine lv_iload hx hb dL_law_503 (lv_at hl 5 rfl) ?_
      refine lv_iconst (v := 1) hx hb dL_law_505 (by decide) ?_
      refine lv_iadd hx hb dL_law_506 ?_
      refine z_top (y := nI (i + 1)) (nI_add i 1) ?_
      refine z_scr (k := i + 1) hx hb hXs hbl hbA hS (by omega) hLs dL_law_507 ?_
      refine lv_aload_n hx hb dL_law_508 rfl (lv_at hl 1 rfl) ?_
      refine lv_iload hx hb dL_law_509 (lv_at hl 5 rfl) ?_
      refine lv_iconst (v := 2) hx hb dL_law_511 (by decide) ?_
      refine lv_iadd hx hb dL_law_512 ?_
      refine z_top (y := nI (i + 2)) (nI_add i 2) ?_
      refine z_scr (k := i + 2) hx hb hXs hbl hbA hS (by omega) hLs dL_law_513 ?_
      refine lv_aload_n hx hb dL_law_514 rfl (lv_at hl 1 rfl) ?_
      refine lv_iload hx hb dL_law_515 (lv_at hl 5 rfl) ?_
      refine lv_iconst (v := 3) hx hb dL_law_517 (by decide) ?_
      refine lv_iadd hx hb dL_law_518 ?_
      refine z_top (y := nI (i + 3)) (nI_add i 3) ?_
      refine z_scr (k := i + 3) hx hb hXs hbl hbA hS (by omega) hLs dL_law_519 ?_
      obtain ⟨hP, hD⟩ := zp_2 hP hD
      refine z_lawV ⟨hx, hb, hml, hown, hts⟩ zY_X8_addGuard w_im_yX8_addGuard w_se_yX8_addGuard w_ml_L_103 [.int (xs (i + 1)), .int (xs (i + 2)), .int (xs (i + 3))] [] (c_X8_addGuard_t1 l D cs a V G n (xs (i + 1)) (xs (i + 2)) (xs (i + 3)) (nN (S 8)) hsn hn4 h8 hg4 (fun z => w1 z.2)) hE hK hA hP hD hS (z_lr _ _ _ _ _ _) 8 rfl rfl rfl rfl hl.1 (Nat.le_of_ble_eq_true rfl) ⟨Nat.le_of_ble_eq_true rfl, Nat.le_of_ble_eq_true rfl⟩ ⟨by show _ ≤ 601024; omega, by show _ ≤ 7293034; omega⟩ dL_law_520 (fun H locs hP hD hS => ?_)
      refine lv_istore (lv' := [(6, .int 0), (5, .int 1), (0, .ref b), (1, .ref (ad 3 0)), (2, .ref (a 0)), (3, .ref ou), (4, .int (nI i))]) hx hb dL_law_523 hl (by decide) rfl (fun ls hl => ?_)
      refine lv_aload_n hx hb dL_law_525 rfl (lv_at hl 4 rfl) ?_
      refine z_lawV ⟨hx, hb, hml, hown, hts⟩ zY_X8_thrown w_im_yX8_thrown w_se_yX8_thrown w_ml_L_86 [] [] (c_X8_thrown l D cs a ((upd V 1 1)) G) hE hK hA hP hD hS (z_lr _ _ _ _ _ _) 8 rfl rfl rfl rfl hl.1 (Nat.le_of_ble_eq_true rfl) ⟨Nat.le_of_ble_eq_true rfl, Nat.le_of_ble_eq_true rfl⟩ ⟨by show _ ≤ 601024; omega, by show _ ≤ 7293034; omega⟩ dL_law_526 (fun H locs hP hD hS => ?_)
      refine z_top (y := 1) rfl ?_
      refine lv_iload hx hb dL_law_529 (lv_at hl 1 rfl) ?_
      refine lv_icmp_eq (tgt := 536) hx hb dL_law_531 (by decide) (fun c_8 => ?_) (fun c_8 => ?_)
      · skip
        refine lv_iload hx hb dL_law_536 (lv_at hl 1 rfl) ?_
        refine lv_if_ne (tgt := 553) hx hb dL_law_538 (by decide) (fun c_9 => ?_) (fun c_9 => ?_)
        · skip
          refine lv_goto (tgt := 1447) hx hb dL_law_553 (by decide) ?_
          obtain ⟨hP, hD⟩ := zp_5 hP hD
          refine W.widen (k := cells + 3) (n := slots + 18) (by omega) (by omega) ?_
          exact kk _ ⟨S, F, TS, TF, ES, EF, HS, KS, KF, X, B, (upd V 1 1), G, OL, p, n, L, rfl, (lwR_v hR rfl rfl)⟩ _ _ _ hP hD hS (lv_sub hl [2, 3, 4, 5, 6] rfl)
        · skip
          first | exact absurd c_9 (by decide) | exact absurd (by decide) c_9 | exact absurd rfl c_9
      · skip
        first | exact absurd c_8 (by decide) | exact absurd (by decide) c_8 | exact absurd rfl c_8
  · skip
    obtain ⟨hP, hD⟩ := zp_1 hP hD
    refine z_lawH ⟨hx, hb, hml, hown, hts⟩ zYw_addGuard w_st_yL_addGuard w_ml_L_100 [.ref (ad 3 0), .int (xs (i + 1)), .int (xs (i + 2)), .int (xs (i + 3)), .ref ou] [] (c_L_addGuard_e1 l D cs hfl ad S F kd HS KS KF p n (xs (i + 1)) (xs (i + 2)) (xs (i + 3)) ou OL hp hp4 hn hn4 (lw_g0 hag) (by rw [exT_f w0])) hE hK hA hP hD hS (z_la (z_la (z_la (z_la (z_la (z_la (z_la rfl (z_lm _ _ _ _ _ _)) (z_lh _ _ _ _ _)) (z_lm _ _ _ _ _ _)) (z_lm _ _ _ _ _ _)) (z_lm _ _ _ _ _ _)) (z_lm _ _ _ _ _ _)) (z_lo _ _ _ _)) rfl hl.1 (Nat.le_of_ble_eq_true rfl) ⟨Nat.le_of_ble_eq_true rfl, Nat.le_of_ble_eq_true rfl⟩ ⟨by show _ ≤ 601024; omega, by show _ ≤ 7293034; omega⟩ dL_law_496 (fun H locs hP hD hS => ?_)
    refine lv_istore (lv' := [(5, .int 1), (0, .ref b), (1, .ref (ad 3 0)), (2, .ref (a 0)), (3, .ref ou), (4, .int (nI i))]) hx hb dL_law_499 hl (by decide) rfl (fun ls hl => ?_)
    refine lv_aload_n hx hb dL_law_501 rfl (lv_at hl 3 rfl) ?_
    refine lv_aload_n hx hb dL_law_502 rfl (lv_at hl 1 rfl) ?_
    refine lv_iload hx hb dL_law_503 (lv_at hl 5 rfl) ?_
    refine lv_iconst (v := 1) hx hb dL_law_505 (by decide) ?_
    refine lv_iadd hx hb dL_law_506 ?_
    refine z_top (y := nI (i + 1)) (nI_add i 1) ?_
    refine z_scr (k := i + 1) hx hb hXs hbl hbA hS (by omega) hLs dL_law_507 ?_
    refine lv_aload_n hx hb dL_law_508 rfl (lv_at hl 1 rfl) ?_
    refine lv_iload hx hb dL_law_509 (lv_at hl 5 rfl) ?_
    refine lv_iconst (v := 2) hx hb dL_law_511 (by decide) ?_
    refine lv_iadd hx hb dL_law_512 ?_
    refine z_top (y := nI (i + 2)) (nI_add i 2) ?_
    refine z_scr (k := i + 2) hx hb hXs hbl hbA hS (by omega) hLs dL_law_513 ?_
    refine lv_aload_n hx hb dL_law_514 rfl (lv_at hl 1 rfl) ?_
    refine lv_iload hx hb dL_law_515 (lv_at hl 5 rfl) ?_
    refine lv_iconst (v := 3) hx hb dL_law_517 (by decide) ?_
    refine lv_iadd hx hb dL_law_518 ?_
    refine z_top (y := nI (i + 3)) (nI_add i 3) ?_
    refine z_scr (k := i + 3) hx hb hXs hbl hbA hS (by omega) hLs dL_law_519 ?_
    obtain ⟨hP, hD⟩ := zp_2 hP hD
    refine z_lawV ⟨hx, hb, hml, hown, hts⟩ zY_X8_addGuard w_im_yX8_addGuard w_se_yX8_addGuard w_ml_L_103 [.int (xs (i + 1)), .int (xs (i + 2)), .int (xs (i + 3))] [] (c_X8_addGuard_t1 l D cs a V G n (xs (i + 1)) (xs (i + 2)) (xs (i + 3)) (nN (S 8)) hsn hn4 h8 hg4 (fun z => w0 z.1)) hE hK hA hP hD hS (z_lr _ _ _ _ _ _) 8 rfl rfl rfl rfl hl.1 (Nat.le_of_ble_eq_true rfl) ⟨Nat.le_of_ble_eq_true rfl, Nat.le_of_ble_eq_true rfl⟩ ⟨by show _ ≤ 601024; omega, by show _ ≤ 7293034; omega⟩ dL_law_520 (fun H locs hP hD hS => ?_)
    refine lv_istore (lv' := [(6, .int 0), (5, .int 1), (0, .ref b), (1, .ref (ad 3 0)), (2, .ref (a 0)), (3, .ref ou), (4, .int (nI i))]) hx hb dL_law_523 hl (by decide) rfl (fun ls hl => ?_)
    refine lv_aload_n hx hb dL_law_525 rfl (lv_at hl 4 rfl) ?_
    refine z_lawV ⟨hx, hb, hml, hown, hts⟩ zY_X8_thrown w_im_yX8_thrown w_se_yX8_thrown w_ml_L_86 [] [] (c_X8_thrown l D cs a ((upd V 1 1)) G) hE hK hA hP hD hS (z_lr _ _ _ _ _ _) 8 rfl rfl rfl rfl hl.1 (Nat.le_of_ble_eq_true rfl) ⟨Nat.le_of_ble_eq_true rfl, Nat.le_of_ble_eq_true rfl⟩ ⟨by show _ ≤ 601024; omega, by show _ ≤ 7293034; omega⟩ dL_law_526 (fun H locs hP hD hS => ?_)
    refine z_top (y := 1) rfl ?_
    refine lv_iload hx hb dL_law_529 (lv_at hl 1 rfl) ?_
    refine lv_icmp_eq (tgt := 536) hx hb dL_law_531 (by decide) (fun c_10 => ?_) (fun c_10 => ?_)
    · skip
      refine lv_iload hx hb dL_law_536 (lv_at hl 1 rfl) ?_
      refine lv_if_ne (tgt := 553) hx hb dL_law_538 (by decide) (fun c_11 => ?_) (fun c_11 => ?_)
      · skip
        refine lv_goto (tgt := 1447) hx hb dL_law_553 (by decide) ?_
        obtain ⟨hP, hD⟩ := zp_5 hP hD
        refine W.widen (k := cells + 3) (n := slots + 18) (by omega) (by omega) ?_
        exact kk _ ⟨S, F, TS, TF, ES, EF, HS, KS, KF, X, B, (upd V 1 1), G, OL, p, n, L, rfl, (lwR_v hR rfl rfl)⟩ _ _ _ hP hD hS (lv_sub hl [2, 3, 4, 5, 6] rfl)
      · skip
        first | exact absurd c_11 (by decide) | exact absurd (by decide) c_11 | exact absurd rfl c_11
    · skip
      first | exact absurd c_10 (by decide) | exact absurd (by decide) c_10 | exact absurd rfl c_10

set_option maxHeartbeats 4000000 in
set_option maxRecDepth 100000 in
theorem law_removeGuard {pq : Program} (l : Launch) {eq : Env} {s : State} {mq : MethodId} {below : List Frame} {meth : Method} {cq : Code} {A : Nat → Prop} {D : va_G} {cs : zCs} {b Ls i : Nat} {xs : Nat → Int32} {H : Heap} {locs : List Loc} {ls : Array Slot} {cells slots : Nat} {Q : State → Prop} {ad kd : Nat → Nat → Nat} {a : Nat → Nat} {ou : Nat} {S : Nat → Int32} {F : Nat → Nat → Int32} {TS : Nat → Int32} {TF : Nat → Nat → Int32} {ES : Nat → Int32} {EF : Nat → Nat → Int32} {HS : Nat → Int32} {KS : Nat → Nat → Int32} {KF : Nat → Nat → Nat → Int32} {X : Nat → Int32} {B : Nat → Nat → Int32} {V : Nat → Int32} {G : Nat → Nat → Int32} {OL : Nat → Int64} {p n L : Nat} (hfl : l.stackTraces = false) (hx : pq.tables.exec = Jvm.exec) (hb : cq.code = cL_law) (hml : cq.maxLocals = 9) (hown : s.vm.findClass RL = some mq.cls) (hts : ∀ w ∈ wsG, w.before #[Value.ref b] s = true) (hXs : va_X b Ls xs s s.heap) (hbl : b < s.heap.size) (hbA : ¬ A b) (hE : zE A s) (hK : va_K D vwCl (zT cs) s) (hA : ∀ q : Nat, s.heap.size ≤ q → A q) (hLs : Ls ≤ 2560) (hi : i + 5 ≤ Ls) (hce : cells + 3 ≤ 601024) (hsl : slots + 18 ≤ 7293034) (hR : lwR S F HS KS KF X B V G p n L) (hP : va_P D vwCl ((camW ad) ++ (macW cs (ad 0) S F) ++ (macW cs (ad 1) TS TF) ++ (macW cs (ad 2) ES EF) ++ (hisW cs (ad 4) kd HS) ++ (macW cs (kd 0) (KS 0) (KF 0)) ++ (macW cs (kd 1) (KS 1) (KF 1)) ++ (macW cs (kd 2) (KS 2) (KF 2)) ++ (macW cs (kd 3) (KS 3) (KF 3)) ++ (txtW cs (ad 5) X B) ++ (refW cs a V G) ++ [(ou, .inl (cs.2.1, 1, .inr (.inl OL)))]) H) (hD : va_D A ((camW ad) ++ (macW cs (ad 0) S F) ++ (macW cs (ad 1) TS TF) ++ (macW cs (ad 2) ES EF) ++ (hisW cs (ad 4) kd HS) ++ (macW cs (kd 0) (KS 0) (KF 0)) ++ (macW cs (kd 1) (KS 1) (KF 1)) ++ (macW cs (kd 2) (KS 2) (KF 2)) ++ (macW cs (kd 3) (KS 3) (KF 3)) ++ (txtW cs (ad 5) X B) ++ (refW cs a V G) ++ [(ou, .inl (cs.2.1, 1, .inr (.inl OL)))])) (hS : va_S A s.heap H locs) (hl : lv_has ls 9 [(0, .ref b), (1, .ref (ad 3 0)), (2, .ref (a 0)), (3, .ref ou), (4, .int (nI i))]) (kk : ∀ (w : va_W), lwI cs ad kd a ou w → ∀ (H : Heap) (locs : List Loc) (ls : Array Slot), va_P D vwCl w H → va_D A w → va_S A s.heap H locs → lv_has ls 9 [(0, .ref b), (1, .ref (ad 3 0)), (2, .ref (a 0)), (3, .ref ou), (4, .int (nI i))] → W pq l eq room_1 s mq #[Value.ref b] below meth cq H locs (cells + 3) (slots + 18) Q (F0 mq 1447 ls [])) : W pq l eq room_1 s mq #[Value.ref b] below meth cq H locs cells slots Q (F0 mq 556 ls []) := by
  obtain ⟨⟨hp, hp4, hn, hn4, hsn⟩, hag, hrg, hX0, hL, h4, hGB, htx⟩ := id hR
  have e0 : G 0 0 = S 0 := agr_s hag (by omega)
  have e8 : G 0 8 = S 8 := agr_s hag (by omega)
  have e9 : G 0 9 = S 9 := agr_s hag (by omega)
  obtain ⟨hn2, hn16, hS0⟩ := lw_n0 hag
  obtain ⟨hg4, hS8, ez⟩ := lw_n8 hag
  have h0 : G 0 0 = nI (nN (S 0)) := e0.trans hS0
  have h8 : G 0 8 = nI (nN (S 8)) := e8.trans hS8
  have hok : rOK (G 0) := r_ok hag
  have ho : ∀ j, j < nN (S 8) → ∃ o, o < 5 ∧ G 0 (51 + 3 * j + 1) = nI o := lw_ho hag
  refine lv_aload_n hx hb dL_law_556 rfl (lv_at hl 1 rfl) ?_
  refine lv_aload_n hx hb dL_law_557 rfl (lv_at hl 0 rfl) ?_
  refine lv_iload hx hb dL_law_558 (lv_at hl 4 rfl) ?_
  refine lv_iconst (v := 1) hx hb dL_law_560 (by decide) ?_
  refine lv_iadd hx hb dL_law_561 ?_
  refine z_top (y := nI (i + 1)) (nI_add i 1) ?_
  refine z_scr (k := i + 1) hx hb hXs hbl hbA hS (by omega) hLs dL_law_562 ?_
  refine lv_aload_n hx hb dL_law_563 rfl (lv_at hl 3 rfl) ?_
  by_cases w0 : 0 ≤ (xs (i + 1)) ∧ (xs (i + 1)) ≤ zmin (S 8) 4 - 1
  · skip
    obtain ⟨hP, hD⟩ := zp_1 hP hD
    refine z_lawH ⟨hx, hb, hml, hown, hts⟩ zYw_removeGuard w_st_yL_removeGuard w_ml_L_104 [.ref (ad 3 0), .int (xs (i + 1)), .ref ou] [] (c_L_removeGuard_ok l D cs hfl ad S F kd HS KS KF p n (xs (i + 1)) (nN (S 8)) ou OL hp hp4 hn hn4 hS8 hg4 (by rw [exT_t w0])) hE hK hA hP hD hS (z_la (z_la (z_la (z_la (z_la (z_la (z_la rfl (z_lm _ _ _ _ _ _)) (z_lh _ _ _ _ _)) (z_lm _ _ _ _ _ _)) (z_lm _ _ _ _ _ _)) (z_lm _ _ _ _ _ _)) (z_lm _ _ _ _ _ _)) (z_lo _ _ _ _)) rfl hl.1 (Nat.le_of_ble_eq_true rfl) ⟨Nat.le_of_ble_eq_true rfl, Nat.le_of_ble_eq_true rfl⟩ ⟨by show _ ≤ 601024; omega, by show _ ≤ 7293034; omega⟩ dL_law_564 (fun H locs hP hD hS => ?_)
    refine lv_istore (lv' := [(5, .int 0), (0, .ref b), (1, .ref (ad 3 0)), (2, .ref (a 0)), (3, .ref ou), (4, .int (nI i))]) hx hb dL_law_567 hl (by decide) rfl (fun ls hl => ?_)
    refine lv_aload_n hx hb dL_law_569 rfl (lv_at hl 3 rfl) ?_
    refine lv_aload_n hx hb dL_law_570 rfl (lv_at hl 1 rfl) ?_
    refine lv_iload hx hb dL_law_571 (lv_at hl 5 rfl) ?_
    refine lv_iconst (v := 1) hx hb dL_law_573 (by decide) ?_
    refine lv_iadd hx hb dL_law_574 ?_
    refine z_top (y := nI (i + 1)) (nI_add i 1) ?_
    refine z_scr (k := i + 1) hx hb hXs hbl hbA hS (by omega) hLs dL_law_575 ?_
    obtain ⟨hP, hD⟩ := zp_2 hP hD
    refine z_lawV ⟨hx, hb, hml, hown, hts⟩ zY_X8_removeGuard w_im_yX8_removeGuard w_se_yX8_removeGuard w_ml_L_107 [.int (xs (i + 1))] [] (c_X8_removeGuard_ok l D cs a V G n (xs (i + 1)) (nN (S 8)) hsn hn4 h8 hg4 (by rw [e8]; exact lw_gz ez w0)) hE hK hA hP hD hS (z_lr _ _ _ _ _ _) 8 rfl rfl rfl rfl hl.1 (Nat.le_of_ble_eq_true rfl) ⟨Nat.le_of_ble_eq_true rfl, Nat.le_of_ble_eq_true rfl⟩ ⟨by show _ ≤ 601024; omega, by show _ ≤ 7293034; omega⟩ dL_law_576 (fun H locs hP hD hS => ?_)
    refine lv_istore (lv' := [(6, .int (nI (nN (S 8) - 1))), (5, .int 0), (0, .ref b), (1, .ref (ad 3 0)), (2, .ref (a 0)), (3, .ref ou), (4, .int (nI i))]) hx hb dL_law_579 hl (by decide) rfl (fun ls hl => ?_)
    refine lv_aload_n hx hb dL_law_581 rfl (lv_at hl 4 rfl) ?_
    refine z_lawV ⟨hx, hb, hml, hown, hts⟩ zY_X8_thrown w_im_yX8_thrown w_se_yX8_thrown w_ml_L_86 [] [] (c_X8_thrown l D cs a ((upd (upd V 0 (nI (min (n + 1) 4))) 1 0)) ((zU (zU G 0 (cpF (51 + 3 * (nN (S 8) - 1)) (dnF (upd (G 0) 8 (nI (nN (S 8) - 1))) (51 + 3 * nN (xs (i + 1))) (51 + 3 * (nN (S 8) - 1))) (fun _ => 0) 3)) 1 (svF n (G 1) (G 0))))) hE hK hA hP hD hS (z_lr _ _ _ _ _ _) 8 rfl rfl rfl rfl hl.1 (Nat.le_of_ble_eq_true rfl) ⟨Nat.le_of_ble_eq_true rfl, Nat.le_of_ble_eq_true rfl⟩ ⟨by show _ ≤ 601024; omega, by show _ ≤ 7293034; omega⟩ dL_law_582 (fun H locs hP hD hS => ?_)
    refine z_top (y := 0) rfl ?_
    refine lv_iload hx hb dL_law_585 (lv_at hl 1 rfl) ?_
    refine lv_icmp_eq (tgt := 592) hx hb dL_law_587 (by decide) (fun c_1 => ?_) (fun c_1 => ?_)
    · skip
      refine lv_iload hx hb dL_law_592 (lv_at hl 1 rfl) ?_
      refine lv_if_ne (tgt := 609) hx hb dL_law_594 (by decide) (fun c_2 => ?_) (fun c_2 => ?_)
      · skip
        first | exact absurd c_2 (by decide) | exact absurd (by decide) c_2 | exact absurd rfl c_2
      · skip
        refine lv_aload_n hx hb dL_law_597 rfl (lv_at hl 5 rfl) ?_
        refine lv_iconst (v := 0) hx hb dL_law_598 (by decide) ?_
        obtain ⟨hP, hD⟩ := zp_3 hP hD
        refine z_lout (q0 := 0) (v := (nI (nN (S 8) - 1)).toInt64) hx hb hK hP rfl dL_law_599 rfl ?_
        refine lv_iload hx hb dL_law_600 (lv_at hl 0 rfl) ?_
        refine lv_i2l (v := (nI (nN (S 8) - 1)).toInt64) hx hb dL_law_602 rfl ?_
        refine z_lcmp_eq (tgt := 609) hx hb dL_law_603 dL_law_604 (by decide) (fun c_3 => ?_) (fun c_3 => ?_)
        · skip
          refine lv_goto (tgt := 1447) hx hb dL_law_609 (by decide) ?_
          obtain ⟨hP, hD⟩ := zp_4 hP hD
          refine W.widen (k := cells + 3) (n := slots + 18) (by omega) (by omega) ?_
          exact kk _ ⟨(upd S 8 (nI (nN (S 8) - 1))), (zU (zU (zU F 7 (toF (nN (S 8) - 1 - nN (xs (i + 1))) (nN (xs (i + 1))) F 7)) 8 (toF (nN (S 8) - 1 - nN (xs (i + 1))) (nN (xs (i + 1))) F 8)) 9 (toF (nN (S 8) - 1 - nN (xs (i + 1))) (nN (xs (i + 1))) F 9)), TS, TF, ES, EF, (upd (upd HS 0 (nI (hNx p))) 1 (nI (min (n + 1) 4))), (kup KS (hNx p) S), (kup KF (hNx p) F), X, B, (upd (upd V 0 (nI (min (n + 1) 4))) 1 0), (zU (zU G 0 (cpF (51 + 3 * (nN (S 8) - 1)) (dnF (upd (G 0) 8 (nI (nN (S 8) - 1))) (51 + 3 * nN (xs (i + 1))) (51 + 3 * (nN (S 8) - 1))) (fun _ => 0) 3)) 1 (svF n (G 1) (G 0))), (vp_updL OL 0 (nI (nN (S 8) - 1)).toInt64), (hNx p), (min (n + 1) 4), L, rfl, (lwR_save hR (s_removeGuard hag hS8 hg4 (lw_gk hag (lw_gz ez w0)).1) rfl rfl rfl rfl rfl rfl rfl)⟩ _ _ _ hP hD hS (lv_sub hl [2, 3, 4, 5, 6] rfl)
        · exact absurd (congrArg Int32.toInt64 (rfl)) c_3
    · skip
      first | exact absurd c_1 (by decide) | exact absurd (by decide) c_1 | exact absurd rfl c_1
  · skip
    obtain ⟨hP, hD⟩ := zp_1 hP hD
    refine z_lawH ⟨hx, hb, hml, hown, hts⟩ zYw_removeGuard w_st_yL_removeGuard w_ml_L_104 [.ref (ad 3 0), .int (xs (i + 1)), .ref ou] [] (c_L_removeGuard_e1 l D cs hfl ad S F kd HS KS KF p n (xs (i + 1)) (nN (S 8)) ou OL hp hp4 hn hn4 hS8 hg4 (by rw [exT_f w0])) hE hK hA hP hD hS (z_la (z_la (z_la (z_la (z_la (z_la (z_la rfl (z_lm _ _ _ _ _ _)) (z_lh _ _ _ _ _)) (z_lm _ _ _ _ _ _)) (z_lm _ _ _ _ _ _)) (z_lm _ _ _ _ _ _)) (z_lm _ _ _ _ _ _)) (z_lo _ _ _ _)) rfl hl.1 (Nat.le_of_ble_eq_true rfl) ⟨Nat.le_of_ble_eq_true rfl, Nat.le_of_ble_eq_true rfl⟩ ⟨by show _ ≤ 601024; omega, by show _ ≤ 7293034; omega⟩ dL_law_564 (fun H locs hP hD hS => ?_)
    refine lv_istore (lv' := [(5, .int 1), (0, .ref b), (1, .ref (ad 3 0)), (2, .ref (a 0)), (3, .ref ou), (4, .int (nI i))]) hx hb dL_law_567 hl (by decide) rfl (fun ls hl => ?_)
    refine lv_aload_n hx hb dL_law_569 rfl (lv_at hl 3 rfl) ?_
    refine lv_aload_n hx hb dL_law_570 rfl (lv_at hl 1 rfl) ?_
    refine lv_iload hx hb dL_law_571 (lv_at hl 5 rfl) ?_
    refine lv_iconst (v := 1) hx hb dL_law_573 (by decide) ?_
    refine lv_iadd hx hb dL_law_574 ?_
    refine z_top (y := nI (i + 1)) (nI_add i 1) ?_
    refine z_scr (k := i + 1) hx hb hXs hbl hbA hS (by omega) hLs dL_law_575 ?_
    obtain ⟨hP, hD⟩ := zp_2 hP hD
    refine z_lawV ⟨hx, hb, hml, hown, hts⟩ zY_X8_removeGuard w_im_yX8_removeGuard w_se_yX8_removeGuard w_ml_L_107 [.int (xs (i + 1))] [] (c_X8_removeGuard_t1 l D cs a V G n (xs (i + 1)) (nN (S 8)) hsn hn4 h8 hg4 (fun z => w0 (by rw [ez, ← e8]; exact z))) hE hK hA hP hD hS (z_lr _ _ _ _ _ _) 8 rfl rfl rfl rfl hl.1 (Nat.le_of_ble_eq_true rfl) ⟨Nat.le_of_ble_eq_true rfl, Nat.le_of_ble_eq_true rfl⟩ ⟨by show _ ≤ 601024; omega, by show _ ≤ 7293034; omega⟩ dL_law_576 (fun H locs hP hD hS => ?_)
    refine lv_istore (lv' := [(6, .int 0), (5, .int 1), (0, .ref b), (1, .ref (ad 3 0)), (2, .ref (a 0)), (3, .ref ou), (4, .int (nI i))]) hx hb dL_law_579 hl (by decide) rfl (fun ls hl => ?_)
    refine lv_aload_n hx hb dL_law_581 rfl (lv_at hl 4 rfl) ?_
    refine z_lawV ⟨hx, hb, hml, hown, hts⟩ zY_X8_thrown w_im_yX8_thrown w_se_yX8_thrown w_ml_L_86 [] [] (c_X8_thrown l D cs a ((upd V 1 1)) G) hE hK hA hP hD hS (z_lr _ _ _ _ _ _) 8 rfl rfl rfl rfl hl.1 (Nat.le_of_ble_eq_true rfl) ⟨Nat.le_of_ble_eq_true rfl, Nat.le_of_ble_eq_true rfl⟩ ⟨by show _ ≤ 601024; omega, by show _ ≤ 7293034; omega⟩ dL_law_582 (fun H locs hP hD hS => ?_)
    refine z_top (y := 1) rfl ?_
    refine lv_iload hx hb dL_law_585 (lv_at hl 1 rfl) ?_
    refine lv_icmp_eq (tgt := 592) hx hb dL_law_587 (by decide) (fun c_4 => ?_) (fun c_4 => ?_)
    · skip
      refine lv_iload hx hb dL_law_592 (lv_at hl 1 rfl) ?_
      refine lv_if_ne (tgt := 609) hx hb dL_law_594 (by decide) (fun c_5 => ?_) (fun c_5 => ?_)
      · skip
        refine lv_goto (tgt := 1447) hx hb dL_law_609 (by decide) ?_
        obtain ⟨hP, hD⟩ := zp_5 hP hD
        refine W.widen (k := cells + 3) (n := slots + 18) (by omega) (by omega) ?_
        exact kk _ ⟨S, F, TS, TF, ES, EF, HS, KS, KF, X, B, (upd V 1 1), G, OL, p, n, L, rfl, (lwR_v hR rfl rfl)⟩ _ _ _ hP hD hS (lv_sub hl [2, 3, 4, 5, 6] rfl)
      · skip
        first | exact absurd c_5 (by decide) | exact absurd (by decide) c_5 | exact absurd rfl c_5
    · skip
      first | exact absurd c_4 (by decide) | exact absurd (by decide) c_4 | exact absurd rfl c_4

set_option maxHeartbeats 4000000 in
set_option maxRecDepth 100000 in
theorem law_turn {pq : Program} (l : Launch) {eq : Env} {s : State} {mq : MethodId} {below : List Frame} {meth : Method} {cq : Code} {A : Nat → Prop} {D : va_G} {cs : zCs} {b Ls i : Nat} {xs : Nat → Int32} {H : Heap} {locs : List Loc} {ls : Array Slot} {cells slots : Nat} {Q : State → Prop} {ad kd : Nat → Nat → Nat} {a : Nat → Nat} {ou : Nat} {S : Nat → Int32} {F : Nat → Nat → Int32} {TS : Nat → Int32} {TF : Nat → Nat → Int32} {ES : Nat → Int32} {EF : Nat → Nat → Int32} {HS : Nat → Int32} {KS : Nat → Nat → Int32} {KF : Nat → Nat → Nat → Int32} {X : Nat → Int32} {B : Nat → Nat → Int32} {V : Nat → Int32} {G : Nat → Nat → Int32} {OL : Nat → Int64} {p n L : Nat} (hfl : l.stackTraces = false) (hx : pq.tables.exec = Jvm.exec) (hb : cq.code = cL_law) (hml : cq.maxLocals = 9) (hown : s.vm.findClass RL = some mq.cls) (hts : ∀ w ∈ wsG, w.before #[Value.ref b] s = true) (hXs : va_X b Ls xs s s.heap) (hbl : b < s.heap.size) (hbA : ¬ A b) (hE : zE A s) (hK : va_K D vwCl (zT cs) s) (hA : ∀ q : Nat, s.heap.size ≤ q → A q) (hLs : Ls ≤ 2560) (hi : i + 5 ≤ Ls) (hce : cells + 3 ≤ 601024) (hsl : slots + 18 ≤ 7293034) (hR : lwR S F HS KS KF X B V G p n L) (hP : va_P D vwCl ((camW ad) ++ (macW cs (ad 0) S F) ++ (macW cs (ad 1) TS TF) ++ (macW cs (ad 2) ES EF) ++ (hisW cs (ad 4) kd HS) ++ (macW cs (kd 0) (KS 0) (KF 0)) ++ (macW cs (kd 1) (KS 1) (KF 1)) ++ (macW cs (kd 2) (KS 2) (KF 2)) ++ (macW cs (kd 3) (KS 3) (KF 3)) ++ (txtW cs (ad 5) X B) ++ (refW cs a V G) ++ [(ou, .inl (cs.2.1, 1, .inr (.inl OL)))]) H) (hD : va_D A ((camW ad) ++ (macW cs (ad 0) S F) ++ (macW cs (ad 1) TS TF) ++ (macW cs (ad 2) ES EF) ++ (hisW cs (ad 4) kd HS) ++ (macW cs (kd 0) (KS 0) (KF 0)) ++ (macW cs (kd 1) (KS 1) (KF 1)) ++ (macW cs (kd 2) (KS 2) (KF 2)) ++ (macW cs (kd 3) (KS 3) (KF 3)) ++ (txtW cs (ad 5) X B) ++ (refW cs a V G) ++ [(ou, .inl (cs.2.1, 1, .inr (.inl OL)))])) (hS : va_S A s.heap H locs) (hl : lv_has ls 9 [(0, .ref b), (1, .ref (ad 3 0)), (2, .ref (a 0)), (3, .ref ou), (4, .int (nI i))]) (kk : ∀ (w : va_W), lwI cs ad kd a ou w → ∀ (H : Heap) (locs : List Loc) (ls : Array Slot), va_P D vwCl w H → va_D A w → va_S A s.heap H locs → lv_has ls 9 [(0, .ref b), (1, .ref (ad 3 0)), (2, .ref (a 0)), (3, .ref ou), (4, .int (nI i))] → W pq l eq room_1 s mq #[Value.ref b] below meth cq H locs (cells + 3) (slots + 18) Q (F0 mq 1447 ls [])) : W pq l eq room_1 s mq #[Value.ref b] below meth cq H locs cells slots Q (F0 mq 612 ls []) := by
  obtain ⟨⟨hp, hp4, hn, hn4, hsn⟩, hag, hrg, hX0, hL, h4, hGB, htx⟩ := id hR
  have e0 : G 0 0 = S 0 := agr_s hag (by omega)
  have e8 : G 0 8 = S 8 := agr_s hag (by omega)
  have e9 : G 0 9 = S 9 := agr_s hag (by omega)
  obtain ⟨hn2, hn16, hS0⟩ := lw_n0 hag
  obtain ⟨hg4, hS8, ez⟩ := lw_n8 hag
  have h0 : G 0 0 = nI (nN (S 0)) := e0.trans hS0
  have h8 : G 0 8 = nI (nN (S 8)) := e8.trans hS8
  have hok : rOK (G 0) := r_ok hag
  have ho : ∀ j, j < nN (S 8) → ∃ o, o < 5 ∧ G 0 (51 + 3 * j + 1) = nI o := lw_ho hag
  refine lv_aload_n hx hb dL_law_612 rfl (lv_at hl 1 rfl) ?_
  refine lv_aload_n hx hb dL_law_613 rfl (lv_at hl 0 rfl) ?_
  refine lv_iload hx hb dL_law_614 (lv_at hl 4 rfl) ?_
  refine lv_iconst (v := 1) hx hb dL_law_616 (by decide) ?_
  refine lv_iadd hx hb dL_law_617 ?_
  refine z_top (y := nI (i + 1)) (nI_add i 1) ?_
  refine z_scr (k := i + 1) hx hb hXs hbl hbA hS (by omega) hLs dL_law_618 ?_
  refine lv_aload_n hx hb dL_law_619 rfl (lv_at hl 3 rfl) ?_
  by_cases w0 : 0 ≤ (xs (i + 1)) ∧ (xs (i + 1)) ≤ (S 0) - 1
  · skip
    obtain ⟨hP, hD⟩ := zp_1 hP hD
    refine z_lawH ⟨hx, hb, hml, hown, hts⟩ zYw_turn w_st_yL_turn w_ml_L_108 [.ref (ad 3 0), .int (xs (i + 1)), .ref ou] [] (c_L_turn_ok l D cs hfl ad S F kd HS KS KF p n (xs (i + 1)) ou OL hp hp4 hn hn4 (by rw [exT_t w0])) hE hK hA hP hD hS (z_la (z_la (z_la (z_la (z_la (z_la (z_la rfl (z_lm _ _ _ _ _ _)) (z_lh _ _ _ _ _)) (z_lm _ _ _ _ _ _)) (z_lm _ _ _ _ _ _)) (z_lm _ _ _ _ _ _)) (z_lm _ _ _ _ _ _)) (z_lo _ _ _ _)) rfl hl.1 (Nat.le_of_ble_eq_true rfl) ⟨Nat.le_of_ble_eq_true rfl, Nat.le_of_ble_eq_true rfl⟩ ⟨by show _ ≤ 601024; omega, by show _ ≤ 7293034; omega⟩ dL_law_620 (fun H locs hP hD hS => ?_)
    refine lv_istore (lv' := [(5, .int 0), (0, .ref b), (1, .ref (ad 3 0)), (2, .ref (a 0)), (3, .ref ou), (4, .int (nI i))]) hx hb dL_law_623 hl (by decide) rfl (fun ls hl => ?_)
    refine lv_aload_n hx hb dL_law_625 rfl (lv_at hl 3 rfl) ?_
    refine lv_aload_n hx hb dL_law_626 rfl (lv_at hl 1 rfl) ?_
    refine lv_iload hx hb dL_law_627 (lv_at hl 5 rfl) ?_
    refine lv_iconst (v := 1) hx hb dL_law_629 (by decide) ?_
    refine lv_iadd hx hb dL_law_630 ?_
    refine z_top (y := nI (i + 1)) (nI_add i 1) ?_
    refine z_scr (k := i + 1) hx hb hXs hbl hbA hS (by omega) hLs dL_law_631 ?_
    obtain ⟨hP, hD⟩ := zp_2 hP hD
    refine z_lawV ⟨hx, hb, hml, hown, hts⟩ zY_X8_turn w_im_yX8_turn w_se_yX8_turn w_ml_L_110 [.int (xs (i + 1))] [] (c_X8_turn_ok l D cs a V G n (nN (S 0)) (xs (i + 1)) hsn hn4 h0 hn16 (by rw [e0]; exact w0)) hE hK hA hP hD hS (z_lr _ _ _ _ _ _) 8 rfl rfl rfl rfl hl.1 (Nat.le_of_ble_eq_true rfl) ⟨Nat.le_of_ble_eq_true rfl, Nat.le_of_ble_eq_true rfl⟩ ⟨by show _ ≤ 601024; omega, by show _ ≤ 7293034; omega⟩ dL_law_632 (fun H locs hP hD hS => ?_)
    refine lv_istore (lv' := [(6, .int ((G 0) 1)), (5, .int 0), (0, .ref b), (1, .ref (ad 3 0)), (2, .ref (a 0)), (3, .ref ou), (4, .int (nI i))]) hx hb dL_law_635 hl (by decide) rfl (fun ls hl => ?_)
    refine lv_aload_n hx hb dL_law_637 rfl (lv_at hl 4 rfl) ?_
    refine z_lawV ⟨hx, hb, hml, hown, hts⟩ zY_X8_thrown w_im_yX8_thrown w_se_yX8_thrown w_ml_L_86 [] [] (c_X8_thrown l D cs a ((upd (upd V 0 (nI (min (n + 1) 4))) 1 0)) ((zU (zU G 0 (upd (upd (G 0) 1 (xs (i + 1))) 2 0)) 1 (svF n (G 1) (G 0))))) hE hK hA hP hD hS (z_lr _ _ _ _ _ _) 8 rfl rfl rfl rfl hl.1 (Nat.le_of_ble_eq_true rfl) ⟨Nat.le_of_ble_eq_true rfl, Nat.le_of_ble_eq_true rfl⟩ ⟨by show _ ≤ 601024; omega, by show _ ≤ 7293034; omega⟩ dL_law_638 (fun H locs hP hD hS => ?_)
    refine z_top (y := 0) rfl ?_
    refine lv_iload hx hb dL_law_641 (lv_at hl 1 rfl) ?_
    refine lv_icmp_eq (tgt := 648) hx hb dL_law_643 (by decide) (fun c_1 => ?_) (fun c_1 => ?_)
    · skip
      refine lv_iload hx hb dL_law_648 (lv_at hl 1 rfl) ?_
      refine lv_if_ne (tgt := 665) hx hb dL_law_650 (by decide) (fun c_2 => ?_) (fun c_2 => ?_)
      · skip
        first | exact absurd c_2 (by decide) | exact absurd (by decide) c_2 | exact absurd rfl c_2
      · skip
        refine lv_aload_n hx hb dL_law_653 rfl (lv_at hl 5 rfl) ?_
        refine lv_iconst (v := 0) hx hb dL_law_654 (by decide) ?_
        obtain ⟨hP, hD⟩ := zp_3 hP hD
        refine z_lout (q0 := 0) (v := (S 1).toInt64) hx hb hK hP rfl dL_law_655 rfl ?_
        refine lv_iload hx hb dL_law_656 (lv_at hl 0 rfl) ?_
        refine lv_i2l (v := ((G 0) 1).toInt64) hx hb dL_law_658 rfl ?_
        refine z_lcmp_eq (tgt := 665) hx hb dL_law_659 dL_law_660 (by decide) (fun c_3 => ?_) (fun c_3 => ?_)
        · skip
          refine lv_goto (tgt := 1447) hx hb dL_law_665 (by decide) ?_
          obtain ⟨hP, hD⟩ := zp_4 hP hD
          refine W.widen (k := cells + 3) (n := slots + 18) (by omega) (by omega) ?_
          exact kk _ ⟨(upd (upd S 1 (xs (i + 1))) 2 0), F, TS, TF, ES, EF, (upd (upd HS 0 (nI (hNx p))) 1 (nI (min (n + 1) 4))), (kup KS (hNx p) S), (kup KF (hNx p) F), X, B, (upd (upd V 0 (nI (min (n + 1) 4))) 1 0), (zU (zU G 0 (upd (upd (G 0) 1 (xs (i + 1))) 2 0)) 1 (svF n (G 1) (G 0))), (vp_updL OL 0 (S 1).toInt64), (hNx p), (min (n + 1) 4), L, rfl, (lwR_save hR (s_turn hag w0).1 rfl rfl rfl rfl rfl rfl rfl)⟩ _ _ _ hP hD hS (lv_sub hl [2, 3, 4, 5, 6] rfl)
        · exact absurd (congrArg Int32.toInt64 ((s_turn hag w0).2.symm)) c_3
    · skip
      first | exact absurd c_1 (by decide) | exact absurd (by decide) c_1 | exact absurd rfl c_1
  · skip
    obtain ⟨hP, hD⟩ := zp_1 hP hD
    refine z_lawH ⟨hx, hb, hml, hown, hts⟩ zYw_turn w_st_yL_turn w_ml_L_108 [.ref (ad 3 0), .int (xs (i + 1)), .ref ou] [] (c_L_turn_e1 l D cs hfl ad S F kd HS KS KF p n (xs (i + 1)) ou OL hp hp4 hn hn4 (by rw [exT_f w0])) hE hK hA hP hD hS (z_la (z_la (z_la (z_la (z_la (z_la (z_la rfl (z_lm _ _ _ _ _ _)) (z_lh _ _ _ _ _)) (z_lm _ _ _ _ _ _)) (z_lm _ _ _ _ _ _)) (z_lm _ _ _ _ _ _)) (z_lm _ _ _ _ _ _)) (z_lo _ _ _ _)) rfl hl.1 (Nat.le_of_ble_eq_true rfl) ⟨Nat.le_of_ble_eq_true rfl, Nat.le_of_ble_eq_true rfl⟩ ⟨by show _ ≤ 601024; omega, by show _ ≤ 7293034; omega⟩ dL_law_620 (fun H locs hP hD hS => ?_)
    refine lv_istore (lv' := [(5, .int 1), (0, .ref b), (1, .ref (ad 3 0)), (2, .ref (a 0)), (3, .ref ou), (4, .int (nI i))]) hx hb dL_law_623 hl (by decide) rfl (fun ls hl => ?_)
    refine lv_aload_n hx hb dL_law_625 rfl (lv_at hl 3 rfl) ?_
    refine lv_aload_n hx hb dL_law_626 rfl (lv_at hl 1 rfl) ?_
    refine lv_iload hx hb dL_law_627 (lv_at hl 5 rfl) ?_
    refine lv_iconst (v := 1) hx hb dL_law_629 (by decide) ?_
    refine lv_iadd hx hb dL_law_630 ?_
    refine z_top (y := nI (i + 1)) (nI_add i 1) ?_
    refine z_scr (k := i + 1) hx hb hXs hbl hbA hS (by omega) hLs dL_law_631 ?_
    obtain ⟨hP, hD⟩ := zp_2 hP hD
    refine z_lawV ⟨hx, hb, hml, hown, hts⟩ zY_X8_turn w_im_yX8_turn w_se_yX8_turn w_ml_L_110 [.int (xs (i + 1))] [] (c_X8_turn_t1 l D cs a V G n (nN (S 0)) (xs (i + 1)) hsn hn4 h0 hn16 (fun z => w0 (by rw [← e0]; exact z))) hE hK hA hP hD hS (z_lr _ _ _ _ _ _) 8 rfl rfl rfl rfl hl.1 (Nat.le_of_ble_eq_true rfl) ⟨Nat.le_of_ble_eq_true rfl, Nat.le_of_ble_eq_true rfl⟩ ⟨by show _ ≤ 601024; omega, by show _ ≤ 7293034; omega⟩ dL_law_632 (fun H locs hP hD hS => ?_)
    refine lv_istore (lv' := [(6, .int 0), (5, .int 1), (0, .ref b), (1, .ref (ad 3 0)), (2, .ref (a 0)), (3, .ref ou), (4, .int (nI i))]) hx hb dL_law_635 hl (by decide) rfl (fun ls hl => ?_)
    refine lv_aload_n hx hb dL_law_637 rfl (lv_at hl 4 rfl) ?_
    refine z_lawV ⟨hx, hb, hml, hown, hts⟩ zY_X8_thrown w_im_yX8_thrown w_se_yX8_thrown w_ml_L_86 [] [] (c_X8_thrown l D cs a ((upd V 1 1)) G) hE hK hA hP hD hS (z_lr _ _ _ _ _ _) 8 rfl rfl rfl rfl hl.1 (Nat.le_of_ble_eq_true rfl) ⟨Nat.le_of_ble_eq_true rfl, Nat.le_of_ble_eq_true rfl⟩ ⟨by show _ ≤ 601024; omega, by show _ ≤ 7293034; omega⟩ dL_law_638 (fun H locs hP hD hS => ?_)
    refine z_top (y := 1) rfl ?_
    refine lv_iload hx hb dL_law_641 (lv_at hl 1 rfl) ?_
    refine lv_icmp_eq (tgt := 648) hx hb dL_law_643 (by decide) (fun c_4 => ?_) (fun c_4 => ?_)
    · skip
      refine lv_iload hx hb dL_law_648 (lv_at hl 1 rfl) ?_
      refine lv_if_ne (tgt := 665) hx hb dL_law_650 (by decide) (fun c_5 => ?_) (fun c_5 => ?_)
      · skip
        refine lv_goto (tgt := 1447) hx hb dL_law_665 (by decide) ?_
        obtain ⟨hP, hD⟩ := zp_5 hP hD
        refine W.widen (k := cells + 3) (n := slots + 18) (by omega) (by omega) ?_
        exact kk _ ⟨S, F, TS, TF, ES, EF, HS, KS, KF, X, B, (upd V 1 1), G, OL, p, n, L, rfl, (lwR_v hR rfl rfl)⟩ _ _ _ hP hD hS (lv_sub hl [2, 3, 4, 5, 6] rfl)
      · skip
        first | exact absurd c_5 (by decide) | exact absurd (by decide) c_5 | exact absurd rfl c_5
    · skip
      first | exact absurd c_4 (by decide) | exact absurd (by decide) c_4 | exact absurd rfl c_4

set_option maxHeartbeats 4000000 in
set_option maxRecDepth 100000 in
theorem law_run {pq : Program} (l : Launch) {eq : Env} {s : State} {mq : MethodId} {below : List Frame} {meth : Method} {cq : Code} {A : Nat → Prop} {D : va_G} {cs : zCs} {b Ls i : Nat} {xs : Nat → Int32} {H : Heap} {locs : List Loc} {ls : Array Slot} {cells slots : Nat} {Q : State → Prop} {ad kd : Nat → Nat → Nat} {a : Nat → Nat} {ou : Nat} {S : Nat → Int32} {F : Nat → Nat → Int32} {TS : Nat → Int32} {TF : Nat → Nat → Int32} {ES : Nat → Int32} {EF : Nat → Nat → Int32} {HS : Nat → Int32} {KS : Nat → Nat → Int32} {KF : Nat → Nat → Nat → Int32} {X : Nat → Int32} {B : Nat → Nat → Int32} {V : Nat → Int32} {G : Nat → Nat → Int32} {OL : Nat → Int64} {p n L : Nat} (hfl : l.stackTraces = false) (hx : pq.tables.exec = Jvm.exec) (hb : cq.code = cL_law) (hml : cq.maxLocals = 9) (hown : s.vm.findClass RL = some mq.cls) (hts : ∀ w ∈ wsG, w.before #[Value.ref b] s = true) (hXs : va_X b Ls xs s s.heap) (hbl : b < s.heap.size) (hbA : ¬ A b) (hE : zE A s) (hK : va_K D vwCl (zT cs) s) (hA : ∀ q : Nat, s.heap.size ≤ q → A q) (hLs : Ls ≤ 2560) (hi : i + 5 ≤ Ls) (hce : cells + 3 ≤ 601024) (hsl : slots + 18 ≤ 7293034) (hR : lwR S F HS KS KF X B V G p n L) (hP : va_P D vwCl ((camW ad) ++ (macW cs (ad 0) S F) ++ (macW cs (ad 1) TS TF) ++ (macW cs (ad 2) ES EF) ++ (hisW cs (ad 4) kd HS) ++ (macW cs (kd 0) (KS 0) (KF 0)) ++ (macW cs (kd 1) (KS 1) (KF 1)) ++ (macW cs (kd 2) (KS 2) (KF 2)) ++ (macW cs (kd 3) (KS 3) (KF 3)) ++ (txtW cs (ad 5) X B) ++ (refW cs a V G) ++ [(ou, .inl (cs.2.1, 1, .inr (.inl OL)))]) H) (hD : va_D A ((camW ad) ++ (macW cs (ad 0) S F) ++ (macW cs (ad 1) TS TF) ++ (macW cs (ad 2) ES EF) ++ (hisW cs (ad 4) kd HS) ++ (macW cs (kd 0) (KS 0) (KF 0)) ++ (macW cs (kd 1) (KS 1) (KF 1)) ++ (macW cs (kd 2) (KS 2) (KF 2)) ++ (macW cs (kd 3) (KS 3) (KF 3)) ++ (txtW cs (ad 5) X B) ++ (refW cs a V G) ++ [(ou, .inl (cs.2.1, 1, .inr (.inl OL)))])) (hS : va_S A s.heap H locs) (hl : lv_has ls 9 [(0, .ref b), (1, .ref (ad 3 0)), (2, .ref (a 0)), (3, .ref ou), (4, .int (nI i))]) (kk : ∀ (w : va_W), lwI cs ad kd a ou w → ∀ (H : Heap) (locs : List Loc) (ls : Array Slot), va_P D vwCl w H → va_D A w → va_S A s.heap H locs → lv_has ls 9 [(0, .ref b), (1, .ref (ad 3 0)), (2, .ref (a 0)), (3, .ref ou), (4, .int (nI i))] → W pq l eq room_1 s mq #[Value.ref b] below meth cq H locs (cells + 3) (slots + 18) Q (F0 mq 1447 ls [])) : W pq l eq room_1 s mq #[Value.ref b] below meth cq H locs cells slots Q (F0 mq 668 ls []) := by
  obtain ⟨⟨hp, hp4, hn, hn4, hsn⟩, hag, hrg, hX0, hL, h4, hGB, htx⟩ := id hR
  have e0 : G 0 0 = S 0 := agr_s hag (by omega)
  have e8 : G 0 8 = S 8 := agr_s hag (by omega)
  have e9 : G 0 9 = S 9 := agr_s hag (by omega)
  obtain ⟨hn2, hn16, hS0⟩ := lw_n0 hag
  obtain ⟨hg4, hS8, ez⟩ := lw_n8 hag
  have h0 : G 0 0 = nI (nN (S 0)) := e0.trans hS0
  have h8 : G 0 8 = nI (nN (S 8)) := e8.trans hS8
  have hok : rOK (G 0) := r_ok hag
  have ho : ∀ j, j < nN (S 8) → ∃ o, o < 5 ∧ G 0 (51 + 3 * j + 1) = nI o := lw_ho hag
  refine lv_aload_n hx hb dL_law_668 rfl (lv_at hl 1 rfl) ?_
  refine lv_aload_n hx hb dL_law_669 rfl (lv_at hl 0 rfl) ?_
  refine lv_iload hx hb dL_law_670 (lv_at hl 4 rfl) ?_
  refine lv_iconst (v := 1) hx hb dL_law_672 (by decide) ?_
  refine lv_iadd hx hb dL_law_673 ?_
  refine z_top (y := nI (i + 1)) (nI_add i 1) ?_
  refine z_scr (k := i + 1) hx hb hXs hbl hbA hS (by omega) hLs dL_law_674 ?_
  refine lv_aload_n hx hb dL_law_675 rfl (lv_at hl 3 rfl) ?_
  by_cases w0 : 1 ≤ (xs (i + 1)) ∧ (xs (i + 1)) ≤ 500
  · skip
    by_cases w1 : (S 9) + (xs (i + 1)) ≤ 100000
    · skip
      obtain ⟨hP, hD⟩ := zp_1 hP hD
      refine z_lawH ⟨hx, hb, hml, hown, hts⟩ zYw_run w_st_yL_run w_ml_L_111 [.ref (ad 3 0), .int (xs (i + 1)), .ref ou] [] (c_L_run_ok l D cs hfl ad S F kd HS KS KF p n (xs (i + 1)) ou OL hp hp4 hn hn4 (by rw [exT_t w0, exT_t w1])) hE hK hA hP hD hS (z_la (z_la (z_la (z_la (z_la (z_la (z_la rfl (z_lm _ _ _ _ _ _)) (z_lh _ _ _ _ _)) (z_lm _ _ _ _ _ _)) (z_lm _ _ _ _ _ _)) (z_lm _ _ _ _ _ _)) (z_lm _ _ _ _ _ _)) (z_lo _ _ _ _)) rfl hl.1 (Nat.le_of_ble_eq_true rfl) ⟨Nat.le_of_ble_eq_true rfl, Nat.le_of_ble_eq_true rfl⟩ ⟨by show _ ≤ 601024; omega, by show _ ≤ 7293034; omega⟩ dL_law_676 (fun H locs hP hD hS => ?_)
      refine lv_istore (lv' := [(5, .int 0), (0, .ref b), (1, .ref (ad 3 0)), (2, .ref (a 0)), (3, .ref ou), (4, .int (nI i))]) hx hb dL_law_679 hl (by decide) rfl (fun ls hl => ?_)
      refine lv_aload_n hx hb dL_law_681 rfl (lv_at hl 3 rfl) ?_
      refine lv_aload_n hx hb dL_law_682 rfl (lv_at hl 1 rfl) ?_
      refine lv_iload hx hb dL_law_683 (lv_at hl 5 rfl) ?_
      refine lv_iconst (v := 1) hx hb dL_law_685 (by decide) ?_
      refine lv_iadd hx hb dL_law_686 ?_
      refine z_top (y := nI (i + 1)) (nI_add i 1) ?_
      refine z_scr (k := i + 1) hx hb hXs hbl hbA hS (by omega) hLs dL_law_687 ?_
      obtain ⟨hP, hD⟩ := zp_2 hP hD
      refine z_lawV ⟨hx, hb, hml, hown, hts⟩ zY_X8_run w_im_yX8_run w_se_yX8_run w_ml_L_113 [.int (xs (i + 1))] [] (c_X8_run_ok l D cs a V G n (xs (i + 1)) hsn hn4 hok w0 (by rw [e9]; exact w1)) hE hK hA hP hD hS (z_lr _ _ _ _ _ _) 8 rfl rfl rfl rfl hl.1 (Nat.le_of_ble_eq_true rfl) ⟨Nat.le_of_ble_eq_true rfl, Nat.le_of_ble_eq_true rfl⟩ ⟨by show _ ≤ 601024; omega, by show _ ≤ 7293034; omega⟩ dL_law_688 (fun H locs hP hD hS => ?_)
      refine lv_istore (lv' := [(6, .int ((rTi ((G 0), V 2, V 3) (nN (xs (i + 1)))).1 10 - (G 0) 10)), (5, .int 0), (0, .ref b), (1, .ref (ad 3 0)), (2, .ref (a 0)), (3, .ref ou), (4, .int (nI i))]) hx hb dL_law_691 hl (by decide) rfl (fun ls hl => ?_)
      refine lv_aload_n hx hb dL_law_693 rfl (lv_at hl 4 rfl) ?_
      refine z_lawV ⟨hx, hb, hml, hown, hts⟩ zY_X8_thrown w_im_yX8_thrown w_se_yX8_thrown w_ml_L_86 [] [] (c_X8_thrown l D cs a ((upd (upd (upd (upd V 0 (nI (min (n + 1) 4))) 1 0) 2 ((rTi ((G 0), V 2, V 3) (nN (xs (i + 1)))).2.1)) 3 ((rTi ((G 0), V 2, V 3) (nN (xs (i + 1)))).2.2))) ((zU (zU G 0 (rTi ((G 0), V 2, V 3) (nN (xs (i + 1)))).1) 1 (svF n (G 1) (G 0))))) hE hK hA hP hD hS (z_lr _ _ _ _ _ _) 8 rfl rfl rfl rfl hl.1 (Nat.le_of_ble_eq_true rfl) ⟨Nat.le_of_ble_eq_true rfl, Nat.le_of_ble_eq_true rfl⟩ ⟨by show _ ≤ 601024; omega, by show _ ≤ 7293034; omega⟩ dL_law_694 (fun H locs hP hD hS => ?_)
      refine z_top (y := 0) rfl ?_
      refine lv_iload hx hb dL_law_697 (lv_at hl 1 rfl) ?_
      refine lv_icmp_eq (tgt := 704) hx hb dL_law_699 (by decide) (fun c_1 => ?_) (fun c_1 => ?_)
      · skip
        refine lv_iload hx hb dL_law_704 (lv_at hl 1 rfl) ?_
        refine lv_if_ne (tgt := 721) hx hb dL_law_706 (by decide) (fun c_2 => ?_) (fun c_2 => ?_)
        · skip
          first | exact absurd c_2 (by decide) | exact absurd (by decide) c_2 | exact absurd rfl c_2
        · skip
          refine lv_aload_n hx hb dL_law_709 rfl (lv_at hl 5 rfl) ?_
          refine lv_iconst (v := 0) hx hb dL_law_710 (by decide) ?_
          obtain ⟨hP, hD⟩ := zp_3 hP hD
          refine z_lout (q0 := 0) (v := ((tkN (S, F) (nN (xs (i + 1)))).1 10 - (S 10)).toInt64) hx hb hK hP rfl dL_law_711 rfl ?_
          refine lv_iload hx hb dL_law_712 (lv_at hl 0 rfl) ?_
          refine lv_i2l (v := ((rTi ((G 0), V 2, V 3) (nN (xs (i + 1)))).1 10 - (G 0) 10).toInt64) hx hb dL_law_714 rfl ?_
          refine z_lcmp_eq (tgt := 721) hx hb dL_law_715 dL_law_716 (by decide) (fun c_3 => ?_) (fun c_3 => ?_)
          · skip
            refine lv_goto (tgt := 1447) hx hb dL_law_721 (by decide) ?_
            obtain ⟨hP, hD⟩ := zp_4 hP hD
            refine W.widen (k := cells + 3) (n := slots + 18) (by omega) (by omega) ?_
            exact kk _ ⟨((tkN (S, F) (nN (xs (i + 1)))).1), ((tkN (S, F) (nN (xs (i + 1)))).2), TS, TF, ES, EF, (upd (upd HS 0 (nI (hNx p))) 1 (nI (min (n + 1) 4))), (kup KS (hNx p) S), (kup KF (hNx p) F), X, B, (upd (upd (upd (upd V 0 (nI (min (n + 1) 4))) 1 0) 2 ((rTi ((G 0), V 2, V 3) (nN (xs (i + 1)))).2.1)) 3 ((rTi ((G 0), V 2, V 3) (nN (xs (i + 1)))).2.2)), (zU (zU G 0 (rTi ((G 0), V 2, V 3) (nN (xs (i + 1)))).1) 1 (svF n (G 1) (G 0))), (vp_updL OL 0 ((tkN (S, F) (nN (xs (i + 1)))).1 10 - (S 10)).toInt64), (hNx p), (min (n + 1) 4), L, rfl, (lwR_save hR (s_run (q := ((G 0), V 2, V 3)) hag w0 w1).1 rfl rfl rfl rfl rfl rfl rfl)⟩ _ _ _ hP hD hS (lv_sub hl [2, 3, 4, 5, 6] rfl)
          · exact absurd (congrArg Int32.toInt64 ((s_run (q := ((G 0), V 2, V 3)) hag w0 w1).2.symm)) c_3
      · skip
        first | exact absurd c_1 (by decide) | exact absurd (by decide) c_1 | exact absurd rfl c_1
    · skip
      obtain ⟨hP, hD⟩ := zp_1 hP hD
      refine z_lawH ⟨hx, hb, hml, hown, hts⟩ zYw_run w_st_yL_run w_ml_L_111 [.ref (ad 3 0), .int (xs (i + 1)), .ref ou] [] (c_L_run_e2 l D cs hfl ad S F kd HS KS KF p n (xs (i + 1)) ou OL hp hp4 hn hn4 (by rw [exT_t w0, exT_f w1])) hE hK hA hP hD hS (z_la (z_la (z_la (z_la (z_la (z_la (z_la rfl (z_lm _ _ _ _ _ _)) (z_lh _ _ _ _ _)) (z_lm _ _ _ _ _ _)) (z_lm _ _ _ _ _ _)) (z_lm _ _ _ _ _ _)) (z_lm _ _ _ _ _ _)) (z_lo _ _ _ _)) rfl hl.1 (Nat.le_of_ble_eq_true rfl) ⟨Nat.le_of_ble_eq_true rfl, Nat.le_of_ble_eq_true rfl⟩ ⟨by show _ ≤ 601024; omega, by show _ ≤ 7293034; omega⟩ dL_law_676 (fun H locs hP hD hS => ?_)
      refine lv_istore (lv' := [(5, .int 2), (0, .ref b), (1, .ref (ad 3 0)), (2, .ref (a 0)), (3, .ref ou), (4, .int (nI i))]) hx hb dL_law_679 hl (by decide) rfl (fun ls hl => ?_)
      refine lv_aload_n hx hb dL_law_681 rfl (lv_at hl 3 rfl) ?_
      refine lv_aload_n hx hb dL_law_682 rfl (lv_at hl 1 rfl) ?_
      refine lv_iload hx hb dL_law_683 (lv_at hl 5 rfl) ?_
      refine lv_iconst (v := 1) hx hb dL_law_685 (by decide) ?_
      refine lv_iadd hx hb dL_law_686 ?_
      refine z_top (y := nI (i + 1)) (nI_add i 1) ?_
      refine z_scr (k := i + 1) hx hb hXs hbl hbA hS (by omega) hLs dL_law_687 ?_
      obtain ⟨hP, hD⟩ := zp_2 hP hD
      refine z_lawV ⟨hx, hb, hml, hown, hts⟩ zY_X8_run w_im_yX8_run w_se_yX8_run w_ml_L_113 [.int (xs (i + 1))] [] (c_X8_run_t2 l D cs a V G n (xs (i + 1)) hsn hn4 w0 (fun z => w1 (by rw [← e9]; exact z))) hE hK hA hP hD hS (z_lr _ _ _ _ _ _) 8 rfl rfl rfl rfl hl.1 (Nat.le_of_ble_eq_true rfl) ⟨Nat.le_of_ble_eq_true rfl, Nat.le_of_ble_eq_true rfl⟩ ⟨by show _ ≤ 601024; omega, by show _ ≤ 7293034; omega⟩ dL_law_688 (fun H locs hP hD hS => ?_)
      refine lv_istore (lv' := [(6, .int 0), (5, .int 2), (0, .ref b), (1, .ref (ad 3 0)), (2, .ref (a 0)), (3, .ref ou), (4, .int (nI i))]) hx hb dL_law_691 hl (by decide) rfl (fun ls hl => ?_)
      refine lv_aload_n hx hb dL_law_693 rfl (lv_at hl 4 rfl) ?_
      refine z_lawV ⟨hx, hb, hml, hown, hts⟩ zY_X8_thrown w_im_yX8_thrown w_se_yX8_thrown w_ml_L_86 [] [] (c_X8_thrown l D cs a ((upd V 1 2)) G) hE hK hA hP hD hS (z_lr _ _ _ _ _ _) 8 rfl rfl rfl rfl hl.1 (Nat.le_of_ble_eq_true rfl) ⟨Nat.le_of_ble_eq_true rfl, Nat.le_of_ble_eq_true rfl⟩ ⟨by show _ ≤ 601024; omega, by show _ ≤ 7293034; omega⟩ dL_law_694 (fun H locs hP hD hS => ?_)
      refine z_top (y := 2) rfl ?_
      refine lv_iload hx hb dL_law_697 (lv_at hl 1 rfl) ?_
      refine lv_icmp_eq (tgt := 704) hx hb dL_law_699 (by decide) (fun c_4 => ?_) (fun c_4 => ?_)
      · skip
        refine lv_iload hx hb dL_law_704 (lv_at hl 1 rfl) ?_
        refine lv_if_ne (tgt := 721) hx hb dL_law_706 (by decide) (fun c_5 => ?_) (fun c_5 => ?_)
        · skip
          refine lv_goto (tgt := 1447) hx hb dL_law_721 (by decide) ?_
          obtain ⟨hP, hD⟩ := zp_5 hP hD
          refine W.widen (k := cells + 3) (n := slots + 18) (by omega) (by omega) ?_
          exact kk _ ⟨S, F, TS, TF, ES, EF, HS, KS, KF, X, B, (upd V 1 2), G, OL, p, n, L, rfl, (lwR_v hR rfl rfl)⟩ _ _ _ hP hD hS (lv_sub hl [2, 3, 4, 5, 6] rfl)
        · skip
          first | exact absurd c_5 (by decide) | exact absurd (by decide) c_5 | exact absurd rfl c_5
      · skip
        first | exact absurd c_4 (by decide) | exact absurd (by decide) c_4 | exact absurd rfl c_4
  · skip
    obtain ⟨hP, hD⟩ := zp_1 hP hD
    refine z_lawH ⟨hx, hb, hml, hown, hts⟩ zYw_run w_st_yL_run w_ml_L_111 [.ref (ad 3 0), .int (xs (i + 1)), .ref ou] [] (c_L_run_e1 l D cs hfl ad S F kd HS KS KF p n (xs (i + 1)) ou OL hp hp4 hn hn4 (by rw [exT_f w0])) hE hK hA hP hD hS (z_la (z_la (z_la (z_la (z_la (z_la (z_la rfl (z_lm _ _ _ _ _ _)) (z_lh _ _ _ _ _)) (z_lm _ _ _ _ _ _)) (z_lm _ _ _ _ _ _)) (z_lm _ _ _ _ _ _)) (z_lm _ _ _ _ _ _)) (z_lo _ _ _ _)) rfl hl.1 (Nat.le_of_ble_eq_true rfl) ⟨Nat.le_of_ble_eq_true rfl, Nat.le_of_ble_eq_true rfl⟩ ⟨by show _ ≤ 601024; omega, by show _ ≤ 7293034; omega⟩ dL_law_676 (fun H locs hP hD hS => ?_)
    refine lv_istore (lv' := [(5, .int 1), (0, .ref b), (1, .ref (ad 3 0)), (2, .ref (a 0)), (3, .ref ou), (4, .int (nI i))]) hx hb dL_law_679 hl (by decide) rfl (fun ls hl => ?_)
    refine lv_aload_n hx hb dL_law_681 rfl (lv_at hl 3 rfl) ?_
    refine lv_aload_n hx hb dL_law_682 rfl (lv_at hl 1 rfl) ?_
    refine lv_iload hx hb dL_law_683 (lv_at hl 5 rfl) ?_
    refine lv_iconst (v := 1) hx hb dL_law_685 (by decide) ?_
    refine lv_iadd hx hb dL_law_686 ?_
    refine z_top (y := nI (i + 1)) (nI_add i 1) ?_
    refine z_scr (k := i + 1) hx hb hXs hbl hbA hS (by omega) hLs dL_law_687 ?_
    obtain ⟨hP, hD⟩ := zp_2 hP hD
    refine z_lawV ⟨hx, hb, hml, hown, hts⟩ zY_X8_run w_im_yX8_run w_se_yX8_run w_ml_L_113 [.int (xs (i + 1))] [] (c_X8_run_t1 l D cs a V G n (xs (i + 1)) hsn hn4 w0) hE hK hA hP hD hS (z_lr _ _ _ _ _ _) 8 rfl rfl rfl rfl hl.1 (Nat.le_of_ble_eq_true rfl) ⟨Nat.le_of_ble_eq_true rfl, Nat.le_of_ble_eq_true rfl⟩ ⟨by show _ ≤ 601024; omega, by show _ ≤ 7293034; omega⟩ dL_law_688 (fun H locs hP hD hS => ?_)
    refine lv_istore (lv' := [(6, .int 0), (5, .int 1), (0, .ref b), (1, .ref (ad 3 0)), (2, .ref (a 0)), (3, .ref ou), (4, .int (nI i))]) hx hb dL_law_691 hl (by decide) rfl (fun ls hl => ?_)
    refine lv_aload_n hx hb dL_law_693 rfl (lv_at hl 4 rfl) ?_
    refine z_lawV ⟨hx, hb, hml, hown, hts⟩ zY_X8_thrown w_im_yX8_thrown w_se_yX8_thrown w_ml_L_86 [] [] (c_X8_thrown l D cs a ((upd V 1 1)) G) hE hK hA hP hD hS (z_lr _ _ _ _ _ _) 8 rfl rfl rfl rfl hl.1 (Nat.le_of_ble_eq_true rfl) ⟨Nat.le_of_ble_eq_true rfl, Nat.le_of_ble_eq_true rfl⟩ ⟨by show _ ≤ 601024; omega, by show _ ≤ 7293034; omega⟩ dL_law_694 (fun H locs hP hD hS => ?_)
    refine z_top (y := 1) rfl ?_
    refine lv_iload hx hb dL_law_697 (lv_at hl 1 rfl) ?_
    refine lv_icmp_eq (tgt := 704) hx hb dL_law_699 (by decide) (fun c_6 => ?_) (fun c_6 => ?_)
    · skip
      refine lv_iload hx hb dL_law_704 (lv_at hl 1 rfl) ?_
      refine lv_if_ne (tgt := 721) hx hb dL_law_706 (by decide) (fun c_7 => ?_) (fun c_7 => ?_)
      · skip
        refine lv_goto (tgt := 1447) hx hb dL_law_721 (by decide) ?_
        obtain ⟨hP, hD⟩ := zp_5 hP hD
        refine W.widen (k := cells + 3) (n := slots + 18) (by omega) (by omega) ?_
        exact kk _ ⟨S, F, TS, TF, ES, EF, HS, KS, KF, X, B, (upd V 1 1), G, OL, p, n, L, rfl, (lwR_v hR rfl rfl)⟩ _ _ _ hP hD hS (lv_sub hl [2, 3, 4, 5, 6] rfl)
      · skip
        first | exact absurd c_7 (by decide) | exact absurd (by decide) c_7 | exact absurd rfl c_7
    · skip
      first | exact absurd c_6 (by decide) | exact absurd (by decide) c_6 | exact absurd rfl c_6
