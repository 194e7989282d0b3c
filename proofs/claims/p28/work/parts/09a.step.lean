def stP (cs : zCs) (ad kd bd ld : Nat → Nat → Nat) (b : Nat) (N : Int) (S0 : Nat → Int32) : va_W → Prop := fun wo => ∃ (S : Nat → Int32) (F : Nat → Nat → Int32) (HS : Nat → Int32) (KS : Nat → Nat → Int32) (KF : Nat → Nat → Nat → Int32) (V : Nat → Int32) (G : Nat → Nat → Int32) (HV : Nat → Int32) (KV : Nat → Nat → Int32) (KG : Nat → Nat → Nat → Int32) (p n q r : Nat), wo = svW cs ad kd S F HS KS KF ++ svW cs bd ld V G HV KV KG ∧ dR b N S F V G ∧ mo S0 S ∧ hsR HS p n ∧ hsR HV q r
theorem z_lc (ad : Nat → Nat → Nat) : (camW ad).map (fun q => q.1) = (camW ad).map (fun q => q.1) := rfl
theorem nI_ne {a b : Nat} (h : ¬ a = b) (ha : a < 2147483648) (hb : b < 2147483648) : ¬ nI a = nI b := fun e => by
  have e1 := nI_toInt (n := a) (by omega)
  have e2 := nI_toInt (n := b) (by omega)
  rw [e] at e1
  omega
theorem nI_inj {a b : Nat} (h : nI a = nI b) (ha : a < 2147483648) (hb : b < 2147483648) : a = b := by
  have e1 := nI_toInt (n := a) (by omega)
  have e2 := nI_toInt (n := b) (by omega)
  rw [h] at e1
  omega
theorem zv_l (S : Nat → Int32) (k : Nat) (h : k < 16) : S (nN (nI k)) = S k := by rw [nN_nI (by omega)]
theorem zq_s1 {A : Nat → Prop} {D : va_G} {cl : List vw_C} {H : Heap} {wDo wDp wKo wKp wk0o wk0p wk1o wk1p wk2o wk2p wk3o wk3p : va_W} (hP : va_P D cl ((wDo ++ wKo ++ wk0o ++ wk1o ++ wk2o ++ wk3o) ++ (wDp ++ wKp ++ wk0p ++ wk1p ++ wk2p ++ wk3p)) H) (hD : va_D A ((wDo ++ wKo ++ wk0o ++ wk1o ++ wk2o ++ wk3o) ++ (wDp ++ wKp ++ wk0p ++ wk1p ++ wk2p ++ wk3p))) : va_P D cl ((wDp ++ wKp ++ wk0p ++ wk1p ++ wk2p ++ wk3p) ++ (wDo ++ wKo ++ wk0o ++ wk1o ++ wk2o ++ wk3o)) H ∧ va_D A ((wDp ++ wKp ++ wk0p ++ wk1p ++ wk2p ++ wk3p) ++ (wDo ++ wKo ++ wk0o ++ wk1o ++ wk2o ++ wk3o)) := by
  refine z_perm (fun q h => ?_) (fun x => ?_) hP hD
  · simp only [List.mem_append] at h ⊢; simp only [or_assoc] at h ⊢; rcases h with h | h | h | h | h | h | h | h | h | h | h | h <;> simp only [h, true_or, or_true]
  · simp only [List.map_append, List.count_append]; omega

theorem zq_s2 {A : Nat → Prop} {D : va_G} {cl : List vw_C} {H : Heap} {wDo wDp wKo wKp wk0o wk0p wk1o wk1p wk2o wk2p wk3o wk3p : va_W} (hP : va_P D cl ((wDp ++ wKp ++ wk0p ++ wk1p ++ wk2p ++ wk3p) ++ (wDo ++ wKo ++ wk0o ++ wk1o ++ wk2o ++ wk3o)) H) (hD : va_D A ((wDp ++ wKp ++ wk0p ++ wk1p ++ wk2p ++ wk3p) ++ (wDo ++ wKo ++ wk0o ++ wk1o ++ wk2o ++ wk3o))) : va_P D cl ((wDo ++ wKo ++ wk0o ++ wk1o ++ wk2o ++ wk3o) ++ (wDp ++ wKp ++ wk0p ++ wk1p ++ wk2p ++ wk3p)) H ∧ va_D A ((wDo ++ wKo ++ wk0o ++ wk1o ++ wk2o ++ wk3o) ++ (wDp ++ wKp ++ wk0p ++ wk1p ++ wk2p ++ wk3p)) := by
  refine z_perm (fun q h => ?_) (fun x => ?_) hP hD
  · simp only [List.mem_append] at h ⊢; simp only [or_assoc] at h ⊢; rcases h with h | h | h | h | h | h | h | h | h | h | h | h <;> simp only [h, true_or, or_true]
  · simp only [List.map_append, List.count_append]; omega

theorem zq_s3 {A : Nat → Prop} {D : va_G} {cl : List vw_C} {H : Heap} {wDo wDp wKo wKp wk0o wk0p wk1o wk1p wk2o wk2p wk3o wk3p : va_W} (hP : va_P D cl ((wDo ++ wKo ++ wk0o ++ wk1o ++ wk2o ++ wk3o) ++ (wDp ++ wKp ++ wk0p ++ wk1p ++ wk2p ++ wk3p)) H) (hD : va_D A ((wDo ++ wKo ++ wk0o ++ wk1o ++ wk2o ++ wk3o) ++ (wDp ++ wKp ++ wk0p ++ wk1p ++ wk2p ++ wk3p))) : va_P D cl (wDo ++ (wKo ++ wk0o ++ wk1o ++ wk2o ++ wk3o ++ wDp ++ wKp ++ wk0p ++ wk1p ++ wk2p ++ wk3p)) H ∧ va_D A (wDo ++ (wKo ++ wk0o ++ wk1o ++ wk2o ++ wk3o ++ wDp ++ wKp ++ wk0p ++ wk1p ++ wk2p ++ wk3p)) := by
  refine z_perm (fun q h => ?_) (fun x => ?_) hP hD
  · simp only [List.mem_append] at h ⊢; simp only [or_assoc] at h ⊢; rcases h with h | h | h | h | h | h | h | h | h | h | h | h <;> simp only [h, true_or, or_true]
  · simp only [List.map_append, List.count_append]; omega

theorem zq_s4 {A : Nat → Prop} {D : va_G} {cl : List vw_C} {H : Heap} {wDo wDp wKo wKp wk0o wk0p wk1o wk1p wk2o wk2p wk3o wk3p : va_W} (hP : va_P D cl (wDo ++ (wKo ++ wk0o ++ wk1o ++ wk2o ++ wk3o ++ wDp ++ wKp ++ wk0p ++ wk1p ++ wk2p ++ wk3p)) H) (hD : va_D A (wDo ++ (wKo ++ wk0o ++ wk1o ++ wk2o ++ wk3o ++ wDp ++ wKp ++ wk0p ++ wk1p ++ wk2p ++ wk3p))) : va_P D cl ((wDo ++ wKo ++ wk0o ++ wk1o ++ wk2o ++ wk3o) ++ (wDp ++ wKp ++ wk0p ++ wk1p ++ wk2p ++ wk3p)) H ∧ va_D A ((wDo ++ wKo ++ wk0o ++ wk1o ++ wk2o ++ wk3o) ++ (wDp ++ wKp ++ wk0p ++ wk1p ++ wk2p ++ wk3p)) := by
  refine z_perm (fun q h => ?_) (fun x => ?_) hP hD
  · simp only [List.mem_append] at h ⊢; simp only [or_assoc] at h ⊢; rcases h with h | h | h | h | h | h | h | h | h | h | h | h <;> simp only [h, true_or, or_true]
  · simp only [List.map_append, List.count_append]; omega

set_option maxHeartbeats 4000000 in
set_option maxRecDepth 100000 in
theorem st_setCam {pq : Program} {l : Launch} {eq : Env} {s : State} {mq : MethodId} {below : List Frame} {meth : Method} {cq : Code} {A : Nat → Prop} {D : va_G} {cs : zCs} {ar : Array Value} {H : Heap} {locs : List Loc} {ls : Array Slot} {ad kd bd ld : Nat → Nat → Nat} {S : Nat → Int32} {F : Nat → Nat → Int32} {HS : Nat → Int32} {KS : Nat → Nat → Int32} {KF : Nat → Nat → Nat → Int32} {V : Nat → Int32} {G : Nat → Nat → Int32} {HV : Nat → Int32} {KV : Nat → Nat → Int32} {KG : Nat → Nat → Nat → Int32} {p n q r b : Nat} {N : Int} {y : Int32} {c0 : Nat} (hx : pq.tables.exec = Jvm.exec) (hb : cq.code = cL_isStep) (hr : meth.sig.returnType = some FieldType.boolean) (hml : cq.maxLocals = 7) (hown : s.vm.findClass RL = some mq.cls) (hts : ∀ w ∈ wsG, w.before ar s = true) (hlk : meth.locks = false) (hE : zE A s) (hK : va_K D vwCl (zT cs) s) (hA : ∀ q : Nat, s.heap.size ≤ q → A q) (hb8 : 1 ≤ b ∧ b < 8) (hN : 0 ≤ N ∧ N ≤ 50000) (hd : dR b N S F V G) (h1 : hsR HS p n) (h2 : hsR HV q r) (hc : c0 < 5) (hP : va_P D vwCl ((((camW ad) ++ (macW cs (ad 0) S F)) ++ (hisW cs (ad 4) kd HS) ++ (macW cs (kd 0) (KS 0) (KF 0)) ++ (macW cs (kd 1) (KS 1) (KF 1)) ++ (macW cs (kd 2) (KS 2) (KF 2)) ++ (macW cs (kd 3) (KS 3) (KF 3))) ++ (((camW bd) ++ (macW cs (bd 0) V G)) ++ (hisW cs (bd 4) ld HV) ++ (macW cs (ld 0) (KV 0) (KG 0)) ++ (macW cs (ld 1) (KV 1) (KG 1)) ++ (macW cs (ld 2) (KV 2) (KG 2)) ++ (macW cs (ld 3) (KV 3) (KG 3)))) H) (hD : va_D A ((((camW ad) ++ (macW cs (ad 0) S F)) ++ (hisW cs (ad 4) kd HS) ++ (macW cs (kd 0) (KS 0) (KF 0)) ++ (macW cs (kd 1) (KS 1) (KF 1)) ++ (macW cs (kd 2) (KS 2) (KF 2)) ++ (macW cs (kd 3) (KS 3) (KF 3))) ++ (((camW bd) ++ (macW cs (bd 0) V G)) ++ (hisW cs (bd 4) ld HV) ++ (macW cs (ld 0) (KV 0) (KG 0)) ++ (macW cs (ld 1) (KV 1) (KG 1)) ++ (macW cs (ld 2) (KV 2) (KG 2)) ++ (macW cs (ld 3) (KV 3) (KG 3))))) (hS : va_S A s.heap H locs) (hl : lv_has ls 7 [(0, .ref (ad 3 0)), (1, .ref (bd 3 0)), (2, .int (nI b)), (4, .int y), (5, .int (nI c0))]) : W pq l eq ({ frames := 8, cells := 0, slots := 0, locals := 178 } : Room) s mq ar below meth cq H locs 0 0 (MQ below (zQe D cs (some (.int 1)) (stP cs ad kd bd ld b (N + 30) S) A) ar s 0 0 A) (F0 mq 68 ls []) := by
  obtain ⟨hb1, hb7⟩ := hb8
  have hck : nN (nI c0) < 5 := by rw [nN_nI (by omega)]; exact hc
  refine lv_iload hx hb dL_isStep_68 (lv_at hl 3 rfl) ?_
  refine lv_iconst (v := 3) hx hb dL_isStep_70 (by decide) ?_
  refine lv_ishr hx hb dL_isStep_71 ?_
  refine lv_bipush (v := 8) hx hb dL_isStep_72 (by decide) ?_
  refine z_callS ⟨hx, hb, hml, hown, hts⟩ zY_L_up w_st_yL_up w_ml_L_9 [.int (y >>> (3 &&& 31)), .int 8] [] (c_L_up l D cs (y >>> (3 &&& 31)) 8 (by omega) (by omega)) hE hK hA hP hD hS [] rfl rfl rfl z_ins_nil rfl hl.1 (Nat.le_of_ble_eq_true rfl) ⟨Nat.le_of_ble_eq_true rfl, Nat.le_of_ble_eq_true rfl⟩ ⟨Nat.le_of_ble_eq_true rfl, Nat.le_of_ble_eq_true rfl⟩ dL_isStep_74 (fun H locs hP hD hS => ?_)
  obtain ⟨u1, hu1, eu1⟩ : ∃ u : Nat, u < 8 ∧ upv (y >>> (3 &&& 31)) % 8 = u := ⟨_, Nat.mod_lt _ (by omega), rfl⟩
  refine z_top (y := nI u1) (by rw [eu1]) ?_
  refine lv_istore (lv' := [(6, .int (nI u1)), (0, .ref (ad 3 0)), (1, .ref (bd 3 0)), (2, .int (nI b)), (4, .int y), (5, .int (nI c0))]) hx hb dL_isStep_77 hl (by decide) rfl (fun ls hl => ?_)
  refine lv_aload_n hx hb dL_isStep_79 rfl (lv_at hl 1 rfl) ?_
  refine lv_iload hx hb dL_isStep_80 (lv_at hl 5 rfl) ?_
  refine lv_iload hx hb dL_isStep_82 (lv_at hl 0 rfl) ?_
  refine lv_iload hx hb dL_isStep_84 (lv_at hl 4 rfl) ?_
  refine lv_bipush (v := 7) hx hb dL_isStep_86 (by decide) ?_
  refine lv_ishr hx hb dL_isStep_88 ?_
  refine lv_iconst (v := 3) hx hb dL_isStep_89 (by decide) ?_
  refine lv_iand hx hb dL_isStep_90 ?_
  refine lv_if_eq (tgt := 98) hx hb dL_isStep_91 (by decide) (fun c_2 => ?_) (fun c_2 => ?_)
  · skip
    refine lv_iconst (v := 0) hx hb dL_isStep_98 (by decide) ?_
    refine z_lawV ⟨hx, hb, hml, hown, hts⟩ zY_X7_setCam w_im_yX7_setCam w_se_yX7_setCam w_ml_L_15 [.int (nI c0), .int (nI u1), .int 0] [] (c_X7_setCam_ok l D cs ad S F kd HS KS KF p n (nI c0) (nI u1) 0 (h1.1) (h1.2.1) (h1.2.2.1) (h1.2.2.2) (g_5 hc) (g_st (f_0 hd.1) hu1)) hE hK hA hP hD hS (z_la (z_la (z_la (z_la (z_la (z_la (z_lc _) (z_lm _ _ _ _ _ _)) (z_lh _ _ _ _ _)) (z_lm _ _ _ _ _ _)) (z_lm _ _ _ _ _ _)) (z_lm _ _ _ _ _ _)) (z_lm _ _ _ _ _ _)) 7 rfl rfl rfl rfl hl.1 (Nat.le_of_ble_eq_true rfl) ⟨Nat.le_of_ble_eq_true rfl, Nat.le_of_ble_eq_true rfl⟩ ⟨Nat.le_of_ble_eq_true rfl, Nat.le_of_ble_eq_true rfl⟩ dL_isStep_99 (fun H locs hP hD hS => ?_)
    refine lv_aload_n hx hb dL_isStep_102 rfl (lv_at hl 2 rfl) ?_
    refine lv_iload hx hb dL_isStep_103 (lv_at hl 5 rfl) ?_
    refine lv_iload hx hb dL_isStep_105 (lv_at hl 0 rfl) ?_
    refine lv_iload_n hx hb dL_isStep_107 rfl (lv_at hl 3 rfl) ?_
    refine lv_iadd hx hb dL_isStep_108 ?_
    refine z_top (y := nI (u1 + b)) (nI_add u1 b) ?_
    refine lv_bipush (v := 8) hx hb dL_isStep_109 (by decide) ?_
    refine lv_irem hx hb dL_isStep_111 (by decide) ?_
    refine z_top (y := nI ((u1 + b) % 8)) (up_rem (a := u1 + b) (m := 8) (by omega) (by omega) (by omega)) ?_
    refine lv_iload hx hb dL_isStep_112 (lv_at hl 4 rfl) ?_
    refine lv_bipush (v := 7) hx hb dL_isStep_114 (by decide) ?_
    refine lv_ishr hx hb dL_isStep_116 ?_
    refine lv_iconst (v := 3) hx hb dL_isStep_117 (by decide) ?_
    refine lv_iand hx hb dL_isStep_118 ?_
    refine lv_if_eq (tgt := 126) hx hb dL_isStep_119 (by decide) (fun c_3 => ?_) (fun c_3 => ?_)
    · skip
      refine lv_iconst (v := 0) hx hb dL_isStep_126 (by decide) ?_
      obtain ⟨hP, hD⟩ := zq_s1 hP hD
      refine z_lawV ⟨hx, hb, hml, hown, hts⟩ zY_X7_setCam w_im_yX7_setCam w_se_yX7_setCam w_ml_L_15 [.int (nI c0), .int (nI ((u1 + b) % 8)), .int 0] [.int (jbc (camPut ((F 0) (nN (nI c0))) (nI u1) 0))] (c_X7_setCam_ok l D cs bd V G ld HV KV KG q r (nI c0) (nI ((u1 + b) % 8)) 0 (h2.1) (h2.2.1) (h2.2.2.1) (h2.2.2.2) (g_5 hc) (g_st (f_0 hd.2.1) (by omega))) hE hK hA hP hD hS (z_la (z_la (z_la (z_la (z_la (z_la (z_lc _) (z_lm _ _ _ _ _ _)) (z_lh _ _ _ _ _)) (z_lm _ _ _ _ _ _)) (z_lm _ _ _ _ _ _)) (z_lm _ _ _ _ _ _)) (z_lm _ _ _ _ _ _)) 7 rfl rfl rfl rfl hl.1 (Nat.le_of_ble_eq_true rfl) ⟨Nat.le_of_ble_eq_true rfl, Nat.le_of_ble_eq_true rfl⟩ ⟨Nat.le_of_ble_eq_true rfl, Nat.le_of_ble_eq_true rfl⟩ dL_isStep_127 (fun H locs hP hD hS => ?_)
      refine lv_icmp_ne (tgt := 137) hx hb dL_isStep_130 (by decide) (fun c_4 => ?_) (fun c_4 => ?_)
      · skip
        exact absurd (r_setCam hb7 hd.2.2 hck hu1 0).2.symm c_4
      · skip
        refine lv_iconst (v := 1) hx hb dL_isStep_133 (by decide) ?_
        refine lv_goto (tgt := 138) hx hb dL_isStep_134 (by decide) ?_
        obtain ⟨hP, hD⟩ := zq_s2 hP hD
        exact z_zretE hx hb hr hlk hK hP hD hS dL_isStep_138 rfl rfl ⟨S, (zU F 0 (upd (F 0) (nN (nI c0)) (camPut ((F 0) (nN (nI c0))) (nI u1) 0))), (upd (upd HS 0 (nI (hNx p))) 1 (nI (min (n + 1) 4))), kup KS (hNx p) S, kup KF (hNx p) F, V, (zU G 0 (upd (G 0) (nN (nI c0)) (camPut ((G 0) (nN (nI c0))) (nI ((u1 + b) % 8)) 0))), (upd (upd HV 0 (nI (hNx q))) 1 (nI (min (r + 1) 4))), kup KV (hNx q) V, kup KG (hNx q) G, hNx p, min (n + 1) 4, hNx q, min (r + 1) 4, rfl, ⟨(inv_w (i_setCam hd.1 hck (by omega) _) (by omega)), (inv_w (i_setCam hd.2.1 hck (by omega) _) (by omega)), (r_setCam hb7 hd.2.2 hck hu1 _).1⟩, (mo_r S), (hsR_s h1), (hsR_s h2)⟩
    · skip
      exact absurd c_2 c_3
  · skip
    refine lv_iconst (v := 1) hx hb dL_isStep_94 (by decide) ?_
    refine lv_goto (tgt := 99) hx hb dL_isStep_95 (by decide) ?_
    refine z_lawV ⟨hx, hb, hml, hown, hts⟩ zY_X7_setCam w_im_yX7_setCam w_se_yX7_setCam w_ml_L_15 [.int (nI c0), .int (nI u1), .int 1] [] (c_X7_setCam_ok l D cs ad S F kd HS KS KF p n (nI c0) (nI u1) 1 (h1.1) (h1.2.1) (h1.2.2.1) (h1.2.2.2) (g_5 hc) (g_st (f_0 hd.1) hu1)) hE hK hA hP hD hS (z_la (z_la (z_la (z_la (z_la (z_la (z_lc _) (z_lm _ _ _ _ _ _)) (z_lh _ _ _ _ _)) (z_lm _ _ _ _ _ _)) (z_lm _ _ _ _ _ _)) (z_lm _ _ _ _ _ _)) (z_lm _ _ _ _ _ _)) 7 rfl rfl rfl rfl hl.1 (Nat.le_of_ble_eq_true rfl) ⟨Nat.le_of_ble_eq_true rfl, Nat.le_of_ble_eq_true rfl⟩ ⟨Nat.le_of_ble_eq_true rfl, Nat.le_of_ble_eq_true rfl⟩ dL_isStep_99 (fun H locs hP hD hS => ?_)
    refine lv_aload_n hx hb dL_isStep_102 rfl (lv_at hl 2 rfl) ?_
    refine lv_iload hx hb dL_isStep_103 (lv_at hl 5 rfl) ?_
    refine lv_iload hx hb dL_isStep_105 (lv_at hl 0 rfl) ?_
    refine lv_iload_n hx hb dL_isStep_107 rfl (lv_at hl 3 rfl) ?_
    refine lv_iadd hx hb dL_isStep_108 ?_
    refine z_top (y := nI (u1 + b)) (nI_add u1 b) ?_
    refine lv_bipush (v := 8) hx hb dL_isStep_109 (by decide) ?_
    refine lv_irem hx hb dL_isStep_111 (by decide) ?_
    refine z_top (y := nI ((u1 + b) % 8)) (up_rem (a := u1 + b) (m := 8) (by omega) (by omega) (by omega)) ?_
    refine lv_iload hx hb dL_isStep_112 (lv_at hl 4 rfl) ?_
    refine lv_bipush (v := 7) hx hb dL_isStep_114 (by decide) ?_
    refine lv_ishr hx hb dL_isStep_116 ?_
    refine lv_iconst (v := 3) hx hb dL_isStep_117 (by decide) ?_
    refine lv_iand hx hb dL_isStep_118 ?_
    refine lv_if_eq (tgt := 126) hx hb dL_isStep_119 (by decide) (fun c_5 => ?_) (fun c_5 => ?_)
    · skip
      exact absurd c_5 c_2
    · skip
      refine lv_iconst (v := 1) hx hb dL_isStep_122 (by decide) ?_
      refine lv_goto (tgt := 127) hx hb dL_isStep_123 (by decide) ?_
      obtain ⟨hP, hD⟩ := zq_s1 hP hD
      refine z_lawV ⟨hx, hb, hml, hown, hts⟩ zY_X7_setCam w_im_yX7_setCam w_se_yX7_setCam w_ml_L_15 [.int (nI c0), .int (nI ((u1 + b) % 8)), .int 1] [.int (jbc (camPut ((F 0) (nN (nI c0))) (nI u1) 1))] (c_X7_setCam_ok l D cs bd V G ld HV KV KG q r (nI c0) (nI ((u1 + b) % 8)) 1 (h2.1) (h2.2.1) (h2.2.2.1) (h2.2.2.2) (g_5 hc) (g_st (f_0 hd.2.1) (by omega))) hE hK hA hP hD hS (z_la (z_la (z_la (z_la (z_la (z_la (z_lc _) (z_lm _ _ _ _ _ _)) (z_lh _ _ _ _ _)) (z_lm _ _ _ _ _ _)) (z_lm _ _ _ _ _ _)) (z_lm _ _ _ _ _ _)) (z_lm _ _ _ _ _ _)) 7 rfl rfl rfl rfl hl.1 (Nat.le_of_ble_eq_true rfl) ⟨Nat.le_of_ble_eq_true rfl, Nat.le_of_ble_eq_true rfl⟩ ⟨Nat.le_of_ble_eq_true rfl, Nat.le_of_ble_eq_true rfl⟩ dL_isStep_127 (fun H locs hP hD hS => ?_)
      refine lv_icmp_ne (tgt := 137) hx hb dL_isStep_130 (by decide) (fun c_6 => ?_) (fun c_6 => ?_)
      · skip
        exact absurd (r_setCam hb7 hd.2.2 hck hu1 1).2.symm c_6
      · skip
        refine lv_iconst (v := 1) hx hb dL_isStep_133 (by decide) ?_
        refine lv_goto (tgt := 138) hx hb dL_isStep_134 (by decide) ?_
        obtain ⟨hP, hD⟩ := zq_s2 hP hD
        exact z_zretE hx hb hr hlk hK hP hD hS dL_isStep_138 rfl rfl ⟨S, (zU F 0 (upd (F 0) (nN (nI c0)) (camPut ((F 0) (nN (nI c0))) (nI u1) 1))), (upd (upd HS 0 (nI (hNx p))) 1 (nI (min (n + 1) 4))), kup KS (hNx p) S, kup KF (hNx p) F, V, (zU G 0 (upd (G 0) (nN (nI c0)) (camPut ((G 0) (nN (nI c0))) (nI ((u1 + b) % 8)) 1))), (upd (upd HV 0 (nI (hNx q))) 1 (nI (min (r + 1) 4))), kup KV (hNx q) V, kup KG (hNx q) G, hNx p, min (n + 1) 4, hNx q, min (r + 1) 4, rfl, ⟨(inv_w (i_setCam hd.1 hck (by omega) _) (by omega)), (inv_w (i_setCam hd.2.1 hck (by omega) _) (by omega)), (r_setCam hb7 hd.2.2 hck hu1 _).1⟩, (mo_r S), (hsR_s h1), (hsR_s h2)⟩

set_option maxHeartbeats 4000000 in
set_option maxRecDepth 100000 in
theorem st_setPawl {pq : Program} {l : Launch} {eq : Env} {s : State} {mq : MethodId} {below : List Frame} {meth : Method} {cq : Code} {A : Nat → Prop} {D : va_G} {cs : zCs} {ar : Array Value} {H : Heap} {locs : List Loc} {ls : Array Slot} {ad kd bd ld : Nat → Nat → Nat} {S : Nat → Int32} {F : Nat → Nat → Int32} {HS : Nat → Int32} {KS : Nat → Nat → Int32} {KF : Nat → Nat → Nat → Int32} {V : Nat → Int32} {G : Nat → Nat → Int32} {HV : Nat → Int32} {KV : Nat → Nat → Int32} {KG : Nat → Nat → Nat → Int32} {p n q r b : Nat} {N : Int} {y : Int32} {c0 : Nat} (hx : pq.tables.exec = Jvm.exec) (hb : cq.code = cL_isStep) (hr : meth.sig.returnType = some FieldType.boolean) (hml : cq.maxLocals = 7) (hown : s.vm.findClass RL = some mq.cls) (hts : ∀ w ∈ wsG, w.before ar s = true) (hlk : meth.locks = false) (hE : zE A s) (hK : va_K D vwCl (zT cs) s) (hA : ∀ q : Nat, s.heap.size ≤ q → A q) (hb8 : 1 ≤ b ∧ b < 8) (hN : 0 ≤ N ∧ N ≤ 50000) (hd : dR b N S F V G) (h1 : hsR HS p n) (h2 : hsR HV q r) (hc : c0 < 5) (hP : va_P D vwCl ((((camW ad) ++ (macW cs (ad 0) S F)) ++ (hisW cs (ad 4) kd HS) ++ (macW cs (kd 0) (KS 0) (KF 0)) ++ (macW cs (kd 1) (KS 1) (KF 1)) ++ (macW cs (kd 2) (KS 2) (KF 2)) ++ (macW cs (kd 3) (KS 3) (KF 3))) ++ (((camW bd) ++ (macW cs (bd 0) V G)) ++ (hisW cs (bd 4) ld HV) ++ (macW cs (ld 0) (KV 0) (KG 0)) ++ (macW cs (ld 1) (KV 1) (KG 1)) ++ (macW cs (ld 2) (KV 2) (KG 2)) ++ (macW cs (ld 3) (KV 3) (KG 3)))) H) (hD : va_D A ((((camW ad) ++ (macW cs (ad 0) S F)) ++ (hisW cs (ad 4) kd HS) ++ (macW cs (kd 0) (KS 0) (KF 0)) ++ (macW cs (kd 1) (KS 1) (KF 1)) ++ (macW cs (kd 2) (KS 2) (KF 2)) ++ (macW cs (kd 3) (KS 3) (KF 3))) ++ (((camW bd) ++ (macW cs (bd 0) V G)) ++ (hisW cs (bd 4) ld HV) ++ (macW cs (ld 0) (KV 0) (KG 0)) ++ (macW cs (ld 1) (KV 1) (KG 1)) ++ (macW cs (ld 2) (KV 2) (KG 2)) ++ (macW cs (ld 3) (KV 3) (KG 3))))) (hS : va_S A s.heap H locs) (hl : lv_has ls 7 [(0, .ref (ad 3 0)), (1, .ref (bd 3 0)), (2, .int (nI b)), (4, .int y), (5, .int (nI c0))]) : W pq l eq ({ frames := 8, cells := 0, slots := 0, locals := 178 } : Room) s mq ar below meth cq H locs 0 0 (MQ below (zQe D cs (some (.int 1)) (stP cs ad kd bd ld b (N + 30) S) A) ar s 0 0 A) (F0 mq 139 ls []) := by
  obtain ⟨hb1, hb7⟩ := hb8
  refine lv_aload_n hx hb dL_isStep_139 rfl (lv_at hl 0 rfl) ?_
  refine lv_iconst (v := 1) hx hb dL_isStep_140 (by decide) ?_
  refine lv_iload hx hb dL_isStep_141 (lv_at hl 3 rfl) ?_
  refine lv_bipush (v := 6) hx hb dL_isStep_143 (by decide) ?_
  refine z_callS ⟨hx, hb, hml, hown, hts⟩ zY_L_up w_st_yL_up w_ml_L_9 [.int y, .int 6] [.int 1, .ref (ad 3 0)] (c_L_up l D cs y 6 (by omega) (by omega)) hE hK hA hP hD hS [] rfl rfl rfl z_ins_nil rfl hl.1 (Nat.le_of_ble_eq_true rfl) ⟨Nat.le_of_ble_eq_true rfl, Nat.le_of_ble_eq_true rfl⟩ ⟨Nat.le_of_ble_eq_true rfl, Nat.le_of_ble_eq_true rfl⟩ dL_isStep_145 (fun H locs hP hD hS => ?_)
  obtain ⟨u1, hu1, eu1⟩ : ∃ u : Nat, u < 6 ∧ upv y % 6 = u := ⟨_, Nat.mod_lt _ (by omega), rfl⟩
  refine z_top (y := nI u1) (by rw [eu1]) ?_
  refine lv_iadd hx hb dL_isStep_148 ?_
  refine z_top (y := nI (1 + u1)) (nI_add 1 u1) ?_
  refine lv_iload hx hb dL_isStep_149 (lv_at hl 3 rfl) ?_
  refine lv_iconst (v := 4) hx hb dL_isStep_151 (by decide) ?_
  refine lv_ishr hx hb dL_isStep_152 ?_
  refine lv_sipush (v := 700) hx hb dL_isStep_153 (by decide) ?_
  refine z_callS ⟨hx, hb, hml, hown, hts⟩ zY_L_up w_st_yL_up w_ml_L_9 [.int (y >>> (4 &&& 31)), .int 700] [.int (nI (1 + u1)), .ref (ad 3 0)] (c_L_up l D cs (y >>> (4 &&& 31)) 700 (by omega) (by omega)) hE hK hA hP hD hS [] rfl rfl rfl z_ins_nil rfl hl.1 (Nat.le_of_ble_eq_true rfl) ⟨Nat.le_of_ble_eq_true rfl, Nat.le_of_ble_eq_true rfl⟩ ⟨Nat.le_of_ble_eq_true rfl, Nat.le_of_ble_eq_true rfl⟩ dL_isStep_156 (fun H locs hP hD hS => ?_)
  obtain ⟨u2, hu2, eu2⟩ : ∃ u : Nat, u < 700 ∧ upv (y >>> (4 &&& 31)) % 700 = u := ⟨_, Nat.mod_lt _ (by omega), rfl⟩
  refine z_top (y := nI u2) (by rw [eu2]) ?_
  refine z_lawV ⟨hx, hb, hml, hown, hts⟩ zY_X7_setPawl w_im_yX7_setPawl w_se_yX7_setPawl w_ml_L_21 [.int (nI (1 + u1)), .int (nI u2)] [] (c_X7_setPawl_ok l D cs ad S F kd HS KS KF p n (nI (1 + u1)) (nI u2) (h1.1) (h1.2.1) (h1.2.2.1) (h1.2.2.2) ⟨(g_r (a := 1) (M := 20) rfl rfl (by omega) (by omega) (by omega)), (g_r (a := 0) (M := 5000) rfl rfl (by omega) (by omega) (by omega))⟩) hE hK hA hP hD hS (z_la (z_la (z_la (z_la (z_la (z_la (z_lc _) (z_lm _ _ _ _ _ _)) (z_lh _ _ _ _ _)) (z_lm _ _ _ _ _ _)) (z_lm _ _ _ _ _ _)) (z_lm _ _ _ _ _ _)) (z_lm _ _ _ _ _ _)) 7 rfl rfl rfl rfl hl.1 (Nat.le_of_ble_eq_true rfl) ⟨Nat.le_of_ble_eq_true rfl, Nat.le_of_ble_eq_true rfl⟩ ⟨Nat.le_of_ble_eq_true rfl, Nat.le_of_ble_eq_true rfl⟩ dL_isStep_159 (fun H locs hP hD hS => ?_)
  refine lv_aload_n hx hb dL_isStep_162 rfl (lv_at hl 1 rfl) ?_
  refine lv_iconst (v := 1) hx hb dL_isStep_163 (by decide) ?_
  refine lv_iload hx hb dL_isStep_164 (lv_at hl 3 rfl) ?_
  refine lv_bipush (v := 6) hx hb dL_isStep_166 (by decide) ?_
  refine z_callS ⟨hx, hb, hml, hown, hts⟩ zY_L_up w_st_yL_up w_ml_L_9 [.int y, .int 6] [.int 1, .ref (bd 3 0), .int (S 3)] (c_L_up l D cs y 6 (by omega) (by omega)) hE hK hA hP hD hS [] rfl rfl rfl z_ins_nil rfl hl.1 (Nat.le_of_ble_eq_true rfl) ⟨Nat.le_of_ble_eq_true rfl, Nat.le_of_ble_eq_true rfl⟩ ⟨Nat.le_of_ble_eq_true rfl, Nat.le_of_ble_eq_true rfl⟩ dL_isStep_168 (fun H locs hP hD hS => ?_)
  refine z_top (y := nI u1) (by rw [eu1]) ?_
  refine lv_iadd hx hb dL_isStep_171 ?_
  refine z_top (y := nI (1 + u1)) (nI_add 1 u1) ?_
  refine lv_iload hx hb dL_isStep_172 (lv_at hl 3 rfl) ?_
  refine lv_iconst (v := 4) hx hb dL_isStep_174 (by decide) ?_
  refine lv_ishr hx hb dL_isStep_175 ?_
  refine lv_sipush (v := 700) hx hb dL_isStep_176 (by decide) ?_
  refine z_callS ⟨hx, hb, hml, hown, hts⟩ zY_L_up w_st_yL_up w_ml_L_9 [.int (y >>> (4 &&& 31)), .int 700] [.int (nI (1 + u1)), .ref (bd 3 0), .int (S 3)] (c_L_up l D cs (y >>> (4 &&& 31)) 700 (by omega) (by omega)) hE hK hA hP hD hS [] rfl rfl rfl z_ins_nil rfl hl.1 (Nat.le_of_ble_eq_true rfl) ⟨Nat.le_of_ble_eq_true rfl, Nat.le_of_ble_eq_true rfl⟩ ⟨Nat.le_of_ble_eq_true rfl, Nat.le_of_ble_eq_true rfl⟩ dL_isStep_179 (fun H locs hP hD hS => ?_)
  refine z_top (y := nI u2) (by rw [eu2]) ?_
  obtain ⟨hP, hD⟩ := zq_s1 hP hD
  refine z_lawV ⟨hx, hb, hml, hown, hts⟩ zY_X7_setPawl w_im_yX7_setPawl w_se_yX7_setPawl w_ml_L_21 [.int (nI (1 + u1)), .int (nI u2)] [.int (S 3)] (c_X7_setPawl_ok l D cs bd V G ld HV KV KG q r (nI (1 + u1)) (nI u2) (h2.1) (h2.2.1) (h2.2.2.1) (h2.2.2.2) ⟨(g_r (a := 1) (M := 20) rfl rfl (by omega) (by omega) (by omega)), (g_r (a := 0) (M := 5000) rfl rfl (by omega) (by omega) (by omega))⟩) hE hK hA hP hD hS (z_la (z_la (z_la (z_la (z_la (z_la (z_lc _) (z_lm _ _ _ _ _ _)) (z_lh _ _ _ _ _)) (z_lm _ _ _ _ _ _)) (z_lm _ _ _ _ _ _)) (z_lm _ _ _ _ _ _)) (z_lm _ _ _ _ _ _)) 7 rfl rfl rfl rfl hl.1 (Nat.le_of_ble_eq_true rfl) ⟨Nat.le_of_ble_eq_true rfl, Nat.le_of_ble_eq_true rfl⟩ ⟨Nat.le_of_ble_eq_true rfl, Nat.le_of_ble_eq_true rfl⟩ dL_isStep_182 (fun H locs hP hD hS => ?_)
  refine lv_icmp_ne (tgt := 192) hx hb dL_isStep_185 (by decide) (fun c_3 => ?_) (fun c_3 => ?_)
  · skip
    exact absurd (rS hd.2.2 3 (by omega) (by omega)).symm c_3
  · skip
    refine lv_iconst (v := 1) hx hb dL_isStep_188 (by decide) ?_
    refine lv_goto (tgt := 193) hx hb dL_isStep_189 (by decide) ?_
    obtain ⟨hP, hD⟩ := zq_s2 hP hD
    exact z_zretE hx hb hr hlk hK hP hD hS dL_isStep_193 rfl rfl ⟨(upd (upd S 3 (nI (1 + u1))) 4 (nI u2)), F, (upd (upd HS 0 (nI (hNx p))) 1 (nI (min (n + 1) 4))), kup KS (hNx p) S, kup KF (hNx p) F, (upd (upd V 3 (nI (1 + u1))) 4 (nI u2)), G, (upd (upd HV 0 (nI (hNx q))) 1 (nI (min (r + 1) 4))), kup KV (hNx q) V, kup KG (hNx q) G, hNx p, min (n + 1) 4, hNx q, min (r + 1) 4, rfl, ⟨(inv_w (i_setPawl hd.1 (g_r (a := 1) (M := 20) rfl rfl (by omega) (by omega) (by omega))) (by omega)), (inv_w (i_setPawl hd.2.1 (g_r (a := 1) (M := 20) rfl rfl (by omega) (by omega) (by omega))) (by omega)), (r_setPawl hd.2.2 _ _)⟩, (mo_o (mo_o (mo_r S) 3 _ (by omega)) 4 _ (by omega)), (hsR_s h1), (hsR_s h2)⟩

set_option maxHeartbeats 4000000 in
set_option maxRecDepth 100000 in
theorem st_setCylinder {pq : Program} {l : Launch} {eq : Env} {s : State} {mq : MethodId} {below : List Frame} {meth : Method} {cq : Code} {A : Nat → Prop} {D : va_G} {cs : zCs} {ar : Array Value} {H : Heap} {locs : List Loc} {ls : Array Slot} {ad kd bd ld : Nat → Nat → Nat} {S : Nat → Int32} {F : Nat → Nat → Int32} {HS : Nat → Int32} {KS : Nat → Nat → Int32} {KF : Nat → Nat → Nat → Int32} {V : Nat → Int32} {G : Nat → Nat → Int32} {HV : Nat → Int32} {KV : Nat → Nat → Int32} {KG : Nat → Nat → Nat → Int32} {p n q r b : Nat} {N : Int} {y : Int32} {c0 : Nat} (hx : pq.tables.exec = Jvm.exec) (hb : cq.code = cL_isStep) (hr : meth.sig.returnType = some FieldType.boolean) (hml : cq.maxLocals = 7) (hown : s.vm.findClass RL = some mq.cls) (hts : ∀ w ∈ wsG, w.before ar s = true) (hlk : meth.locks = false) (hE : zE A s) (hK : va_K D vwCl (zT cs) s) (hA : ∀ q : Nat, s.heap.size ≤ q → A q) (hb8 : 1 ≤ b ∧ b < 8) (hN : 0 ≤ N ∧ N ≤ 50000) (hd : dR b N S F V G) (h1 : hsR HS p n) (h2 : hsR HV q r) (hc : c0 < 5) (hP : va_P D vwCl ((((camW ad) ++ (macW cs (ad 0) S F)) ++ (hisW cs (ad 4) kd HS) ++ (macW cs (kd 0) (KS 0) (KF 0)) ++ (macW cs (kd 1) (KS 1) (KF 1)) ++ (macW cs (kd 2) (KS 2) (KF 2)) ++ (macW cs (kd 3) (KS 3) (KF 3))) ++ (((camW bd) ++ (macW cs (bd 0) V G)) ++ (hisW cs (bd 4) ld HV) ++ (macW cs (ld 0) (KV 0) (KG 0)) ++ (macW cs (ld 1) (KV 1) (KG 1)) ++ (macW cs (ld 2) (KV 2) (KG 2)) ++ (macW cs (ld 3) (KV 3) (KG 3)))) H) (hD : va_D A ((((camW ad) ++ (macW cs (ad 0) S F)) ++ (hisW cs (ad 4) kd HS) ++ (macW cs (kd 0) (KS 0) (KF 0)) ++ (macW cs (kd 1) (KS 1) (KF 1)) ++ (macW cs (kd 2) (KS 2) (KF 2)) ++ (macW cs (kd 3) (KS 3) (KF 3))) ++ (((camW bd) ++ (macW cs (bd 0) V G)) ++ (hisW cs (bd 4) ld HV) ++ (macW cs (ld 0) (KV 0) (KG 0)) ++ (macW cs (ld 1) (KV 1) (KG 1)) ++ (macW cs (ld 2) (KV 2) (KG 2)) ++ (macW cs (ld 3) (KV 3) (KG 3))))) (hS : va_S A s.heap H locs) (hl : lv_has ls 7 [(0, .ref (ad 3 0)), (1, .ref (bd 3 0)), (2, .int (nI b)), (4, .int y), (5, .int (nI c0))]) : W pq l eq ({ frames := 8, cells := 0, slots := 0, locals := 178 } : Room) s mq ar below meth cq H locs 0 0 (MQ below (zQe D cs (some (.int 1)) (stP cs ad kd bd ld b (N + 30) S) A) ar s 0 0 A) (F0 mq 194 ls []) := by
  obtain ⟨hb1, hb7⟩ := hb8
  refine lv_aload_n hx hb dL_isStep_194 rfl (lv_at hl 0 rfl) ?_
  refine lv_iload hx hb dL_isStep_195 (lv_at hl 4 rfl) ?_
  refine lv_iconst (v := 1) hx hb dL_isStep_197 (by decide) ?_
  refine lv_iload hx hb dL_isStep_198 (lv_at hl 3 rfl) ?_
  refine lv_iconst (v := 3) hx hb dL_isStep_200 (by decide) ?_
  refine lv_ishr hx hb dL_isStep_201 ?_
  refine lv_bipush (v := 9) hx hb dL_isStep_202 (by decide) ?_
  refine z_callS ⟨hx, hb, hml, hown, hts⟩ zY_L_up w_st_yL_up w_ml_L_9 [.int (y >>> (3 &&& 31)), .int 9] [.int 1, .int (nI c0), .ref (ad 3 0)] (c_L_up l D cs (y >>> (3 &&& 31)) 9 (by omega) (by omega)) hE hK hA hP hD hS [] rfl rfl rfl z_ins_nil rfl hl.1 (Nat.le_of_ble_eq_true rfl) ⟨Nat.le_of_ble_eq_true rfl, Nat.le_of_ble_eq_true rfl⟩ ⟨Nat.le_of_ble_eq_true rfl, Nat.le_of_ble_eq_true rfl⟩ dL_isStep_204 (fun H locs hP hD hS => ?_)
  obtain ⟨u1, hu1, eu1⟩ : ∃ u : Nat, u < 9 ∧ upv (y >>> (3 &&& 31)) % 9 = u := ⟨_, Nat.mod_lt _ (by omega), rfl⟩
  refine z_top (y := nI u1) (by rw [eu1]) ?_
  refine lv_iadd hx hb dL_isStep_207 ?_
  refine z_top (y := nI (1 + u1)) (nI_add 1 u1) ?_
  refine lv_iconst (v := 1) hx hb dL_isStep_208 (by decide) ?_
  refine lv_iload hx hb dL_isStep_209 (lv_at hl 3 rfl) ?_
  refine lv_bipush (v := 6) hx hb dL_isStep_211 (by decide) ?_
  refine lv_ishr hx hb dL_isStep_213 ?_
  refine lv_bipush (v := 50) hx hb dL_isStep_214 (by decide) ?_
  refine z_callS ⟨hx, hb, hml, hown, hts⟩ zY_L_up w_st_yL_up w_ml_L_9 [.int (y >>> (6 &&& 31)), .int 50] [.int 1, .int (nI (1 + u1)), .int (nI c0), .ref (ad 3 0)] (c_L_up l D cs (y >>> (6 &&& 31)) 50 (by omega) (by omega)) hE hK hA hP hD hS [] rfl rfl rfl z_ins_nil rfl hl.1 (Nat.le_of_ble_eq_true rfl) ⟨Nat.le_of_ble_eq_true rfl, Nat.le_of_ble_eq_true rfl⟩ ⟨Nat.le_of_ble_eq_true rfl, Nat.le_of_ble_eq_true rfl⟩ dL_isStep_216 (fun H locs hP hD hS => ?_)
  obtain ⟨u2, hu2, eu2⟩ : ∃ u : Nat, u < 50 ∧ upv (y >>> (6 &&& 31)) % 50 = u := ⟨_, Nat.mod_lt _ (by omega), rfl⟩
  refine z_top (y := nI u2) (by rw [eu2]) ?_
  refine lv_iadd hx hb dL_isStep_219 ?_
  refine z_top (y := nI (1 + u2)) (nI_add 1 u2) ?_
  refine lv_iload hx hb dL_isStep_220 (lv_at hl 3 rfl) ?_
  refine lv_bipush (v := 12) hx hb dL_isStep_222 (by decide) ?_
  refine lv_ishr hx hb dL_isStep_224 ?_
  refine lv_bipush (v := 21) hx hb dL_isStep_225 (by decide) ?_
  refine z_callS ⟨hx, hb, hml, hown, hts⟩ zY_L_up w_st_yL_up w_ml_L_9 [.int (y >>> (12 &&& 31)), .int 21] [.int (nI (1 + u2)), .int (nI (1 + u1)), .int (nI c0), .ref (ad 3 0)] (c_L_up l D cs (y >>> (12 &&& 31)) 21 (by omega) (by omega)) hE hK hA hP hD hS [] rfl rfl rfl z_ins_nil rfl hl.1 (Nat.le_of_ble_eq_true rfl) ⟨Nat.le_of_ble_eq_true rfl, Nat.le_of_ble_eq_true rfl⟩ ⟨Nat.le_of_ble_eq_true rfl, Nat.le_of_ble_eq_true rfl⟩ dL_isStep_227 (fun H locs hP hD hS => ?_)
  obtain ⟨u3, hu3, eu3⟩ : ∃ u : Nat, u < 21 ∧ upv (y >>> (12 &&& 31)) % 21 = u := ⟨_, Nat.mod_lt _ (by omega), rfl⟩
  refine z_top (y := nI u3) (by rw [eu3]) ?_
  refine z_lawV ⟨hx, hb, hml, hown, hts⟩ zY_X7_setCylinder w_im_yX7_setCylinder w_se_yX7_setCylinder w_ml_L_24 [.int (nI c0), .int (nI (1 + u1)), .int (nI (1 + u2)), .int (nI u3)] [] (c_X7_setCylinder_ok l D cs ad S F kd HS KS KF p n (nI c0) (nI (1 + u1)) (nI (1 + u2)) (nI u3) (h1.1) (h1.2.1) (h1.2.2.1) (h1.2.2.2) (g_5 hc) ⟨(g_r (a := 1) (M := 9) rfl rfl (by omega) (by omega) (by omega)), (g_r (a := 1) (M := 50) rfl rfl (by omega) (by omega) (by omega)), (g_r (a := 0) (M := 20) rfl rfl (by omega) (by omega) (by omega))⟩) hE hK hA hP hD hS (z_la (z_la (z_la (z_la (z_la (z_la (z_lc _) (z_lm _ _ _ _ _ _)) (z_lh _ _ _ _ _)) (z_lm _ _ _ _ _ _)) (z_lm _ _ _ _ _ _)) (z_lm _ _ _ _ _ _)) (z_lm _ _ _ _ _ _)) 7 rfl rfl rfl rfl hl.1 (Nat.le_of_ble_eq_true rfl) ⟨Nat.le_of_ble_eq_true rfl, Nat.le_of_ble_eq_true rfl⟩ ⟨Nat.le_of_ble_eq_true rfl, Nat.le_of_ble_eq_true rfl⟩ dL_isStep_230 (fun H locs hP hD hS => ?_)
  refine lv_aload_n hx hb dL_isStep_233 rfl (lv_at hl 1 rfl) ?_
  refine lv_iload hx hb dL_isStep_234 (lv_at hl 4 rfl) ?_
  refine lv_iconst (v := 1) hx hb dL_isStep_236 (by decide) ?_
  refine lv_iload hx hb dL_isStep_237 (lv_at hl 3 rfl) ?_
  refine lv_iconst (v := 3) hx hb dL_isStep_239 (by decide) ?_
  refine lv_ishr hx hb dL_isStep_240 ?_
  refine lv_bipush (v := 9) hx hb dL_isStep_241 (by decide) ?_
  refine z_callS ⟨hx, hb, hml, hown, hts⟩ zY_L_up w_st_yL_up w_ml_L_9 [.int (y >>> (3 &&& 31)), .int 9] [.int 1, .int (nI c0), .ref (bd 3 0), .int ((F 1) (nN (nI c0)))] (c_L_up l D cs (y >>> (3 &&& 31)) 9 (by omega) (by omega)) hE hK hA hP hD hS [] rfl rfl rfl z_ins_nil rfl hl.1 (Nat.le_of_ble_eq_true rfl) ⟨Nat.le_of_ble_eq_true rfl, Nat.le_of_ble_eq_true rfl⟩ ⟨Nat.le_of_ble_eq_true rfl, Nat.le_of_ble_eq_true rfl⟩ dL_isStep_243 (fun H locs hP hD hS => ?_)
  refine z_top (y := nI u1) (by rw [eu1]) ?_
  refine lv_iadd hx hb dL_isStep_246 ?_
  refine z_top (y := nI (1 + u1)) (nI_add 1 u1) ?_
  refine lv_iconst (v := 1) hx hb dL_isStep_247 (by decide) ?_
  refine lv_iload hx hb dL_isStep_248 (lv_at hl 3 rfl) ?_
  refine lv_bipush (v := 6) hx hb dL_isStep_250 (by decide) ?_
  refine lv_ishr hx hb dL_isStep_252 ?_
  refine lv_bipush (v := 50) hx hb dL_isStep_253 (by decide) ?_
  refine z_callS ⟨hx, hb, hml, hown, hts⟩ zY_L_up w_st_yL_up w_ml_L_9 [.int (y >>> (6 &&& 31)), .int 50] [.int 1, .int (nI (1 + u1)), .int (nI c0), .ref (bd 3 0), .int ((F 1) (nN (nI c0)))] (c_L_up l D cs (y >>> (6 &&& 31)) 50 (by omega) (by omega)) hE hK hA hP hD hS [] rfl rfl rfl z_ins_nil rfl hl.1 (Nat.le_of_ble_eq_true rfl) ⟨Nat.le_of_ble_eq_true rfl, Nat.le_of_ble_eq_true rfl⟩ ⟨Nat.le_of_ble_eq_true rfl, Nat.le_of_ble_eq_true rfl⟩ dL_isStep_255 (fun H locs hP hD hS => ?_)
  refine z_top (y := nI u2) (by rw [eu2]) ?_
  refine lv_iadd hx hb dL_isStep_258 ?_
  refine z_top (y := nI (1 + u2)) (nI_add 1 u2) ?_
  refine lv_iload hx hb dL_isStep_259 (lv_at hl 3 rfl) ?_
  refine lv_bipush (v := 12) hx hb dL_isStep_261 (by decide) ?_
  refine lv_ishr hx hb dL_isStep_263 ?_
  refine lv_bipush (v := 21) hx hb dL_isStep_264 (by decide) ?_
  refine z_callS ⟨hx, hb, hml, hown, hts⟩ zY_L_up w_st_yL_up w_ml_L_9 [.int (y >>> (12 &&& 31)), .int 21] [.int (nI (1 + u2)), .int (nI (1 + u1)), .int (nI c0), .ref (bd 3 0), .int ((F 1) (nN (nI c0)))] (c_L_up l D cs (y >>> (12 &&& 31)) 21 (by omega) (by omega)) hE hK hA hP hD hS [] rfl rfl rfl z_ins_nil rfl hl.1 (Nat.le_of_ble_eq_true rfl) ⟨Nat.le_of_ble_eq_true rfl, Nat.le_of_ble_eq_true rfl⟩ ⟨Nat.le_of_ble_eq_true rfl, Nat.le_of_ble_eq_true rfl⟩ dL_isStep_266 (fun H locs hP hD hS => ?_)
  refine z_top (y := nI u3) (by rw [eu3]) ?_
  obtain ⟨hP, hD⟩ := zq_s1 hP hD
  refine z_lawV ⟨hx, hb, hml, hown, hts⟩ zY_X7_setCylinder w_im_yX7_setCylinder w_se_yX7_setCylinder w_ml_L_24 [.int (nI c0), .int (nI (1 + u1)), .int (nI (1 + u2)), .int (nI u3)] [.int ((F 1) (nN (nI c0)))] (c_X7_setCylinder_ok l D cs bd V G ld HV KV KG q r (nI c0) (nI (1 + u1)) (nI (1 + u2)) (nI u3) (h2.1) (h2.2.1) (h2.2.2.1) (h2.2.2.2) (g_5 hc) ⟨(g_r (a := 1) (M := 9) rfl rfl (by omega) (by omega) (by omega)), (g_r (a := 1) (M := 50) rfl rfl (by omega) (by omega) (by omega)), (g_r (a := 0) (M := 20) rfl rfl (by omega) (by omega) (by omega))⟩) hE hK hA hP hD hS (z_la (z_la (z_la (z_la (z_la (z_la (z_lc _) (z_lm _ _ _ _ _ _)) (z_lh _ _ _ _ _)) (z_lm _ _ _ _ _ _)) (z_lm _ _ _ _ _ _)) (z_lm _ _ _ _ _ _)) (z_lm _ _ _ _ _ _)) 7 rfl rfl rfl rfl hl.1 (Nat.le_of_ble_eq_true rfl) ⟨Nat.le_of_ble_eq_true rfl, Nat.le_of_ble_eq_true rfl⟩ ⟨Nat.le_of_ble_eq_true rfl, Nat.le_of_ble_eq_true rfl⟩ dL_isStep_269 (fun H locs hP hD hS => ?_)
  refine lv_icmp_ne (tgt := 279) hx hb dL_isStep_272 (by decide) (fun c_4 => ?_) (fun c_4 => ?_)
  · skip
    exact absurd (congrFun (rF hd.2.2 1 (by omega) (by omega) (by omega)).symm _) c_4
  · skip
    refine lv_iconst (v := 1) hx hb dL_isStep_275 (by decide) ?_
    refine lv_goto (tgt := 280) hx hb dL_isStep_276 (by decide) ?_
    obtain ⟨hP, hD⟩ := zq_s2 hP hD
    exact z_zretE hx hb hr hlk hK hP hD hS dL_isStep_280 rfl rfl ⟨S, (zU (zU (zU F 2 (upd (F 2) (nN (nI c0)) (nI (1 + u1)))) 3 (upd (F 3) (nN (nI c0)) (nI (1 + u2)))) 4 (upd (F 4) (nN (nI c0)) (nI u3))), (upd (upd HS 0 (nI (hNx p))) 1 (nI (min (n + 1) 4))), kup KS (hNx p) S, kup KF (hNx p) F, V, (zU (zU (zU G 2 (upd (G 2) (nN (nI c0)) (nI (1 + u1)))) 3 (upd (G 3) (nN (nI c0)) (nI (1 + u2)))) 4 (upd (G 4) (nN (nI c0)) (nI u3))), (upd (upd HV 0 (nI (hNx q))) 1 (nI (min (r + 1) 4))), kup KV (hNx q) V, kup KG (hNx q) G, hNx p, min (n + 1) 4, hNx q, min (r + 1) 4, rfl, ⟨(inv_w (i_setCylinder hd.1 (g_r (a := 1) (M := 9) rfl rfl (by omega) (by omega) (by omega)) (g_r (a := 1) (M := 50) rfl rfl (by omega) (by omega) (by omega)) (g_r (a := 0) (M := 20) rfl rfl (by omega) (by omega) (by omega))) (by omega)), (inv_w (i_setCylinder hd.2.1 (g_r (a := 1) (M := 9) rfl rfl (by omega) (by omega) (by omega)) (g_r (a := 1) (M := 50) rfl rfl (by omega) (by omega) (by omega)) (g_r (a := 0) (M := 20) rfl rfl (by omega) (by omega) (by omega))) (by omega)), (r_setCylinder hd.2.2 _ _ _ _)⟩, (mo_r S), (hsR_s h1), (hsR_s h2)⟩

set_option maxHeartbeats 4000000 in
set_option maxRecDepth 100000 in
theorem st_setAir {pq : Program} {l : Launch} {eq : Env} {s : State} {mq : MethodId} {below : List Frame} {meth : Method} {cq : Code} {A : Nat → Prop} {D : va_G} {cs : zCs} {ar : Array Value} {H : Heap} {locs : List Loc} {ls : Array Slot} {ad kd bd ld : Nat → Nat → Nat} {S : Nat → Int32} {F : Nat → Nat → Int32} {HS : Nat → Int32} {KS : Nat → Nat → Int32} {KF : Nat → Nat → Nat → Int32} {V : Nat → Int32} {G : Nat → Nat → Int32} {HV : Nat → Int32} {KV : Nat → Nat → Int32} {KG : Nat → Nat → Nat → Int32} {p n q r b : Nat} {N : Int} {y : Int32} {c0 : Nat} (hx : pq.tables.exec = Jvm.exec) (hb : cq.code = cL_isStep) (hr : meth.sig.returnType = some FieldType.boolean) (hml : cq.maxLocals = 7) (hown : s.vm.findClass RL = some mq.cls) (hts : ∀ w ∈ wsG, w.before ar s = true) (hlk : meth.locks = false) (hE : zE A s) (hK : va_K D vwCl (zT cs) s) (hA : ∀ q : Nat, s.heap.size ≤ q → A q) (hb8 : 1 ≤ b ∧ b < 8) (hN : 0 ≤ N ∧ N ≤ 50000) (hd : dR b N S F V G) (h1 : hsR HS p n) (h2 : hsR HV q r) (hc : c0 < 5) (hP : va_P D vwCl ((((camW ad) ++ (macW cs (ad 0) S F)) ++ (hisW cs (ad 4) kd HS) ++ (macW cs (kd 0) (KS 0) (KF 0)) ++ (macW cs (kd 1) (KS 1) (KF 1)) ++ (macW cs (kd 2) (KS 2) (KF 2)) ++ (macW cs (kd 3) (KS 3) (KF 3))) ++ (((camW bd) ++ (macW cs (bd 0) V G)) ++ (hisW cs (bd 4) ld HV) ++ (macW cs (ld 0) (KV 0) (KG 0)) ++ (macW cs (ld 1) (KV 1) (KG 1)) ++ (macW cs (ld 2) (KV 2) (KG 2)) ++ (macW cs (ld 3) (KV 3) (KG 3)))) H) (hD : va_D A ((((camW ad) ++ (macW cs (ad 0) S F)) ++ (hisW cs (ad 4) kd HS) ++ (macW cs (kd 0) (KS 0) (KF 0)) ++ (macW cs (kd 1) (KS 1) (KF 1)) ++ (macW cs (kd 2) (KS 2) (KF 2)) ++ (macW cs (kd 3) (KS 3) (KF 3))) ++ (((camW bd) ++ (macW cs (bd 0) V G)) ++ (hisW cs (bd 4) ld HV) ++ (macW cs (ld 0) (KV 0) (KG 0)) ++ (macW cs (ld 1) (KV 1) (KG 1)) ++ (macW cs (ld 2) (KV 2) (KG 2)) ++ (macW cs (ld 3) (KV 3) (KG 3))))) (hS : va_S A s.heap H locs) (hl : lv_has ls 7 [(0, .ref (ad 3 0)), (1, .ref (bd 3 0)), (2, .int (nI b)), (4, .int y), (5, .int (nI c0))]) : W pq l eq ({ frames := 8, cells := 0, slots := 0, locals := 178 } : Room) s mq ar below meth cq H locs 0 0 (MQ below (zQe D cs (some (.int 1)) (stP cs ad kd bd ld b (N + 30) S) A) ar s 0 0 A) (F0 mq 281 ls []) := by
  obtain ⟨hb1, hb7⟩ := hb8
  refine lv_aload_n hx hb dL_isStep_281 rfl (lv_at hl 0 rfl) ?_
  refine lv_bipush (v := 100) hx hb dL_isStep_282 (by decide) ?_
  refine lv_iload hx hb dL_isStep_284 (lv_at hl 3 rfl) ?_
  refine lv_sipush (v := 1500) hx hb dL_isStep_286 (by decide) ?_
  refine z_callS ⟨hx, hb, hml, hown, hts⟩ zY_L_up w_st_yL_up w_ml_L_9 [.int y, .int 1500] [.int 100, .ref (ad 3 0)] (c_L_up l D cs y 1500 (by omega) (by omega)) hE hK hA hP hD hS [] rfl rfl rfl z_ins_nil rfl hl.1 (Nat.le_of_ble_eq_true rfl) ⟨Nat.le_of_ble_eq_true rfl, Nat.le_of_ble_eq_true rfl⟩ ⟨Nat.le_of_ble_eq_true rfl, Nat.le_of_ble_eq_true rfl⟩ dL_isStep_289 (fun H locs hP hD hS => ?_)
  obtain ⟨u1, hu1, eu1⟩ : ∃ u : Nat, u < 1500 ∧ upv y % 1500 = u := ⟨_, Nat.mod_lt _ (by omega), rfl⟩
  refine z_top (y := nI u1) (by rw [eu1]) ?_
  refine lv_iadd hx hb dL_isStep_292 ?_
  refine z_top (y := nI (100 + u1)) (nI_add 100 u1) ?_
  refine lv_iload hx hb dL_isStep_293 (lv_at hl 3 rfl) ?_
  refine lv_bipush (v := 9) hx hb dL_isStep_295 (by decide) ?_
  refine lv_ishr hx hb dL_isStep_297 ?_
  refine lv_sipush (v := 150) hx hb dL_isStep_298 (by decide) ?_
  refine z_callS ⟨hx, hb, hml, hown, hts⟩ zY_L_up w_st_yL_up w_ml_L_9 [.int (y >>> (9 &&& 31)), .int 150] [.int (nI (100 + u1)), .ref (ad 3 0)] (c_L_up l D cs (y >>> (9 &&& 31)) 150 (by omega) (by omega)) hE hK hA hP hD hS [] rfl rfl rfl z_ins_nil rfl hl.1 (Nat.le_of_ble_eq_true rfl) ⟨Nat.le_of_ble_eq_true rfl, Nat.le_of_ble_eq_true rfl⟩ ⟨Nat.le_of_ble_eq_true rfl, Nat.le_of_ble_eq_true rfl⟩ dL_isStep_301 (fun H locs hP hD hS => ?_)
  obtain ⟨u2, hu2, eu2⟩ : ∃ u : Nat, u < 150 ∧ upv (y >>> (9 &&& 31)) % 150 = u := ⟨_, Nat.mod_lt _ (by omega), rfl⟩
  refine z_top (y := nI u2) (by rw [eu2]) ?_
  refine z_lawV ⟨hx, hb, hml, hown, hts⟩ zY_X7_setAir w_im_yX7_setAir w_se_yX7_setAir w_ml_L_28 [.int (nI (100 + u1)), .int (nI u2)] [] (c_X7_setAir_ok l D cs ad S F kd HS KS KF p n (nI (100 + u1)) (nI u2) (h1.1) (h1.2.1) (h1.2.2.1) (h1.2.2.2) ⟨(g_r (a := 100) (M := 9999) rfl rfl (by omega) (by omega) (by omega)), (g_r (a := 0) (M := 500) rfl rfl (by omega) (by omega) (by omega))⟩) hE hK hA hP hD hS (z_la (z_la (z_la (z_la (z_la (z_la (z_lc _) (z_lm _ _ _ _ _ _)) (z_lh _ _ _ _ _)) (z_lm _ _ _ _ _ _)) (z_lm _ _ _ _ _ _)) (z_lm _ _ _ _ _ _)) (z_lm _ _ _ _ _ _)) 7 rfl rfl rfl rfl hl.1 (Nat.le_of_ble_eq_true rfl) ⟨Nat.le_of_ble_eq_true rfl, Nat.le_of_ble_eq_true rfl⟩ ⟨Nat.le_of_ble_eq_true rfl, Nat.le_of_ble_eq_true rfl⟩ dL_isStep_304 (fun H locs hP hD hS => ?_)
  refine lv_aload_n hx hb dL_isStep_307 rfl (lv_at hl 1 rfl) ?_
  refine lv_bipush (v := 100) hx hb dL_isStep_308 (by decide) ?_
  refine lv_iload hx hb dL_isStep_310 (lv_at hl 3 rfl) ?_
  refine lv_sipush (v := 1500) hx hb dL_isStep_312 (by decide) ?_
  refine z_callS ⟨hx, hb, hml, hown, hts⟩ zY_L_up w_st_yL_up w_ml_L_9 [.int y, .int 1500] [.int 100, .ref (bd 3 0), .int (airOff (upd (upd S 6 (nI (100 + u1))) 7 (nI u2)) 5)] (c_L_up l D cs y 1500 (by omega) (by omega)) hE hK hA hP hD hS [] rfl rfl rfl z_ins_nil rfl hl.1 (Nat.le_of_ble_eq_true rfl) ⟨Nat.le_of_ble_eq_true rfl, Nat.le_of_ble_eq_true rfl⟩ ⟨Nat.le_of_ble_eq_true rfl, Nat.le_of_ble_eq_true rfl⟩ dL_isStep_315 (fun H locs hP hD hS => ?_)
  refine z_top (y := nI u1) (by rw [eu1]) ?_
  refine lv_iadd hx hb dL_isStep_318 ?_
  refine z_top (y := nI (100 + u1)) (nI_add 100 u1) ?_
  refine lv_iload hx hb dL_isStep_319 (lv_at hl 3 rfl) ?_
  refine lv_bipush (v := 9) hx hb dL_isStep_321 (by decide) ?_
  refine lv_ishr hx hb dL_isStep_323 ?_
  refine lv_sipush (v := 150) hx hb dL_isStep_324 (by decide) ?_
  refine z_callS ⟨hx, hb, hml, hown, hts⟩ zY_L_up w_st_yL_up w_ml_L_9 [.int (y >>> (9 &&& 31)), .int 150] [.int (nI (100 + u1)), .ref (bd 3 0), .int (airOff (upd (upd S 6 (nI (100 + u1))) 7 (nI u2)) 5)] (c_L_up l D cs (y >>> (9 &&& 31)) 150 (by omega) (by omega)) hE hK hA hP hD hS [] rfl rfl rfl z_ins_nil rfl hl.1 (Nat.le_of_ble_eq_true rfl) ⟨Nat.le_of_ble_eq_true rfl, Nat.le_of_ble_eq_true rfl⟩ ⟨Nat.le_of_ble_eq_true rfl, Nat.le_of_ble_eq_true rfl⟩ dL_isStep_327 (fun H locs hP hD hS => ?_)
  refine z_top (y := nI u2) (by rw [eu2]) ?_
  obtain ⟨hP, hD⟩ := zq_s1 hP hD
  refine z_lawV ⟨hx, hb, hml, hown, hts⟩ zY_X7_setAir w_im_yX7_setAir w_se_yX7_setAir w_ml_L_28 [.int (nI (100 + u1)), .int (nI u2)] [.int (airOff (upd (upd S 6 (nI (100 + u1))) 7 (nI u2)) 5)] (c_X7_setAir_ok l D cs bd V G ld HV KV KG q r (nI (100 + u1)) (nI u2) (h2.1) (h2.2.1) (h2.2.2.1) (h2.2.2.2) ⟨(g_r (a := 100) (M := 9999) rfl rfl (by omega) (by omega) (by omega)), (g_r (a := 0) (M := 500) rfl rfl (by omega) (by omega) (by omega))⟩) hE hK hA hP hD hS (z_la (z_la (z_la (z_la (z_la (z_la (z_lc _) (z_lm _ _ _ _ _ _)) (z_lh _ _ _ _ _)) (z_lm _ _ _ _ _ _)) (z_lm _ _ _ _ _ _)) (z_lm _ _ _ _ _ _)) (z_lm _ _ _ _ _ _)) 7 rfl rfl rfl rfl hl.1 (Nat.le_of_ble_eq_true rfl) ⟨Nat.le_of_ble_eq_true rfl, Nat.le_of_ble_eq_true rfl⟩ ⟨Nat.le_of_ble_eq_true rfl, Nat.le_of_ble_eq_true rfl⟩ dL_isStep_330 (fun H locs hP hD hS => ?_)
  refine lv_icmp_ne (tgt := 340) hx hb dL_isStep_333 (by decide) (fun c_3 => ?_) (fun c_3 => ?_)
  · skip
    exact absurd (rS (r_setAir hd.2.2 _ _) 5 (by omega) (by omega)).symm c_3
  · skip
    refine lv_iconst (v := 1) hx hb dL_isStep_336 (by decide) ?_
    refine lv_goto (tgt := 341) hx hb dL_isStep_337 (by decide) ?_
    obtain ⟨hP, hD⟩ := zq_s2 hP hD
    exact z_zretE hx hb hr hlk hK hP hD hS dL_isStep_341 rfl rfl ⟨(airOff (upd (upd S 6 (nI (100 + u1))) 7 (nI u2))), F, (upd (upd HS 0 (nI (hNx p))) 1 (nI (min (n + 1) 4))), kup KS (hNx p) S, kup KF (hNx p) F, (airOff (upd (upd V 6 (nI (100 + u1))) 7 (nI u2))), G, (upd (upd HV 0 (nI (hNx q))) 1 (nI (min (r + 1) 4))), kup KV (hNx q) V, kup KG (hNx q) G, hNx p, min (n + 1) 4, hNx q, min (r + 1) 4, rfl, ⟨(inv_w ((i_setAir hd.1 (by omega) (g_r (a := 100) (M := 9999) rfl rfl (by omega) (by omega) (by omega)) (g_r (a := 0) (M := 500) rfl rfl (by omega) (by omega) (by omega))).1) (by omega)), (inv_w ((i_setAir hd.2.1 (by omega) (g_r (a := 100) (M := 9999) rfl rfl (by omega) (by omega) (by omega)) (g_r (a := 0) (M := 500) rfl rfl (by omega) (by omega) (by omega))).1) (by omega)), (r_setAir hd.2.2 _ _)⟩, (i_setAir hd.1 (by omega) (g_r (a := 100) (M := 9999) rfl rfl (by omega) (by omega) (by omega)) (g_r (a := 0) (M := 500) rfl rfl (by omega) (by omega) (by omega))).2, (hsR_s h1), (hsR_s h2)⟩

set_option maxHeartbeats 4000000 in
set_option maxRecDepth 100000 in
theorem st_guards {pq : Program} {l : Launch} {eq : Env} {s : State} {mq : MethodId} {below : List Frame} {meth : Method} {cq : Code} {A : Nat → Prop} {D : va_G} {cs : zCs} {ar : Array Value} {H : Heap} {locs : List Loc} {ls : Array Slot} {ad kd bd ld : Nat → Nat → Nat} {S : Nat → Int32} {F : Nat → Nat → Int32} {HS : Nat → Int32} {KS : Nat → Nat → Int32} {KF : Nat → Nat → Nat → Int32} {V : Nat → Int32} {G : Nat → Nat → Int32} {HV : Nat → Int32} {KV : Nat → Nat → Int32} {KG : Nat → Nat → Nat → Int32} {p n q r b : Nat} {N : Int} {y : Int32} {c0 : Nat} (hx : pq.tables.exec = Jvm.exec) (hb : cq.code = cL_isStep) (hr : meth.sig.returnType = some FieldType.boolean) (hml : cq.maxLocals = 7) (hown : s.vm.findClass RL = some mq.cls) (hts : ∀ w ∈ wsG, w.before ar s = true) (hlk : meth.locks = false) (hE : zE A s) (hK : va_K D vwCl (zT cs) s) (hA : ∀ q : Nat, s.heap.size ≤ q → A q) (hb8 : 1 ≤ b ∧ b < 8) (hN : 0 ≤ N ∧ N ≤ 50000) (hd : dR b N S F V G) (h1 : hsR HS p n) (h2 : hsR HV q r) (hc : c0 < 5) (hP : va_P D vwCl ((((camW ad) ++ (macW cs (ad 0) S F)) ++ (hisW cs (ad 4) kd HS) ++ (macW cs (kd 0) (KS 0) (KF 0)) ++ (macW cs (kd 1) (KS 1) (KF 1)) ++ (macW cs (kd 2) (KS 2) (KF 2)) ++ (macW cs (kd 3) (KS 3) (KF 3))) ++ (((camW bd) ++ (macW cs (bd 0) V G)) ++ (hisW cs (bd 4) ld HV) ++ (macW cs (ld 0) (KV 0) (KG 0)) ++ (macW cs (ld 1) (KV 1) (KG 1)) ++ (macW cs (ld 2) (KV 2) (KG 2)) ++ (macW cs (ld 3) (KV 3) (KG 3)))) H) (hD : va_D A ((((camW ad) ++ (macW cs (ad 0) S F)) ++ (hisW cs (ad 4) kd HS) ++ (macW cs (kd 0) (KS 0) (KF 0)) ++ (macW cs (kd 1) (KS 1) (KF 1)) ++ (macW cs (kd 2) (KS 2) (KF 2)) ++ (macW cs (kd 3) (KS 3) (KF 3))) ++ (((camW bd) ++ (macW cs (bd 0) V G)) ++ (hisW cs (bd 4) ld HV) ++ (macW cs (ld 0) (KV 0) (KG 0)) ++ (macW cs (ld 1) (KV 1) (KG 1)) ++ (macW cs (ld 2) (KV 2) (KG 2)) ++ (macW cs (ld 3) (KV 3) (KG 3))))) (hS : va_S A s.heap H locs) (hl : lv_has ls 7 [(0, .ref (ad 3 0)), (1, .ref (bd 3 0)), (2, .int (nI b)), (4, .int y), (5, .int (nI c0))]) : W pq l eq ({ frames := 8, cells := 0, slots := 0, locals := 178 } : Room) s mq ar below meth cq H locs 0 0 (MQ below (zQe D cs (some (.int 1)) (stP cs ad kd bd ld b (N + 30) S) A) ar s 0 0 A) (F0 mq 342 ls []) := by
  obtain ⟨hb1, hb7⟩ := hb8
  obtain ⟨g, hg, eg⟩ := f_8 hd.1
  have ev : V 8 = nI g := (rS hd.2.2 8 (by omega) (by omega)).trans eg
  refine lv_iload hx hb dL_isStep_342 (lv_at hl 4 rfl) ?_
  refine lv_iconst (v := 1) hx hb dL_isStep_344 (by decide) ?_
  refine lv_iadd hx hb dL_isStep_345 ?_
  refine z_top (y := nI (c0 + 1)) (nI_add c0 1) ?_
  refine lv_iload hx hb dL_isStep_346 (lv_at hl 3 rfl) ?_
  refine lv_iconst (v := 3) hx hb dL_isStep_348 (by decide) ?_
  refine lv_ishr hx hb dL_isStep_349 ?_
  refine lv_iconst (v := 4) hx hb dL_isStep_350 (by decide) ?_
  refine z_callS ⟨hx, hb, hml, hown, hts⟩ zY_L_up w_st_yL_up w_ml_L_9 [.int (y >>> (3 &&& 31)), .int 4] [.int (nI (c0 + 1))] (c_L_up l D cs (y >>> (3 &&& 31)) 4 (by omega) (by omega)) hE hK hA hP hD hS [] rfl rfl rfl z_ins_nil rfl hl.1 (Nat.le_of_ble_eq_true rfl) ⟨Nat.le_of_ble_eq_true rfl, Nat.le_of_ble_eq_true rfl⟩ ⟨Nat.le_of_ble_eq_true rfl, Nat.le_of_ble_eq_true rfl⟩ dL_isStep_351 (fun H locs hP hD hS => ?_)
  obtain ⟨u1, hu1, eu1⟩ : ∃ u : Nat, u < 4 ∧ upv (y >>> (3 &&& 31)) % 4 = u := ⟨_, Nat.mod_lt _ (by omega), rfl⟩
  refine z_top (y := nI u1) (by rw [eu1]) ?_
  refine lv_iadd hx hb dL_isStep_354 ?_
  refine z_top (y := nI ((c0 + 1) + u1)) (nI_add (c0 + 1) u1) ?_
  refine lv_iconst (v := 5) hx hb dL_isStep_355 (by decide) ?_
  refine lv_irem hx hb dL_isStep_356 (by decide) ?_
  refine z_top (y := nI (((c0 + 1) + u1) % 5)) (up_rem (a := (c0 + 1) + u1) (m := 5) (by omega) (by omega) (by omega)) ?_
  refine lv_istore (lv' := [(6, .int (nI (((c0 + 1) + u1) % 5))), (0, .ref (ad 3 0)), (1, .ref (bd 3 0)), (2, .int (nI b)), (4, .int y), (5, .int (nI c0))]) hx hb dL_isStep_357 hl (by decide) rfl (fun ls hl => ?_)
  refine lv_aload_n hx hb dL_isStep_359 rfl (lv_at hl 1 rfl) ?_
  refine lv_bipush (v := 8) hx hb dL_isStep_360 (by decide) ?_
  obtain ⟨hP, hD⟩ := zq_s3 hP hD
  refine z_lawV ⟨hx, hb, hml, hown, hts⟩ zY_X7_value w_im_yX7_value w_se_yX7_value w_ml_L_31 [.int 8] [] (c_X7_value_ok l D cs ad S F 8 (g_16 (k := 8) (by omega))) hE hK hA hP hD hS (z_la (z_lc _) (z_lm _ _ _ _ _ _)) 7 rfl rfl rfl rfl hl.1 (Nat.le_of_ble_eq_true rfl) ⟨Nat.le_of_ble_eq_true rfl, Nat.le_of_ble_eq_true rfl⟩ ⟨Nat.le_of_ble_eq_true rfl, Nat.le_of_ble_eq_true rfl⟩ dL_isStep_362 (fun H locs hP hD hS => ?_)
  refine z_top (y := nI g) ((zv_l S 8 (by omega)).trans eg) ?_
  refine lv_iconst (v := 4) hx hb dL_isStep_365 (by decide) ?_
  refine lv_icmp_ne (tgt := 396) hx hb dL_isStep_366 (by decide) (fun c_2 => ?_) (fun c_2 => ?_)
  · skip
    have hg3 : g < 4 := Nat.lt_of_le_of_ne hg (fun h => c_2 (by rw [h]; rfl))
    refine lv_aload_n hx hb dL_isStep_396 rfl (lv_at hl 1 rfl) ?_
    refine lv_iload hx hb dL_isStep_397 (lv_at hl 5 rfl) ?_
    refine lv_iload hx hb dL_isStep_399 (lv_at hl 0 rfl) ?_
    refine lv_iconst (v := 1) hx hb dL_isStep_401 (by decide) ?_
    refine lv_iload hx hb dL_isStep_402 (lv_at hl 4 rfl) ?_
    refine lv_bipush (v := 6) hx hb dL_isStep_404 (by decide) ?_
    refine lv_ishr hx hb dL_isStep_406 ?_
    refine lv_bipush (v := 99) hx hb dL_isStep_407 (by decide) ?_
    refine z_callS ⟨hx, hb, hml, hown, hts⟩ zY_L_up w_st_yL_up w_ml_L_9 [.int (y >>> (6 &&& 31)), .int 99] [.int 1, .int (nI (((c0 + 1) + u1) % 5)), .int (nI c0), .ref (ad 3 0)] (c_L_up l D cs (y >>> (6 &&& 31)) 99 (by omega) (by omega)) hE hK hA hP hD hS [] rfl rfl rfl z_ins_nil rfl hl.1 (Nat.le_of_ble_eq_true rfl) ⟨Nat.le_of_ble_eq_true rfl, Nat.le_of_ble_eq_true rfl⟩ ⟨Nat.le_of_ble_eq_true rfl, Nat.le_of_ble_eq_true rfl⟩ dL_isStep_409 (fun H locs hP hD hS => ?_)
    obtain ⟨u3, hu3, eu3⟩ : ∃ u : Nat, u < 99 ∧ upv (y >>> (6 &&& 31)) % 99 = u := ⟨_, Nat.mod_lt _ (by omega), rfl⟩
    refine z_top (y := nI u3) (by rw [eu3]) ?_
    refine lv_iadd hx hb dL_isStep_412 ?_
    refine z_top (y := nI (1 + u3)) (nI_add 1 u3) ?_
    obtain ⟨hP, hD⟩ := zq_s4 hP hD
    refine z_lawV ⟨hx, hb, hml, hown, hts⟩ zY_X7_addGuard w_im_yX7_addGuard w_se_yX7_addGuard w_ml_L_38 [.int (nI c0), .int (nI (((c0 + 1) + u1) % 5)), .int (nI (1 + u3))] [] (c_X7_addGuard_ok l D cs ad S F kd HS KS KF p n (nI c0) (nI (((c0 + 1) + u1) % 5)) (nI (1 + u3)) (h1.1) (h1.2.1) (h1.2.2.1) (h1.2.2.2) (by rw [eg]; exact (g_r (a := 0) (M := 4) rfl rfl (by omega) (by omega) (by omega)).1) (g_5 hc) (g_5 (Nat.mod_lt _ (by omega))) ⟨nI_ne (by omega) (by omega) (by omega), (g_r (a := 1) (M := 99) rfl rfl (by omega) (by omega) (by omega))⟩ (by rw [eg]; exact (nI_ltI (b := 4) (by omega) (by omega)).mpr hg3)) hE hK hA hP hD hS (z_la (z_la (z_la (z_la (z_la (z_la (z_lc _) (z_lm _ _ _ _ _ _)) (z_lh _ _ _ _ _)) (z_lm _ _ _ _ _ _)) (z_lm _ _ _ _ _ _)) (z_lm _ _ _ _ _ _)) (z_lm _ _ _ _ _ _)) 7 rfl rfl rfl rfl hl.1 (Nat.le_of_ble_eq_true rfl) ⟨Nat.le_of_ble_eq_true rfl, Nat.le_of_ble_eq_true rfl⟩ ⟨Nat.le_of_ble_eq_true rfl, Nat.le_of_ble_eq_true rfl⟩ dL_isStep_413 (fun H locs hP hD hS => ?_)
    refine lv_aload_n hx hb dL_isStep_416 rfl (lv_at hl 2 rfl) ?_
    refine lv_iload hx hb dL_isStep_417 (lv_at hl 5 rfl) ?_
    refine lv_iload hx hb dL_isStep_419 (lv_at hl 0 rfl) ?_
    refine lv_iconst (v := 1) hx hb dL_isStep_421 (by decide) ?_
    refine lv_iload hx hb dL_isStep_422 (lv_at hl 4 rfl) ?_
    refine lv_bipush (v := 6) hx hb dL_isStep_424 (by decide) ?_
    refine lv_ishr hx hb dL_isStep_426 ?_
    refine lv_bipush (v := 99) hx hb dL_isStep_427 (by decide) ?_
    refine z_callS ⟨hx, hb, hml, hown, hts⟩ zY_L_up w_st_yL_up w_ml_L_9 [.int (y >>> (6 &&& 31)), .int 99] [.int 1, .int (nI (((c0 + 1) + u1) % 5)), .int (nI c0), .ref (bd 3 0), .int ((S 8) + 1 - 1)] (c_L_up l D cs (y >>> (6 &&& 31)) 99 (by omega) (by omega)) hE hK hA hP hD hS [] rfl rfl rfl z_ins_nil rfl hl.1 (Nat.le_of_ble_eq_true rfl) ⟨Nat.le_of_ble_eq_true rfl, Nat.le_of_ble_eq_true rfl⟩ ⟨Nat.le_of_ble_eq_true rfl, Nat.le_of_ble_eq_true rfl⟩ dL_isStep_429 (fun H locs hP hD hS => ?_)
    refine z_top (y := nI u3) (by rw [eu3]) ?_
    refine lv_iadd hx hb dL_isStep_432 ?_
    refine z_top (y := nI (1 + u3)) (nI_add 1 u3) ?_
    obtain ⟨hP, hD⟩ := zq_s1 hP hD
    refine z_lawV ⟨hx, hb, hml, hown, hts⟩ zY_X7_addGuard w_im_yX7_addGuard w_se_yX7_addGuard w_ml_L_38 [.int (nI c0), .int (nI (((c0 + 1) + u1) % 5)), .int (nI (1 + u3))] [.int ((S 8) + 1 - 1)] (c_X7_addGuard_ok l D cs bd V G ld HV KV KG q r (nI c0) (nI (((c0 + 1) + u1) % 5)) (nI (1 + u3)) (h2.1) (h2.2.1) (h2.2.2.1) (h2.2.2.2) (by rw [ev]; exact (g_r (a := 0) (M := 4) rfl rfl (by omega) (by omega) (by omega)).1) (g_5 hc) (g_5 (Nat.mod_lt _ (by omega))) ⟨nI_ne (by omega) (by omega) (by omega), (g_r (a := 1) (M := 99) rfl rfl (by omega) (by omega) (by omega))⟩ (by rw [ev]; exact (nI_ltI (b := 4) (by omega) (by omega)).mpr hg3)) hE hK hA hP hD hS (z_la (z_la (z_la (z_la (z_la (z_la (z_lc _) (z_lm _ _ _ _ _ _)) (z_lh _ _ _ _ _)) (z_lm _ _ _ _ _ _)) (z_lm _ _ _ _ _ _)) (z_lm _ _ _ _ _ _)) (z_lm _ _ _ _ _ _)) 7 rfl rfl rfl rfl hl.1 (Nat.le_of_ble_eq_true rfl) ⟨Nat.le_of_ble_eq_true rfl, Nat.le_of_ble_eq_true rfl⟩ ⟨Nat.le_of_ble_eq_true rfl, Nat.le_of_ble_eq_true rfl⟩ dL_isStep_433 (fun H locs hP hD hS => ?_)
    refine lv_icmp_ne (tgt := 443) hx hb dL_isStep_436 (by decide) (fun c_4 => ?_) (fun c_4 => ?_)
    · skip
      exact absurd (by rw [eg, ev]) c_4
    · skip
      refine lv_iconst (v := 1) hx hb dL_isStep_439 (by decide) ?_
      refine lv_goto (tgt := 444) hx hb dL_isStep_440 (by decide) ?_
      obtain ⟨hP, hD⟩ := zq_s2 hP hD
      exact z_zretE hx hb hr hlk hK hP hD hS dL_isStep_444 rfl rfl ⟨(upd S 8 ((S 8) + 1)), (zU (zU (zU F 7 (upd (F 7) (S 8).toNatClampNeg (nI c0))) 8 (upd (F 8) (S 8).toNatClampNeg (nI (((c0 + 1) + u1) % 5)))) 9 (upd (F 9) (S 8).toNatClampNeg (nI (1 + u3)))), (upd (upd HS 0 (nI (hNx p))) 1 (nI (min (n + 1) 4))), kup KS (hNx p) S, kup KF (hNx p) F, (upd V 8 ((V 8) + 1)), (zU (zU (zU G 7 (upd (G 7) (V 8).toNatClampNeg (nI c0))) 8 (upd (G 8) (V 8).toNatClampNeg (nI (((c0 + 1) + u1) % 5)))) 9 (upd (G 9) (V 8).toNatClampNeg (nI (1 + u3)))), (upd (upd HV 0 (nI (hNx q))) 1 (nI (min (r + 1) 4))), kup KV (hNx q) V, kup KG (hNx q) G, hNx p, min (n + 1) 4, hNx q, min (r + 1) 4, rfl, ⟨(inv_w (i_addGuard hd.1 eg (g_5 hc) (g_5 (Nat.mod_lt _ (by omega))) (g_r (a := 1) (M := 99) rfl rfl (by omega) (by omega) (by omega)) hg3) (by omega)), (inv_w (i_addGuard hd.2.1 ev (g_5 hc) (g_5 (Nat.mod_lt _ (by omega))) (g_r (a := 1) (M := 99) rfl rfl (by omega) (by omega) (by omega)) hg3) (by omega)), (r_addGuard hd.2.2 _ _ _)⟩, (mo_o (mo_r S) 8 _ (by omega)), (hsR_s h1), (hsR_s h2)⟩
  · skip
    have hg4 : g = 4 := nI_inj (b := 4) c_2 (by omega) (by omega)
    subst hg4
    have hk4 : nN (nI (c0 % 4)) < 4 := by rw [nN_nI (by omega)]; omega
    refine lv_aload_n hx hb dL_isStep_369 rfl (lv_at hl 1 rfl) ?_
    refine lv_iload hx hb dL_isStep_370 (lv_at hl 5 rfl) ?_
    refine lv_iconst (v := 4) hx hb dL_isStep_372 (by decide) ?_
    refine lv_irem hx hb dL_isStep_373 (by decide) ?_
    refine z_top (y := nI (c0 % 4)) (up_rem (a := c0) (m := 4) (by omega) (by omega) (by omega)) ?_
    obtain ⟨hP, hD⟩ := zq_s4 hP hD
    refine z_lawV ⟨hx, hb, hml, hown, hts⟩ zY_X7_removeGuard w_im_yX7_removeGuard w_se_yX7_removeGuard w_ml_L_35 [.int (nI (c0 % 4))] [] (c_X7_removeGuard_ok l D cs ad S F kd HS KS KF p n (nI (c0 % 4)) 4 (h1.1) (h1.2.1) (h1.2.2.1) (h1.2.2.2) eg (by omega) (by rw [eg]; exact g_r (a := 0) (M := 3) rfl (by decide) (by omega) (by omega) (by omega))) hE hK hA hP hD hS (z_la (z_la (z_la (z_la (z_la (z_la (z_lc _) (z_lm _ _ _ _ _ _)) (z_lh _ _ _ _ _)) (z_lm _ _ _ _ _ _)) (z_lm _ _ _ _ _ _)) (z_lm _ _ _ _ _ _)) (z_lm _ _ _ _ _ _)) 7 rfl rfl rfl rfl hl.1 (Nat.le_of_ble_eq_true rfl) ⟨Nat.le_of_ble_eq_true rfl, Nat.le_of_ble_eq_true rfl⟩ ⟨Nat.le_of_ble_eq_true rfl, Nat.le_of_ble_eq_true rfl⟩ dL_isStep_374 (fun H locs hP hD hS => ?_)
    refine lv_aload_n hx hb dL_isStep_377 rfl (lv_at hl 2 rfl) ?_
    refine lv_iload hx hb dL_isStep_378 (lv_at hl 5 rfl) ?_
    refine lv_iconst (v := 4) hx hb dL_isStep_380 (by decide) ?_
    refine lv_irem hx hb dL_isStep_381 (by decide) ?_
    refine z_top (y := nI (c0 % 4)) (up_rem (a := c0) (m := 4) (by omega) (by omega) (by omega)) ?_
    obtain ⟨hP, hD⟩ := zq_s1 hP hD
    refine z_lawV ⟨hx, hb, hml, hown, hts⟩ zY_X7_removeGuard w_im_yX7_removeGuard w_se_yX7_removeGuard w_ml_L_35 [.int (nI (c0 % 4))] [.int (nI (4 - 1))] (c_X7_removeGuard_ok l D cs bd V G ld HV KV KG q r (nI (c0 % 4)) 4 (h2.1) (h2.2.1) (h2.2.2.1) (h2.2.2.2) ev (by omega) (by rw [ev]; exact g_r (a := 0) (M := 3) rfl (by decide) (by omega) (by omega) (by omega))) hE hK hA hP hD hS (z_la (z_la (z_la (z_la (z_la (z_la (z_lc _) (z_lm _ _ _ _ _ _)) (z_lh _ _ _ _ _)) (z_lm _ _ _ _ _ _)) (z_lm _ _ _ _ _ _)) (z_lm _ _ _ _ _ _)) (z_lm _ _ _ _ _ _)) 7 rfl rfl rfl rfl hl.1 (Nat.le_of_ble_eq_true rfl) ⟨Nat.le_of_ble_eq_true rfl, Nat.le_of_ble_eq_true rfl⟩ ⟨Nat.le_of_ble_eq_true rfl, Nat.le_of_ble_eq_true rfl⟩ dL_isStep_382 (fun H locs hP hD hS => ?_)
    refine lv_icmp_ne (tgt := 392) hx hb dL_isStep_385 (by decide) (fun c_5 => ?_) (fun c_5 => ?_)
    · skip
      exact absurd rfl c_5
    · skip
      refine lv_iconst (v := 1) hx hb dL_isStep_388 (by decide) ?_
      refine lv_goto (tgt := 444) hx hb dL_isStep_389 (by decide) ?_
      obtain ⟨hP, hD⟩ := zq_s2 hP hD
      exact z_zretE hx hb hr hlk hK hP hD hS dL_isStep_444 rfl rfl ⟨(upd S 8 (nI (4 - 1))), (zU (zU (zU F 7 (toF (4 - 1 - nN (nI (c0 % 4))) (nN (nI (c0 % 4))) F 7)) 8 (toF (4 - 1 - nN (nI (c0 % 4))) (nN (nI (c0 % 4))) F 8)) 9 (toF (4 - 1 - nN (nI (c0 % 4))) (nN (nI (c0 % 4))) F 9)), (upd (upd HS 0 (nI (hNx p))) 1 (nI (min (n + 1) 4))), kup KS (hNx p) S, kup KF (hNx p) F, (upd V 8 (nI (4 - 1))), (zU (zU (zU G 7 (toF (4 - 1 - nN (nI (c0 % 4))) (nN (nI (c0 % 4))) G 7)) 8 (toF (4 - 1 - nN (nI (c0 % 4))) (nN (nI (c0 % 4))) G 8)) 9 (toF (4 - 1 - nN (nI (c0 % 4))) (nN (nI (c0 % 4))) G 9)), (upd (upd HV 0 (nI (hNx q))) 1 (nI (min (r + 1) 4))), kup KV (hNx q) V, kup KG (hNx q) G, hNx p, min (n + 1) 4, hNx q, min (r + 1) 4, rfl, ⟨(inv_w (i_removeGuard hd.1 (k := nN (nI (c0 % 4))) (gn := 4) (by omega) hk4) (by omega)), (inv_w (i_removeGuard hd.2.1 (k := nN (nI (c0 % 4))) (gn := 4) (by omega) hk4) (by omega)), (r_removeGuard hd.2.2 _ _ _)⟩, (mo_o (mo_r S) 8 _ (by omega)), (hsR_s h1), (hsR_s h2)⟩

set_option maxHeartbeats 4000000 in
set_option maxRecDepth 100000 in
theorem st_turn {pq : Program} {l : Launch} {eq : Env} {s : State} {mq : MethodId} {below : List Frame} {meth : Method} {cq : Code} {A : Nat → Prop} {D : va_G} {cs : zCs} {ar : Array Value} {H : Heap} {locs : List Loc} {ls : Array Slot} {ad kd bd ld : Nat → Nat → Nat} {S : Nat → Int32} {F : Nat → Nat → Int32} {HS : Nat → Int32} {KS : Nat → Nat → Int32} {KF : Nat → Nat → Nat → Int32} {V : Nat → Int32} {G : Nat → Nat → Int32} {HV : Nat → Int32} {KV : Nat → Nat → Int32} {KG : Nat → Nat → Nat → Int32} {p n q r b : Nat} {N : Int} {y : Int32} {c0 : Nat} (hx : pq.tables.exec = Jvm.exec) (hb : cq.code = cL_isStep) (hr : meth.sig.returnType = some FieldType.boolean) (hml : cq.maxLocals = 7) (hown : s.vm.findClass RL = some mq.cls) (hts : ∀ w ∈ wsG, w.before ar s = true) (hlk : meth.locks = false) (hE : zE A s) (hK : va_K D vwCl (zT cs) s) (hA : ∀ q : Nat, s.heap.size ≤ q → A q) (hb8 : 1 ≤ b ∧ b < 8) (hN : 0 ≤ N ∧ N ≤ 50000) (hd : dR b N S F V G) (h1 : hsR HS p n) (h2 : hsR HV q r) (hc : c0 < 5) (hP : va_P D vwCl ((((camW ad) ++ (macW cs (ad 0) S F)) ++ (hisW cs (ad 4) kd HS) ++ (macW cs (kd 0) (KS 0) (KF 0)) ++ (macW cs (kd 1) (KS 1) (KF 1)) ++ (macW cs (kd 2) (KS 2) (KF 2)) ++ (macW cs (kd 3) (KS 3) (KF 3))) ++ (((camW bd) ++ (macW cs (bd 0) V G)) ++ (hisW cs (bd 4) ld HV) ++ (macW cs (ld 0) (KV 0) (KG 0)) ++ (macW cs (ld 1) (KV 1) (KG 1)) ++ (macW cs (ld 2) (KV 2) (KG 2)) ++ (macW cs (ld 3) (KV 3) (KG 3)))) H) (hD : va_D A ((((camW ad) ++ (macW cs (ad 0) S F)) ++ (hisW cs (ad 4) kd HS) ++ (macW cs (kd 0) (KS 0) (KF 0)) ++ (macW cs (kd 1) (KS 1) (KF 1)) ++ (macW cs (kd 2) (KS 2) (KF 2)) ++ (macW cs (kd 3) (KS 3) (KF 3))) ++ (((camW bd) ++ (macW cs (bd 0) V G)) ++ (hisW cs (bd 4) ld HV) ++ (macW cs (ld 0) (KV 0) (KG 0)) ++ (macW cs (ld 1) (KV 1) (KG 1)) ++ (macW cs (ld 2) (KV 2) (KG 2)) ++ (macW cs (ld 3) (KV 3) (KG 3))))) (hS : va_S A s.heap H locs) (hl : lv_has ls 7 [(0, .ref (ad 3 0)), (1, .ref (bd 3 0)), (2, .int (nI b)), (4, .int y), (5, .int (nI c0))]) : W pq l eq ({ frames := 8, cells := 0, slots := 0, locals := 178 } : Room) s mq ar below meth cq H locs 0 0 (MQ below (zQe D cs (some (.int 1)) (stP cs ad kd bd ld b (N + 30) S) A) ar s 0 0 A) (F0 mq 445 ls []) := by
  obtain ⟨hb1, hb7⟩ := hb8
  obtain ⟨st, a1, a2, a3⟩ := hd.2.2.2.1.2
  have a2 : S 1 = nI st := a2
  have a3 : V 1 = nI ((st + b) % 8) := a3
  refine lv_iload hx hb dL_isStep_445 (lv_at hl 3 rfl) ?_
  refine lv_bipush (v := 8) hx hb dL_isStep_447 (by decide) ?_
  refine z_callS ⟨hx, hb, hml, hown, hts⟩ zY_L_up w_st_yL_up w_ml_L_9 [.int y, .int 8] [] (c_L_up l D cs y 8 (by omega) (by omega)) hE hK hA hP hD hS [] rfl rfl rfl z_ins_nil rfl hl.1 (Nat.le_of_ble_eq_true rfl) ⟨Nat.le_of_ble_eq_true rfl, Nat.le_of_ble_eq_true rfl⟩ ⟨Nat.le_of_ble_eq_true rfl, Nat.le_of_ble_eq_true rfl⟩ dL_isStep_449 (fun H locs hP hD hS => ?_)
  obtain ⟨u1, hu1, eu1⟩ : ∃ u : Nat, u < 8 ∧ upv y % 8 = u := ⟨_, Nat.mod_lt _ (by omega), rfl⟩
  refine z_top (y := nI u1) (by rw [eu1]) ?_
  refine lv_istore (lv' := [(6, .int (nI u1)), (0, .ref (ad 3 0)), (1, .ref (bd 3 0)), (2, .int (nI b)), (4, .int y), (5, .int (nI c0))]) hx hb dL_isStep_452 hl (by decide) rfl (fun ls hl => ?_)
  refine lv_aload_n hx hb dL_isStep_454 rfl (lv_at hl 1 rfl) ?_
  refine lv_iload hx hb dL_isStep_455 (lv_at hl 0 rfl) ?_
  refine z_lawV ⟨hx, hb, hml, hown, hts⟩ zY_X7_turn w_im_yX7_turn w_se_yX7_turn w_ml_L_42 [.int (nI u1)] [] (c_X7_turn_ok l D cs ad S F kd HS KS KF p n (nI u1) (h1.1) (h1.2.1) (h1.2.2.1) (h1.2.2.2) (g_st (f_0 hd.1) hu1)) hE hK hA hP hD hS (z_la (z_la (z_la (z_la (z_la (z_la (z_lc _) (z_lm _ _ _ _ _ _)) (z_lh _ _ _ _ _)) (z_lm _ _ _ _ _ _)) (z_lm _ _ _ _ _ _)) (z_lm _ _ _ _ _ _)) (z_lm _ _ _ _ _ _)) 7 rfl rfl rfl rfl hl.1 (Nat.le_of_ble_eq_true rfl) ⟨Nat.le_of_ble_eq_true rfl, Nat.le_of_ble_eq_true rfl⟩ ⟨Nat.le_of_ble_eq_true rfl, Nat.le_of_ble_eq_true rfl⟩ dL_isStep_457 (fun H locs hP hD hS => ?_)
  refine z_top (y := nI st) a2 ?_
  refine lv_iload_n hx hb dL_isStep_460 rfl (lv_at hl 3 rfl) ?_
  refine lv_iadd hx hb dL_isStep_461 ?_
  refine z_top (y := nI (st + b)) (nI_add st b) ?_
  refine lv_bipush (v := 8) hx hb dL_isStep_462 (by decide) ?_
  refine lv_irem hx hb dL_isStep_464 (by decide) ?_
  refine z_top (y := nI ((st + b) % 8)) (up_rem (a := st + b) (m := 8) (by omega) (by omega) (by omega)) ?_
  refine lv_aload_n hx hb dL_isStep_465 rfl (lv_at hl 2 rfl) ?_
  refine lv_iload hx hb dL_isStep_466 (lv_at hl 0 rfl) ?_
  refine lv_iload_n hx hb dL_isStep_468 rfl (lv_at hl 3 rfl) ?_
  refine lv_iadd hx hb dL_isStep_469 ?_
  refine z_top (y := nI (u1 + b)) (nI_add u1 b) ?_
  refine lv_bipush (v := 8) hx hb dL_isStep_470 (by decide) ?_
  refine lv_irem hx hb dL_isStep_472 (by decide) ?_
  refine z_top (y := nI ((u1 + b) % 8)) (up_rem (a := u1 + b) (m := 8) (by omega) (by omega) (by omega)) ?_
  obtain ⟨hP, hD⟩ := zq_s1 hP hD
  refine z_lawV ⟨hx, hb, hml, hown, hts⟩ zY_X7_turn w_im_yX7_turn w_se_yX7_turn w_ml_L_42 [.int (nI ((u1 + b) % 8))] [.int (nI ((st + b) % 8))] (c_X7_turn_ok l D cs bd V G ld HV KV KG q r (nI ((u1 + b) % 8)) (h2.1) (h2.2.1) (h2.2.2.1) (h2.2.2.2) (g_st (f_0 hd.2.1) (by omega))) hE hK hA hP hD hS (z_la (z_la (z_la (z_la (z_la (z_la (z_lc _) (z_lm _ _ _ _ _ _)) (z_lh _ _ _ _ _)) (z_lm _ _ _ _ _ _)) (z_lm _ _ _ _ _ _)) (z_lm _ _ _ _ _ _)) (z_lm _ _ _ _ _ _)) 7 rfl rfl rfl rfl hl.1 (Nat.le_of_ble_eq_true rfl) ⟨Nat.le_of_ble_eq_true rfl, Nat.le_of_ble_eq_true rfl⟩ ⟨Nat.le_of_ble_eq_true rfl, Nat.le_of_ble_eq_true rfl⟩ dL_isStep_473 (fun H locs hP hD hS => ?_)
  refine z_top (y := nI ((st + b) % 8)) a3 ?_
  refine lv_icmp_ne (tgt := 483) hx hb dL_isStep_476 (by decide) (fun c_2 => ?_) (fun c_2 => ?_)
  · skip
    exact absurd rfl c_2
  · skip
    refine lv_iconst (v := 1) hx hb dL_isStep_479 (by decide) ?_
    refine lv_goto (tgt := 484) hx hb dL_isStep_480 (by decide) ?_
    obtain ⟨hP, hD⟩ := zq_s2 hP hD
    exact z_zretE hx hb hr hlk hK hP hD hS dL_isStep_484 rfl rfl ⟨(upd (upd S 1 (nI u1)) 2 0), F, (upd (upd HS 0 (nI (hNx p))) 1 (nI (min (n + 1) 4))), kup KS (hNx p) S, kup KF (hNx p) F, (upd (upd V 1 (nI ((u1 + b) % 8))) 2 0), G, (upd (upd HV 0 (nI (hNx q))) 1 (nI (min (r + 1) 4))), kup KV (hNx q) V, kup KG (hNx q) G, hNx p, min (n + 1) 4, hNx q, min (r + 1) 4, rfl, ⟨(inv_w (i_turn hd.1 hu1) (by omega)), (inv_w (i_turn hd.2.1 (by omega)) (by omega)), (r_turn hd.2.2 hu1)⟩, (mo_o (mo_o (mo_r S) 1 _ (by omega)) 2 _ (by omega)), (hsR_s h1), (hsR_s h2)⟩

set_option maxHeartbeats 4000000 in
set_option maxRecDepth 100000 in
theorem st_run {pq : Program} {l : Launch} {eq : Env} {s : State} {mq : MethodId} {below : List Frame} {meth : Method} {cq : Code} {A : Nat → Prop} {D : va_G} {cs : zCs} {ar : Array Value} {H : Heap} {locs : List Loc} {ls : Array Slot} {ad kd bd ld : Nat → Nat → Nat} {S : Nat → Int32} {F : Nat → Nat → Int32} {HS : Nat → Int32} {KS : Nat → Nat → Int32} {KF : Nat → Nat → Nat → Int32} {V : Nat → Int32} {G : Nat → Nat → Int32} {HV : Nat → Int32} {KV : Nat → Nat → Int32} {KG : Nat → Nat → Nat → Int32} {p n q r b : Nat} {N : Int} {y : Int32} {c0 : Nat} (hx : pq.tables.exec = Jvm.exec) (hb : cq.code = cL_isStep) (hr : meth.sig.returnType = some FieldType.boolean) (hml : cq.maxLocals = 7) (hown : s.vm.findClass RL = some mq.cls) (hts : ∀ w ∈ wsG, w.before ar s = true) (hlk : meth.locks = false) (hE : zE A s) (hK : va_K D vwCl (zT cs) s) (hA : ∀ q : Nat, s.heap.size ≤ q → A q) (hb8 : 1 ≤ b ∧ b < 8) (hN : 0 ≤ N ∧ N ≤ 50000) (hd : dR b N S F V G) (h1 : hsR HS p n) (h2 : hsR HV q r) (hc : c0 < 5) (hP : va_P D vwCl ((((camW ad) ++ (macW cs (ad 0) S F)) ++ (hisW cs (ad 4) kd HS) ++ (macW cs (kd 0) (KS 0) (KF 0)) ++ (macW cs (kd 1) (KS 1) (KF 1)) ++ (macW cs (kd 2) (KS 2) (KF 2)) ++ (macW cs (kd 3) (KS 3) (KF 3))) ++ (((camW bd) ++ (macW cs (bd 0) V G)) ++ (hisW cs (bd 4) ld HV) ++ (macW cs (ld 0) (KV 0) (KG 0)) ++ (macW cs (ld 1) (KV 1) (KG 1)) ++ (macW cs (ld 2) (KV 2) (KG 2)) ++ (macW cs (ld 3) (KV 3) (KG 3)))) H) (hD : va_D A ((((camW ad) ++ (macW cs (ad 0) S F)) ++ (hisW cs (ad 4) kd HS) ++ (macW cs (kd 0) (KS 0) (KF 0)) ++ (macW cs (kd 1) (KS 1) (KF 1)) ++ (macW cs (kd 2) (KS 2) (KF 2)) ++ (macW cs (kd 3) (KS 3) (KF 3))) ++ (((camW bd) ++ (macW cs (bd 0) V G)) ++ (hisW cs (bd 4) ld HV) ++ (macW cs (ld 0) (KV 0) (KG 0)) ++ (macW cs (ld 1) (KV 1) (KG 1)) ++ (macW cs (ld 2) (KV 2) (KG 2)) ++ (macW cs (ld 3) (KV 3) (KG 3))))) (hS : va_S A s.heap H locs) (hl : lv_has ls 7 [(0, .ref (ad 3 0)), (1, .ref (bd 3 0)), (2, .int (nI b)), (4, .int y), (5, .int (nI c0))]) : W pq l eq ({ frames := 8, cells := 0, slots := 0, locals := 178 } : Room) s mq ar below meth cq H locs 0 0 (MQ below (zQe D cs (some (.int 1)) (stP cs ad kd bd ld b (N + 30) S) A) ar s 0 0 A) (F0 mq 485 ls []) := by
  obtain ⟨hb1, hb7⟩ := hb8
  refine lv_aload_n hx hb dL_isStep_485 rfl (lv_at hl 0 rfl) ?_
  refine lv_iconst (v := 1) hx hb dL_isStep_486 (by decide) ?_
  refine lv_iload hx hb dL_isStep_487 (lv_at hl 3 rfl) ?_
  refine lv_bipush (v := 30) hx hb dL_isStep_489 (by decide) ?_
  refine z_callS ⟨hx, hb, hml, hown, hts⟩ zY_L_up w_st_yL_up w_ml_L_9 [.int y, .int 30] [.int 1, .ref (ad 3 0)] (c_L_up l D cs y 30 (by omega) (by omega)) hE hK hA hP hD hS [] rfl rfl rfl z_ins_nil rfl hl.1 (Nat.le_of_ble_eq_true rfl) ⟨Nat.le_of_ble_eq_true rfl, Nat.le_of_ble_eq_true rfl⟩ ⟨Nat.le_of_ble_eq_true rfl, Nat.le_of_ble_eq_true rfl⟩ dL_isStep_491 (fun H locs hP hD hS => ?_)
  obtain ⟨u1, hu1, eu1⟩ : ∃ u : Nat, u < 30 ∧ upv y % 30 = u := ⟨_, Nat.mod_lt _ (by omega), rfl⟩
  refine z_top (y := nI u1) (by rw [eu1]) ?_
  refine lv_iadd hx hb dL_isStep_494 ?_
  refine z_top (y := nI (1 + u1)) (nI_add 1 u1) ?_
  refine z_lawV ⟨hx, hb, hml, hown, hts⟩ zY_X7_run w_im_yX7_run w_se_yX7_run w_ml_L_45 [.int (nI (1 + u1))] [] (c_X7_run_ok l D cs ad S F kd HS KS KF p n (nI (1 + u1)) (h1.1) (h1.2.1) (h1.2.2.1) (h1.2.2.2) (g_r (a := 1) (M := 500) rfl rfl (by omega) (by omega) (by omega)) (f_tk hd.1 (k := 1 + u1) (by omega))) hE hK hA hP hD hS (z_la (z_la (z_la (z_la (z_la (z_la (z_lc _) (z_lm _ _ _ _ _ _)) (z_lh _ _ _ _ _)) (z_lm _ _ _ _ _ _)) (z_lm _ _ _ _ _ _)) (z_lm _ _ _ _ _ _)) (z_lm _ _ _ _ _ _)) 7 rfl rfl rfl rfl hl.1 (Nat.le_of_ble_eq_true rfl) ⟨Nat.le_of_ble_eq_true rfl, Nat.le_of_ble_eq_true rfl⟩ ⟨Nat.le_of_ble_eq_true rfl, Nat.le_of_ble_eq_true rfl⟩ dL_isStep_495 (fun H locs hP hD hS => ?_)
  refine lv_if_lt (tgt := 521) hx hb dL_isStep_498 (by decide) (fun c_2 => ?_) (fun c_2 => ?_)
  · skip
    exact absurd c_2 (f_run hd.1 (k := nN (nI (1 + u1))) (by have hku : nN (nI (1 + u1)) = 1 + u1 := nN_nI (by omega); omega))
  · skip
    refine lv_aload_n hx hb dL_isStep_501 rfl (lv_at hl 1 rfl) ?_
    refine lv_iconst (v := 1) hx hb dL_isStep_502 (by decide) ?_
    refine lv_iload hx hb dL_isStep_503 (lv_at hl 3 rfl) ?_
    refine lv_bipush (v := 30) hx hb dL_isStep_505 (by decide) ?_
    refine z_callS ⟨hx, hb, hml, hown, hts⟩ zY_L_up w_st_yL_up w_ml_L_9 [.int y, .int 30] [.int 1, .ref (bd 3 0)] (c_L_up l D cs y 30 (by omega) (by omega)) hE hK hA hP hD hS [] rfl rfl rfl z_ins_nil rfl hl.1 (Nat.le_of_ble_eq_true rfl) ⟨Nat.le_of_ble_eq_true rfl, Nat.le_of_ble_eq_true rfl⟩ ⟨Nat.le_of_ble_eq_true rfl, Nat.le_of_ble_eq_true rfl⟩ dL_isStep_507 (fun H locs hP hD hS => ?_)
    refine z_top (y := nI u1) (by rw [eu1]) ?_
    refine lv_iadd hx hb dL_isStep_510 ?_
    refine z_top (y := nI (1 + u1)) (nI_add 1 u1) ?_
    obtain ⟨hP, hD⟩ := zq_s1 hP hD
    refine z_lawV ⟨hx, hb, hml, hown, hts⟩ zY_X7_run w_im_yX7_run w_se_yX7_run w_ml_L_45 [.int (nI (1 + u1))] [] (c_X7_run_ok l D cs bd V G ld HV KV KG q r (nI (1 + u1)) (h2.1) (h2.2.1) (h2.2.2.1) (h2.2.2.2) (g_r (a := 1) (M := 500) rfl rfl (by omega) (by omega) (by omega)) (f_tk hd.2.1 (k := 1 + u1) (by omega))) hE hK hA hP hD hS (z_la (z_la (z_la (z_la (z_la (z_la (z_lc _) (z_lm _ _ _ _ _ _)) (z_lh _ _ _ _ _)) (z_lm _ _ _ _ _ _)) (z_lm _ _ _ _ _ _)) (z_lm _ _ _ _ _ _)) (z_lm _ _ _ _ _ _)) 7 rfl rfl rfl rfl hl.1 (Nat.le_of_ble_eq_true rfl) ⟨Nat.le_of_ble_eq_true rfl, Nat.le_of_ble_eq_true rfl⟩ ⟨Nat.le_of_ble_eq_true rfl, Nat.le_of_ble_eq_true rfl⟩ dL_isStep_511 (fun H locs hP hD hS => ?_)
    refine lv_if_lt (tgt := 521) hx hb dL_isStep_514 (by decide) (fun c_3 => ?_) (fun c_3 => ?_)
    · skip
      exact absurd c_3 (f_run hd.2.1 (k := nN (nI (1 + u1))) (by have hku : nN (nI (1 + u1)) = 1 + u1 := nN_nI (by omega); omega))
    · skip
      refine lv_iconst (v := 1) hx hb dL_isStep_517 (by decide) ?_
      refine lv_goto (tgt := 522) hx hb dL_isStep_518 (by decide) ?_
      obtain ⟨hP, hD⟩ := zq_s2 hP hD
      have hku : nN (nI (1 + u1)) = 1 + u1 := nN_nI (by omega)
      exact z_zretE hx hb hr hlk hK hP hD hS dL_isStep_522 rfl rfl ⟨((tkN (S, F) (nN (nI (1 + u1)))).1), ((tkN (S, F) (nN (nI (1 + u1)))).2), (upd (upd HS 0 (nI (hNx p))) 1 (nI (min (n + 1) 4))), kup KS (hNx p) S, kup KF (hNx p) F, ((tkN (V, G) (nN (nI (1 + u1)))).1), ((tkN (V, G) (nN (nI (1 + u1)))).2), (upd (upd HV 0 (nI (hNx q))) 1 (nI (min (r + 1) 4))), kup KV (hNx q) V, kup KG (hNx q) G, hNx p, min (n + 1) 4, hNx q, min (r + 1) 4, rfl, ⟨(inv_w ((inv_n hd.1 (nN (nI (1 + u1))) (by omega)).1) (by omega)), (inv_w ((inv_n hd.2.1 (nN (nI (1 + u1))) (by omega)).1) (by omega)), (rot_n hb7 hd.2.2 _)⟩, (inv_n hd.1 (nN (nI (1 + u1))) (by omega)).2, (hsR_s h1), (hsR_s h2)⟩

set_option maxHeartbeats 4000000 in
set_option maxRecDepth 100000 in
theorem c_L_isStep (l : Launch) (D : va_G) (cs : zCs) (ad kd bd ld : Nat → Nat → Nat) (S : Nat → Int32) (F : Nat → Nat → Int32) (HS : Nat → Int32) (KS : Nat → Nat → Int32) (KF : Nat → Nat → Nat → Int32) (V : Nat → Int32) (G : Nat → Nat → Int32) (HV : Nat → Int32) (KV : Nat → Nat → Int32) (KG : Nat → Nat → Nat → Int32) (p n q r b : Nat) (N : Int) (x : Int32) (hb8 : 1 ≤ b ∧ b < 8) (hN : 0 ≤ N ∧ N ≤ 50000) (hd : dR b N S F V G) (h1 : hsR HS p n) (h2 : hsR HV q r) : zMe l D cs yL_isStep cL_isStep 7 (some FieldType.boolean) 8 178 0 0 [.ref (ad 3 0), .ref (bd 3 0), .int (nI b), .int x] ((((camW ad) ++ (macW cs (ad 0) S F)) ++ (hisW cs (ad 4) kd HS) ++ (macW cs (kd 0) (KS 0) (KF 0)) ++ (macW cs (kd 1) (KS 1) (KF 1)) ++ (macW cs (kd 2) (KS 2) (KF 2)) ++ (macW cs (kd 3) (KS 3) (KF 3))) ++ (((camW bd) ++ (macW cs (bd 0) V G)) ++ (hisW cs (bd 4) ld HV) ++ (macW cs (ld 0) (KV 0) (KG 0)) ++ (macW cs (ld 1) (KV 1) (KG 1)) ++ (macW cs (ld 2) (KV 2) (KG 2)) ++ (macW cs (ld 3) (KV 3) (KG 3)))) (some (.int 1)) (stP cs ad kd bd ld b (N + 30) S) := by
  refine zMe.of (own := RL) (by decide) (Nat.le_of_ble_eq_true rfl) rfl ?_
  intro pq eq s mq below meth cq A ls hx hb hr hml hown hts hlk hnm hE hK hA hP hD hS hl
  have hl : lv_has ls 7 [(0, .ref (ad 3 0)), (1, .ref (bd 3 0)), (2, .int (nI b)), (3, .int x)] := hl
  refine lv_iload_n hx hb dL_isStep_0 rfl (lv_at hl 3 rfl) ?_
  refine lv_iconst (v := 4) hx hb dL_isStep_1 (by decide) ?_
  refine lv_ishr hx hb dL_isStep_2 ?_
  refine lv_istore (lv' := [(4, .int (x >>> (4 &&& 31))), (0, .ref (ad 3 0)), (1, .ref (bd 3 0)), (2, .int (nI b)), (3, .int x)]) hx hb dL_isStep_3 hl (by decide) rfl (fun ls hl => ?_)
  refine lv_iload hx hb dL_isStep_5 (lv_at hl 0 rfl) ?_
  refine lv_iconst (v := 5) hx hb dL_isStep_7 (by decide) ?_
  refine z_callS ⟨hx, hb, hml, hown, hts⟩ zY_L_up w_st_yL_up w_ml_L_9 [.int (x >>> (4 &&& 31)), .int 5] [] (c_L_up l D cs (x >>> (4 &&& 31)) 5 (by omega) (by omega)) hE hK hA hP hD hS [] rfl rfl rfl z_ins_nil rfl hl.1 (Nat.le_of_ble_eq_true rfl) ⟨Nat.le_of_ble_eq_true rfl, Nat.le_of_ble_eq_true rfl⟩ ⟨Nat.le_of_ble_eq_true rfl, Nat.le_of_ble_eq_true rfl⟩ dL_isStep_8 (fun H locs hP hD hS => ?_)
  obtain ⟨u1, hu1, eu1⟩ : ∃ u : Nat, u < 5 ∧ upv (x >>> (4 &&& 31)) % 5 = u := ⟨_, Nat.mod_lt _ (by omega), rfl⟩
  refine z_top (y := nI u1) (by rw [eu1]) ?_
  refine lv_istore (lv' := [(5, .int (nI u1)), (4, .int (x >>> (4 &&& 31))), (0, .ref (ad 3 0)), (1, .ref (bd 3 0)), (2, .int (nI b)), (3, .int x)]) hx hb dL_isStep_11 hl (by decide) rfl (fun ls hl => ?_)
  refine lv_iload_n hx hb dL_isStep_13 rfl (lv_at hl 5 rfl) ?_
  refine lv_bipush (v := 12) hx hb dL_isStep_14 (by decide) ?_
  refine z_callS ⟨hx, hb, hml, hown, hts⟩ zY_L_up w_st_yL_up w_ml_L_9 [.int x, .int 12] [] (c_L_up l D cs x 12 (by omega) (by omega)) hE hK hA hP hD hS [] rfl rfl rfl z_ins_nil rfl hl.1 (Nat.le_of_ble_eq_true rfl) ⟨Nat.le_of_ble_eq_true rfl, Nat.le_of_ble_eq_true rfl⟩ ⟨Nat.le_of_ble_eq_true rfl, Nat.le_of_ble_eq_true rfl⟩ dL_isStep_16 (fun H locs hP hD hS => ?_)
  obtain ⟨u2, hu2, eu2⟩ : ∃ u : Nat, u < 12 ∧ upv x % 12 = u := ⟨_, Nat.mod_lt _ (by omega), rfl⟩
  refine z_top (y := nI u2) (by rw [eu2]) ?_
  rcases (show u2 = 0 ∨ u2 = 1 ∨ u2 = 2 ∨ u2 = 3 ∨ u2 = 4 ∨ u2 = 5 ∨ u2 = 6 ∨ u2 = 7 ∨ u2 = 8 ∨ u2 = 9 ∨ u2 = 10 ∨ u2 = 11 by omega) with rfl | rfl | rfl | rfl | rfl | rfl | rfl | rfl | rfl | rfl | rfl | rfl
  · skip
    refine lv_tableIn (tgt := 68) (off := 49) hx hb dL_isStep_19 (by decide) (by decide) (by decide) (by decide) ?_
    exact st_setCam hx hb hr hml hown hts hlk hE hK hA hb8 hN hd h1 h2 hu1 hP hD hS (lv_sub hl [2, 3, 4, 1, 0] rfl)
  · skip
    refine lv_tableIn (tgt := 68) (off := 49) hx hb dL_isStep_19 (by decide) (by decide) (by decide) (by decide) ?_
    exact st_setCam hx hb hr hml hown hts hlk hE hK hA hb8 hN hd h1 h2 hu1 hP hD hS (lv_sub hl [2, 3, 4, 1, 0] rfl)
  · skip
    refine lv_tableIn (tgt := 68) (off := 49) hx hb dL_isStep_19 (by decide) (by decide) (by decide) (by decide) ?_
    exact st_setCam hx hb hr hml hown hts hlk hE hK hA hb8 hN hd h1 h2 hu1 hP hD hS (lv_sub hl [2, 3, 4, 1, 0] rfl)
  · skip
    refine lv_tableIn (tgt := 68) (off := 49) hx hb dL_isStep_19 (by decide) (by decide) (by decide) (by decide) ?_
    exact st_setCam hx hb hr hml hown hts hlk hE hK hA hb8 hN hd h1 h2 hu1 hP hD hS (lv_sub hl [2, 3, 4, 1, 0] rfl)
  · skip
    refine lv_tableIn (tgt := 139) (off := 120) hx hb dL_isStep_19 (by decide) (by decide) (by decide) (by decide) ?_
    exact st_setPawl hx hb hr hml hown hts hlk hE hK hA hb8 hN hd h1 h2 hu1 hP hD hS (lv_sub hl [2, 3, 4, 1, 0] rfl)
  · skip
    refine lv_tableIn (tgt := 194) (off := 175) hx hb dL_isStep_19 (by decide) (by decide) (by decide) (by decide) ?_
    exact st_setCylinder hx hb hr hml hown hts hlk hE hK hA hb8 hN hd h1 h2 hu1 hP hD hS (lv_sub hl [2, 3, 4, 1, 0] rfl)
  · skip
    refine lv_tableIn (tgt := 281) (off := 262) hx hb dL_isStep_19 (by decide) (by decide) (by decide) (by decide) ?_
    exact st_setAir hx hb hr hml hown hts hlk hE hK hA hb8 hN hd h1 h2 hu1 hP hD hS (lv_sub hl [2, 3, 4, 1, 0] rfl)
  · skip
    refine lv_tableIn (tgt := 342) (off := 323) hx hb dL_isStep_19 (by decide) (by decide) (by decide) (by decide) ?_
    exact st_guards hx hb hr hml hown hts hlk hE hK hA hb8 hN hd h1 h2 hu1 hP hD hS (lv_sub hl [2, 3, 4, 1, 0] rfl)
  · skip
    refine lv_tableIn (tgt := 445) (off := 426) hx hb dL_isStep_19 (by decide) (by decide) (by decide) (by decide) ?_
    exact st_turn hx hb hr hml hown hts hlk hE hK hA hb8 hN hd h1 h2 hu1 hP hD hS (lv_sub hl [2, 3, 4, 1, 0] rfl)
  · skip
    refine lv_tableOut (tgt := 485) hx hb dL_isStep_19 (by decide) (by decide) ?_
    exact st_run hx hb hr hml hown hts hlk hE hK hA hb8 hN hd h1 h2 hu1 hP hD hS (lv_sub hl [2, 3, 4, 1, 0] rfl)
  · skip
    refine lv_tableOut (tgt := 485) hx hb dL_isStep_19 (by decide) (by decide) ?_
    exact st_run hx hb hr hml hown hts hlk hE hK hA hb8 hN hd h1 h2 hu1 hP hD hS (lv_sub hl [2, 3, 4, 1, 0] rfl)
  · skip
    refine lv_tableOut (tgt := 485) hx hb dL_isStep_19 (by decide) (by decide) ?_
    exact st_run hx hb hr hml hown hts hlk hE hK hA hb8 hN hd h1 h2 hu1 hP hD hS (lv_sub hl [2, 3, 4, 1, 0] rfl)
