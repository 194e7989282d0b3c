def c8N (f : Nat → Int32) : Nat → Nat → Int32
  | 0 => f
  | i + 1 => upd (upd (c8N f i) (21 + 6 * i + 1) 2) (21 + 6 * i + 2) 20
/-- a fresh reference's numbers -/
def rF0 : Nat → Int32 := emF (c8N (upd (upd (upd (upd (upd (upd (upd (fun _ => 0) 0 8) 3 4) 4 100) 5 1000) 6 2000) 7 50) 12 1000) 5)
set_option maxHeartbeats 4000000 in
set_option maxRecDepth 100000 in
theorem n_X8_init (l : Launch) (D : va_G) (cs : zCs) (b : Nat) : zMn l D cs yX8_init cX8_init 2 1 21 6 1067 [.ref b] [(b, .inr (8, [.null, .null, .null, .int 0, .int 0, .int 0, .int 0, .null, .null, .int 0, .int 0, .null, .int 0]))] (fun wo => ∃ a : Nat → Nat, a 0 = b ∧ wo = refW cs a (fun _ => 0) (zU (fun _ _ => 0) 0 rF0)) := by
  refine zMn.of (own := RX8) (by decide) (Nat.le_of_ble_eq_true rfl) rfl ?_
  intro pq eq s mq below meth cq A ls hx hb hr hml hown hts hlk hnm hE hK hA hP hD hS hl
  have hl : lv_has ls 2 [(0, .ref b)] := hl
  have tail : ∀ (a : Nat → Nat) (H : Heap) (locs : List Loc) (ls : Array Slot), va_P D vwCl (refW cs a (fun _ => 0) (fun _ _ => 0)) H → va_D A (refW cs a (fun _ => 0) (fun _ _ => 0)) → va_S A s.heap H locs → lv_has ls 2 [(0, .ref (a 0))] → a 0 = b → W pq l eq ({ frames := 1, cells := 6, slots := 1067, locals := 21 } : Room) s mq ([.ref b] : List Value).toArray below meth cq H locs 6 1067 (MQ below (zQn D cs (fun wo => ∃ a : Nat → Nat, a 0 = b ∧ wo = refW cs a (fun _ => 0) (zU (fun _ _ => 0) 0 rF0)) A) ([.ref b] : List Value).toArray s 6 1067 A) (F0 mq 54 ls []) := by
    intro a H locs ls hP hD hS hl ha0
    refine lv_aload_n hx hb dX8_init_54 rfl (lv_at hl 0 rfl) ?_
    refine va_get (D := D) (ci := 8) (v := .ref (a 1)) (C := RX8) (T := TX8) (N := 13) hx hb hts wsI_X8 hown hK hP 0 rfl rfl 0 (by decide) (hts _ w_fl_X8_7) (fun _ h9 => h9) rfl dX8_init_55 ?_
    refine lv_iconst (v := 0) hx hb dX8_init_58 (by decide) ?_
    refine lv_bipush (v := 8) hx hb dX8_init_59 (by decide) ?_
    refine z_iast (k := 0) hx hb hK hP hD hS 1 rfl (by decide) (by first | decide | omega) dX8_init_61 (fun H locs hP hD hS => ?_)
    have hP : va_P D vwCl (refW cs a (fun _ => 0) (zU (fun _ _ => 0) 0 (upd ((fun _ _ => 0) 0) 0 8))) H := hP
    have hD : va_D A (refW cs a (fun _ => 0) (zU (fun _ _ => 0) 0 (upd ((fun _ _ => 0) 0) 0 8))) := hD
    refine lv_aload_n hx hb dX8_init_62 rfl (lv_at hl 0 rfl) ?_
    refine va_get (D := D) (ci := 8) (v := .ref (a 1)) (C := RX8) (T := TX8) (N := 13) hx hb hts wsI_X8 hown hK hP 0 rfl rfl 0 (by decide) (hts _ w_fl_X8_7) (fun _ h9 => h9) rfl dX8_init_63 ?_
    refine lv_iconst (v := 3) hx hb dX8_init_66 (by decide) ?_
    refine lv_iconst (v := 4) hx hb dX8_init_67 (by decide) ?_
    refine z_iast (k := 3) hx hb hK hP hD hS 1 rfl (by decide) (by first | decide | omega) dX8_init_68 (fun H locs hP hD hS => ?_)
    have hP : va_P D vwCl (refW cs a (fun _ => 0) (zU (fun _ _ => 0) 0 (upd (upd ((fun _ _ => 0) 0) 0 8) 3 4))) H := hP
    have hD : va_D A (refW cs a (fun _ => 0) (zU (fun _ _ => 0) 0 (upd (upd ((fun _ _ => 0) 0) 0 8) 3 4))) := hD
    refine lv_aload_n hx hb dX8_init_69 rfl (lv_at hl 0 rfl) ?_
    refine va_get (D := D) (ci := 8) (v := .ref (a 1)) (C := RX8) (T := TX8) (N := 13) hx hb hts wsI_X8 hown hK hP 0 rfl rfl 0 (by decide) (hts _ w_fl_X8_7) (fun _ h9 => h9) rfl dX8_init_70 ?_
    refine lv_iconst (v := 4) hx hb dX8_init_73 (by decide) ?_
    refine lv_bipush (v := 100) hx hb dX8_init_74 (by decide) ?_
    refine z_iast (k := 4) hx hb hK hP hD hS 1 rfl (by decide) (by first | decide | omega) dX8_init_76 (fun H locs hP hD hS => ?_)
    have hP : va_P D vwCl (refW cs a (fun _ => 0) (zU (fun _ _ => 0) 0 (upd (upd (upd ((fun _ _ => 0) 0) 0 8) 3 4) 4 100))) H := hP
    have hD : va_D A (refW cs a (fun _ => 0) (zU (fun _ _ => 0) 0 (upd (upd (upd ((fun _ _ => 0) 0) 0 8) 3 4) 4 100))) := hD
    refine lv_aload_n hx hb dX8_init_77 rfl (lv_at hl 0 rfl) ?_
    refine va_get (D := D) (ci := 8) (v := .ref (a 1)) (C := RX8) (T := TX8) (N := 13) hx hb hts wsI_X8 hown hK hP 0 rfl rfl 0 (by decide) (hts _ w_fl_X8_7) (fun _ h9 => h9) rfl dX8_init_78 ?_
    refine lv_iconst (v := 5) hx hb dX8_init_81 (by decide) ?_
    refine lv_sipush (v := 1000) hx hb dX8_init_82 (by decide) ?_
    refine z_iast (k := 5) hx hb hK hP hD hS 1 rfl (by decide) (by first | decide | omega) dX8_init_85 (fun H locs hP hD hS => ?_)
    have hP : va_P D vwCl (refW cs a (fun _ => 0) (zU (fun _ _ => 0) 0 (upd (upd (upd (upd ((fun _ _ => 0) 0) 0 8) 3 4) 4 100) 5 1000))) H := hP
    have hD : va_D A (refW cs a (fun _ => 0) (zU (fun _ _ => 0) 0 (upd (upd (upd (upd ((fun _ _ => 0) 0) 0 8) 3 4) 4 100) 5 1000))) := hD
    refine lv_aload_n hx hb dX8_init_86 rfl (lv_at hl 0 rfl) ?_
    refine va_get (D := D) (ci := 8) (v := .ref (a 1)) (C := RX8) (T := TX8) (N := 13) hx hb hts wsI_X8 hown hK hP 0 rfl rfl 0 (by decide) (hts _ w_fl_X8_7) (fun _ h9 => h9) rfl dX8_init_87 ?_
    refine lv_bipush (v := 6) hx hb dX8_init_90 (by decide) ?_
    refine lv_sipush (v := 2000) hx hb dX8_init_92 (by decide) ?_
    refine z_iast (k := 6) hx hb hK hP hD hS 1 rfl (by decide) (by first | decide | omega) dX8_init_95 (fun H locs hP hD hS => ?_)
    have hP : va_P D vwCl (refW cs a (fun _ => 0) (zU (fun _ _ => 0) 0 (upd (upd (upd (upd (upd ((fun _ _ => 0) 0) 0 8) 3 4) 4 100) 5 1000) 6 2000))) H := hP
    have hD : va_D A (refW cs a (fun _ => 0) (zU (fun _ _ => 0) 0 (upd (upd (upd (upd (upd ((fun _ _ => 0) 0) 0 8) 3 4) 4 100) 5 1000) 6 2000))) := hD
    refine lv_aload_n hx hb dX8_init_96 rfl (lv_at hl 0 rfl) ?_
    refine va_get (D := D) (ci := 8) (v := .ref (a 1)) (C := RX8) (T := TX8) (N := 13) hx hb hts wsI_X8 hown hK hP 0 rfl rfl 0 (by decide) (hts _ w_fl_X8_7) (fun _ h9 => h9) rfl dX8_init_97 ?_
    refine lv_bipush (v := 7) hx hb dX8_init_100 (by decide) ?_
    refine lv_bipush (v := 50) hx hb dX8_init_102 (by decide) ?_
    refine z_iast (k := 7) hx hb hK hP hD hS 1 rfl (by decide) (by first | decide | omega) dX8_init_104 (fun H locs hP hD hS => ?_)
    have hP : va_P D vwCl (refW cs a (fun _ => 0) (zU (fun _ _ => 0) 0 (upd (upd (upd (upd (upd (upd ((fun _ _ => 0) 0) 0 8) 3 4) 4 100) 5 1000) 6 2000) 7 50))) H := hP
    have hD : va_D A (refW cs a (fun _ => 0) (zU (fun _ _ => 0) 0 (upd (upd (upd (upd (upd (upd ((fun _ _ => 0) 0) 0 8) 3 4) 4 100) 5 1000) 6 2000) 7 50))) := hD
    refine lv_aload_n hx hb dX8_init_105 rfl (lv_at hl 0 rfl) ?_
    refine va_get (D := D) (ci := 8) (v := .ref (a 1)) (C := RX8) (T := TX8) (N := 13) hx hb hts wsI_X8 hown hK hP 0 rfl rfl 0 (by decide) (hts _ w_fl_X8_7) (fun _ h9 => h9) rfl dX8_init_106 ?_
    refine lv_bipush (v := 12) hx hb dX8_init_109 (by decide) ?_
    refine lv_sipush (v := 1000) hx hb dX8_init_111 (by decide) ?_
    refine z_iast (k := 12) hx hb hK hP hD hS 1 rfl (by decide) (by first | decide | omega) dX8_init_114 (fun H locs hP hD hS => ?_)
    have hP : va_P D vwCl (refW cs a (fun _ => 0) (zU (fun _ _ => 0) 0 (upd (upd (upd (upd (upd (upd (upd ((fun _ _ => 0) 0) 0 8) 3 4) 4 100) 5 1000) 6 2000) 7 50) 12 1000))) H := hP
    have hD : va_D A (refW cs a (fun _ => 0) (zU (fun _ _ => 0) 0 (upd (upd (upd (upd (upd (upd (upd ((fun _ _ => 0) 0) 0 8) 3 4) 4 100) 5 1000) 6 2000) 7 50) 12 1000))) := hD
    refine lv_iconst (v := 0) hx hb dX8_init_115 (by decide) ?_
    refine lv_istore_n (lv' := [(1, .int 0), (0, .ref (a 0))]) hx hb dX8_init_116 rfl hl (by decide) rfl (fun ls hl => ?_)
    have lp117 : ∀ (k : Nat) (i : Nat), (i ≤ 5) → (6 ≤ i + k) → ∀ (H : Heap) (locs : List Loc) (ls : Array Slot), va_P D vwCl (refW cs a (fun _ => 0) (zU (fun _ _ => 0) 0 (c8N (upd (upd (upd (upd (upd (upd (upd ((fun _ _ => 0) 0) 0 8) 3 4) 4 100) 5 1000) 6 2000) 7 50) 12 1000) i))) H → va_D A (refW cs a (fun _ => 0) (zU (fun _ _ => 0) 0 (c8N (upd (upd (upd (upd (upd (upd (upd ((fun _ _ => 0) 0) 0 8) 3 4) 4 100) 5 1000) 6 2000) 7 50) 12 1000) i))) → va_S A s.heap H locs → lv_has ls 2 [(0, .ref (a 0)), (1, .int (nI i))] → W pq l eq ({ frames := 1, cells := 6, slots := 1067, locals := 21 } : Room) s mq ([.ref b] : List Value).toArray below meth cq H locs 6 1067 (MQ below (zQn D cs (fun wo => ∃ a : Nat → Nat, a 0 = b ∧ wo = refW cs a (fun _ => 0) (zU (fun _ _ => 0) 0 rF0)) A) ([.ref b] : List Value).toArray s 6 1067 A) (F0 mq 117 ls []) := by
      intro k
      induction k with
      | zero =>
        intro i hi1 hi2 H locs ls hP hD hS hl
        omega
      | succ k ih =>
        intro i hi1 hi2 H locs ls hP hD hS hl
        refine lv_iload_n hx hb dX8_init_117 rfl (lv_at hl 1 rfl) ?_
        refine lv_iconst (v := 5) hx hb dX8_init_118 (by decide) ?_
        refine lv_icmp_ge (tgt := 159) hx hb dX8_init_119 (by decide) (fun c_1 => ?_) (fun c_1 => ?_)
        · skip
          have ei := z_leK (n := 5) rfl (by omega) hi1 c_1
          subst ei
          refine lv_aload_n hx hb dX8_init_159 rfl (lv_at hl 0 rfl) ?_
          refine z_callV (wn := (refW cs a (fun _ => 0) (zU (fun _ _ => 0) 0 (emF (c8N (upd (upd (upd (upd (upd (upd (upd ((fun _ _ => 0) 0) 0 8) 3 4) 4 100) 5 1000) 6 2000) 7 50) 12 1000) 5))))) ⟨hx, hb, hml, hown, hts⟩ zY_X8_empties w_im_yX8_empties w_se_yX8_empties w_ml_X8_28 [] [] (c_X8_empties l D cs a (fun _ => 0) (zU (fun _ _ => 0) 0 (c8N (upd (upd (upd (upd (upd (upd (upd ((fun _ _ => 0) 0) 0 8) 3 4) 4 100) 5 1000) 6 2000) 7 50) 12 1000) 5))) hE hK hA hP hD hS [0, 1, 2, 3, 4, 5, 6] rfl rfl rfl rfl 8 rfl rfl rfl rfl hl.1 (Nat.le_of_ble_eq_true rfl) ⟨Nat.le_of_ble_eq_true rfl, Nat.le_of_ble_eq_true rfl⟩ ⟨Nat.le_of_ble_eq_true rfl, Nat.le_of_ble_eq_true rfl⟩ dX8_init_160 (fun H locs hP hD hS => ?_)
          exact z_nret (ws := (refW cs a (fun _ => 0) (zU (fun _ _ => 0) 0 (emF (c8N (upd (upd (upd (upd (upd (upd (upd ((fun _ _ => 0) 0) 0 8) 3 4) 4 100) 5 1000) 6 2000) 7 50) 12 1000) 5))))) (wo := (refW cs a (fun _ => 0) (zU (fun _ _ => 0) 0 (emF (c8N (upd (upd (upd (upd (upd (upd (upd ((fun _ _ => 0) 0) 0 8) 3 4) 4 100) 5 1000) 6 2000) 7 50) 12 1000) 5))))) hx hb hr hlk hK hP hD hS dX8_init_163 [0, 1, 2, 3, 4, 5, 6] rfl rfl rfl ⟨a, ha0, rfl⟩
        · skip
          have gi : i < 5 := z_geK (n := 5) rfl (by omega) hi1 c_1
          refine lv_aload_n hx hb dX8_init_122 rfl (lv_at hl 0 rfl) ?_
          refine va_get (D := D) (ci := 8) (v := .ref (a 1)) (C := RX8) (T := TX8) (N := 13) hx hb hts wsI_X8 hown hK hP 0 rfl rfl 0 (by decide) (hts _ w_fl_X8_7) (fun _ h9 => h9) rfl dX8_init_123 ?_
          refine lv_bipush (v := 21) hx hb dX8_init_126 (by decide) ?_
          refine lv_bipush (v := 6) hx hb dX8_init_128 (by decide) ?_
          refine lv_iload_n hx hb dX8_init_130 rfl (lv_at hl 1 rfl) ?_
          refine lv_imul hx hb dX8_init_131 ?_
          refine z_top (y := nI (6 * i)) (pk_mul 6 i) ?_
          refine lv_iadd hx hb dX8_init_132 ?_
          refine z_top (y := nI (21 + (6 * i))) (nI_add 21 (6 * i)) ?_
          refine lv_iconst (v := 1) hx hb dX8_init_133 (by decide) ?_
          refine lv_iadd hx hb dX8_init_134 ?_
          refine z_top (y := nI ((21 + (6 * i)) + 1)) (nI_add (21 + (6 * i)) 1) ?_
          refine lv_iconst (v := 2) hx hb dX8_init_135 (by decide) ?_
          refine z_iast (k := (21 + (6 * i)) + 1) hx hb hK hP hD hS 1 rfl (by omega) (by first | decide | omega) dX8_init_136 (fun H locs hP hD hS => ?_)
          have hP : va_P D vwCl (refW cs a (fun _ => 0) (zU (fun _ _ => 0) 0 (upd (c8N (upd (upd (upd (upd (upd (upd (upd ((fun _ _ => 0) 0) 0 8) 3 4) 4 100) 5 1000) 6 2000) 7 50) 12 1000) i) ((21 + (6 * i)) + 1) 2))) H := hP
          have hD : va_D A (refW cs a (fun _ => 0) (zU (fun _ _ => 0) 0 (upd (c8N (upd (upd (upd (upd (upd (upd (upd ((fun _ _ => 0) 0) 0 8) 3 4) 4 100) 5 1000) 6 2000) 7 50) 12 1000) i) ((21 + (6 * i)) + 1) 2))) := hD
          refine lv_aload_n hx hb dX8_init_137 rfl (lv_at hl 0 rfl) ?_
          refine va_get (D := D) (ci := 8) (v := .ref (a 1)) (C := RX8) (T := TX8) (N := 13) hx hb hts wsI_X8 hown hK hP 0 rfl rfl 0 (by decide) (hts _ w_fl_X8_7) (fun _ h9 => h9) rfl dX8_init_138 ?_
          refine lv_bipush (v := 21) hx hb dX8_init_141 (by decide) ?_
          refine lv_bipush (v := 6) hx hb dX8_init_143 (by decide) ?_
          refine lv_iload_n hx hb dX8_init_145 rfl (lv_at hl 1 rfl) ?_
          refine lv_imul hx hb dX8_init_146 ?_
          refine z_top (y := nI (6 * i)) (pk_mul 6 i) ?_
          refine lv_iadd hx hb dX8_init_147 ?_
          refine z_top (y := nI (21 + (6 * i))) (nI_add 21 (6 * i)) ?_
          refine lv_iconst (v := 2) hx hb dX8_init_148 (by decide) ?_
          refine lv_iadd hx hb dX8_init_149 ?_
          refine z_top (y := nI ((21 + (6 * i)) + 2)) (nI_add (21 + (6 * i)) 2) ?_
          refine lv_bipush (v := 20) hx hb dX8_init_150 (by decide) ?_
          refine z_iast (k := (21 + (6 * i)) + 2) hx hb hK hP hD hS 1 rfl (by omega) (by first | decide | omega) dX8_init_152 (fun H locs hP hD hS => ?_)
          have hP : va_P D vwCl (refW cs a (fun _ => 0) (zU (fun _ _ => 0) 0 (upd (upd (c8N (upd (upd (upd (upd (upd (upd (upd ((fun _ _ => 0) 0) 0 8) 3 4) 4 100) 5 1000) 6 2000) 7 50) 12 1000) i) ((21 + (6 * i)) + 1) 2) ((21 + (6 * i)) + 2) 20))) H := hP
          have hD : va_D A (refW cs a (fun _ => 0) (zU (fun _ _ => 0) 0 (upd (upd (c8N (upd (upd (upd (upd (upd (upd (upd ((fun _ _ => 0) 0) 0 8) 3 4) 4 100) 5 1000) 6 2000) 7 50) 12 1000) i) ((21 + (6 * i)) + 1) 2) ((21 + (6 * i)) + 2) 20))) := hD
          refine lv_iinc (v := nI (i + 1)) (lv' := [(1, .int (nI (i + 1))), (0, .ref (a 0))]) hx hb dX8_init_153 hl (k := 1) rfl (show nI i + Int32.ofInt 1 = nI (i + 1) from nI_add i 1) (by decide) rfl (fun ls hl => ?_)
          refine lv_goto (tgt := 117) hx hb dX8_init_156 (by decide) ?_
          exact ih (i + 1) (by omega) (by omega) _ _ _ hP hD hS (lv_sub hl [1, 0] rfl)
    exact lp117 6 0 (Nat.zero_le _) (by omega) _ _ _ hP hD hS (lv_sub hl [1, 0] rfl)
  refine lv_aload_n hx hb dX8_init_0 rfl (lv_at hl 0 rfl) ?_
  refine W.objInit hx hb hown (hts _ w_ml_X8_1) (hts _ w_im_objectInit) (hts _ w_co_objectInit) rfl (by rw [hml]; exact hl.1) rfl dX8_init_1 (Nat.le_of_ble_eq_true rfl) (Nat.le_of_ble_eq_true rfl) ?_
  refine W.eq (g2 := F0 mq 4 ls []) rfl ?_
  refine lv_aload_n hx hb dX8_init_4 rfl (lv_at hl 0 rfl) ?_
  refine lv_sipush (v := 159) hx hb dX8_init_5 (by decide) ?_
  refine z_newa (ws := [(b, .inr (8, [.null, .null, .null, .int 0, .int 0, .int 0, .int 0, .null, .null, .int 0, .int 0, .null, .int 0]))]) (N := 159) hx hb hts hK hP hD hS hA (by decide) (by decide) (by decide) (Nat.le_of_ble_eq_true rfl) (Nat.le_of_ble_eq_true rfl) dX8_init_8 (fun x1 H hP hD hS => ?_)
  have hP : va_P D vwCl [(b, .inr (8, [.null, .null, .null, .int 0, .int 0, .int 0, .int 0, .null, .null, .int 0, .int 0, .null, .int 0])), (x1, .inl (cs.1, 159, .inl (fun _ => 0)))] H := hP
  have hD : va_D A [(b, .inr (8, [.null, .null, .null, .int 0, .int 0, .int 0, .int 0, .null, .null, .int 0, .int 0, .null, .int 0])), (x1, .inl (cs.1, 159, .inl (fun _ => 0)))] := hD
  refine va_putF (ws := [(b, .inr (8, [.null, .null, .null, .int 0, .int 0, .int 0, .int 0, .null, .null, .int 0, .int 0, .null, .int 0])), (x1, .inl (cs.1, 159, .inl (fun _ => 0)))]) (D := D) (ci := 8) (v := .ref x1) (C := RX8) (T := TX8) (N := 13) hx hb hts wsI_X8 tyX8 tyX8_ok nmX8 hown hK hP hD hS 0 rfl rfl 0 (by decide) (hts _ w_fl_X8_7) (fun _ h9 => h9) rfl hnm rfl (tyX8_ok 0 (by decide)) rfl rfl (Nat.le_of_ble_eq_true rfl) dX8_init_10 (fun H locs hP hD hS => ?_)
  have hP : va_P D vwCl [(b, .inr (8, [.ref x1, .null, .null, .int 0, .int 0, .int 0, .int 0, .null, .null, .int 0, .int 0, .null, .int 0])), (x1, .inl (cs.1, 159, .inl (fun _ => 0)))] H := hP
  have hD : va_D A [(b, .inr (8, [.ref x1, .null, .null, .int 0, .int 0, .int 0, .int 0, .null, .null, .int 0, .int 0, .null, .int 0])), (x1, .inl (cs.1, 159, .inl (fun _ => 0)))] := hD
  refine lv_aload_n hx hb dX8_init_13 rfl (lv_at hl 0 rfl) ?_
  refine lv_sipush (v := 636) hx hb dX8_init_14 (by decide) ?_
  refine z_newa (ws := [(b, .inr (8, [.ref x1, .null, .null, .int 0, .int 0, .int 0, .int 0, .null, .null, .int 0, .int 0, .null, .int 0])), (x1, .inl (cs.1, 159, .inl (fun _ => 0)))]) (N := 636) hx hb hts hK hP hD hS hA (by decide) (by decide) (by decide) (Nat.le_of_ble_eq_true rfl) (Nat.le_of_ble_eq_true rfl) dX8_init_17 (fun x2 H hP hD hS => ?_)
  have hP : va_P D vwCl [(b, .inr (8, [.ref x1, .null, .null, .int 0, .int 0, .int 0, .int 0, .null, .null, .int 0, .int 0, .null, .int 0])), (x1, .inl (cs.1, 159, .inl (fun _ => 0))), (x2, .inl (cs.1, 636, .inl (fun _ => 0)))] H := hP
  have hD : va_D A [(b, .inr (8, [.ref x1, .null, .null, .int 0, .int 0, .int 0, .int 0, .null, .null, .int 0, .int 0, .null, .int 0])), (x1, .inl (cs.1, 159, .inl (fun _ => 0))), (x2, .inl (cs.1, 636, .inl (fun _ => 0)))] := hD
  refine va_putF (ws := [(b, .inr (8, [.ref x1, .null, .null, .int 0, .int 0, .int 0, .int 0, .null, .null, .int 0, .int 0, .null, .int 0])), (x1, .inl (cs.1, 159, .inl (fun _ => 0))), (x2, .inl (cs.1, 636, .inl (fun _ => 0)))]) (D := D) (ci := 8) (v := .ref x2) (C := RX8) (T := TX8) (N := 13) hx hb hts wsI_X8 tyX8 tyX8_ok nmX8 hown hK hP hD hS 0 rfl rfl 1 (by decide) (hts _ w_fl_X8_13) (fun _ h9 => h9) rfl hnm rfl (tyX8_ok 1 (by decide)) rfl rfl (Nat.le_of_ble_eq_true rfl) dX8_init_19 (fun H locs hP hD hS => ?_)
  have hP : va_P D vwCl [(b, .inr (8, [.ref x1, .ref x2, .null, .int 0, .int 0, .int 0, .int 0, .null, .null, .int 0, .int 0, .null, .int 0])), (x1, .inl (cs.1, 159, .inl (fun _ => 0))), (x2, .inl (cs.1, 636, .inl (fun _ => 0)))] H := hP
  have hD : va_D A [(b, .inr (8, [.ref x1, .ref x2, .null, .int 0, .int 0, .int 0, .int 0, .null, .null, .int 0, .int 0, .null, .int 0])), (x1, .inl (cs.1, 159, .inl (fun _ => 0))), (x2, .inl (cs.1, 636, .inl (fun _ => 0)))] := hD
  refine lv_aload_n hx hb dX8_init_22 rfl (lv_at hl 0 rfl) ?_
  refine lv_sipush (v := 159) hx hb dX8_init_23 (by decide) ?_
  refine z_newa (ws := [(b, .inr (8, [.ref x1, .ref x2, .null, .int 0, .int 0, .int 0, .int 0, .null, .null, .int 0, .int 0, .null, .int 0])), (x1, .inl (cs.1, 159, .inl (fun _ => 0))), (x2, .inl (cs.1, 636, .inl (fun _ => 0)))]) (N := 159) hx hb hts hK hP hD hS hA (by decide) (by decide) (by decide) (Nat.le_of_ble_eq_true rfl) (Nat.le_of_ble_eq_true rfl) dX8_init_26 (fun x3 H hP hD hS => ?_)
  have hP : va_P D vwCl [(b, .inr (8, [.ref x1, .ref x2, .null, .int 0, .int 0, .int 0, .int 0, .null, .null, .int 0, .int 0, .null, .int 0])), (x1, .inl (cs.1, 159, .inl (fun _ => 0))), (x2, .inl (cs.1, 636, .inl (fun _ => 0))), (x3, .inl (cs.1, 159, .inl (fun _ => 0)))] H := hP
  have hD : va_D A [(b, .inr (8, [.ref x1, .ref x2, .null, .int 0, .int 0, .int 0, .int 0, .null, .null, .int 0, .int 0, .null, .int 0])), (x1, .inl (cs.1, 159, .inl (fun _ => 0))), (x2, .inl (cs.1, 636, .inl (fun _ => 0))), (x3, .inl (cs.1, 159, .inl (fun _ => 0)))] := hD
  refine va_putF (ws := [(b, .inr (8, [.ref x1, .ref x2, .null, .int 0, .int 0, .int 0, .int 0, .null, .null, .int 0, .int 0, .null, .int 0])), (x1, .inl (cs.1, 159, .inl (fun _ => 0))), (x2, .inl (cs.1, 636, .inl (fun _ => 0))), (x3, .inl (cs.1, 159, .inl (fun _ => 0)))]) (D := D) (ci := 8) (v := .ref x3) (C := RX8) (T := TX8) (N := 13) hx hb hts wsI_X8 tyX8 tyX8_ok nmX8 hown hK hP hD hS 0 rfl rfl 2 (by decide) (hts _ w_fl_X8_16) (fun _ h9 => h9) rfl hnm rfl (tyX8_ok 2 (by decide)) rfl rfl (Nat.le_of_ble_eq_true rfl) dX8_init_28 (fun H locs hP hD hS => ?_)
  have hP : va_P D vwCl [(b, .inr (8, [.ref x1, .ref x2, .ref x3, .int 0, .int 0, .int 0, .int 0, .null, .null, .int 0, .int 0, .null, .int 0])), (x1, .inl (cs.1, 159, .inl (fun _ => 0))), (x2, .inl (cs.1, 636, .inl (fun _ => 0))), (x3, .inl (cs.1, 159, .inl (fun _ => 0)))] H := hP
  have hD : va_D A [(b, .inr (8, [.ref x1, .ref x2, .ref x3, .int 0, .int 0, .int 0, .int 0, .null, .null, .int 0, .int 0, .null, .int 0])), (x1, .inl (cs.1, 159, .inl (fun _ => 0))), (x2, .inl (cs.1, 636, .inl (fun _ => 0))), (x3, .inl (cs.1, 159, .inl (fun _ => 0)))] := hD
  refine lv_aload_n hx hb dX8_init_31 rfl (lv_at hl 0 rfl) ?_
  refine lv_bipush (v := 8) hx hb dX8_init_32 (by decide) ?_
  refine z_newa (ws := [(b, .inr (8, [.ref x1, .ref x2, .ref x3, .int 0, .int 0, .int 0, .int 0, .null, .null, .int 0, .int 0, .null, .int 0])), (x1, .inl (cs.1, 159, .inl (fun _ => 0))), (x2, .inl (cs.1, 636, .inl (fun _ => 0))), (x3, .inl (cs.1, 159, .inl (fun _ => 0)))]) (N := 8) hx hb hts hK hP hD hS hA (by decide) (by decide) (by decide) (Nat.le_of_ble_eq_true rfl) (Nat.le_of_ble_eq_true rfl) dX8_init_34 (fun x4 H hP hD hS => ?_)
  have hP : va_P D vwCl [(b, .inr (8, [.ref x1, .ref x2, .ref x3, .int 0, .int 0, .int 0, .int 0, .null, .null, .int 0, .int 0, .null, .int 0])), (x1, .inl (cs.1, 159, .inl (fun _ => 0))), (x2, .inl (cs.1, 636, .inl (fun _ => 0))), (x3, .inl (cs.1, 159, .inl (fun _ => 0))), (x4, .inl (cs.1, 8, .inl (fun _ => 0)))] H := hP
  have hD : va_D A [(b, .inr (8, [.ref x1, .ref x2, .ref x3, .int 0, .int 0, .int 0, .int 0, .null, .null, .int 0, .int 0, .null, .int 0])), (x1, .inl (cs.1, 159, .inl (fun _ => 0))), (x2, .inl (cs.1, 636, .inl (fun _ => 0))), (x3, .inl (cs.1, 159, .inl (fun _ => 0))), (x4, .inl (cs.1, 8, .inl (fun _ => 0)))] := hD
  refine va_putF (ws := [(b, .inr (8, [.ref x1, .ref x2, .ref x3, .int 0, .int 0, .int 0, .int 0, .null, .null, .int 0, .int 0, .null, .int 0])), (x1, .inl (cs.1, 159, .inl (fun _ => 0))), (x2, .inl (cs.1, 636, .inl (fun _ => 0))), (x3, .inl (cs.1, 159, .inl (fun _ => 0))), (x4, .inl (cs.1, 8, .inl (fun _ => 0)))]) (D := D) (ci := 8) (v := .ref x4) (C := RX8) (T := TX8) (N := 13) hx hb hts wsI_X8 tyX8 tyX8_ok nmX8 hown hK hP hD hS 0 rfl rfl 7 (by decide) (hts _ w_fl_X8_19) (fun _ h9 => h9) rfl hnm rfl (tyX8_ok 7 (by decide)) rfl rfl (Nat.le_of_ble_eq_true rfl) dX8_init_36 (fun H locs hP hD hS => ?_)
  have hP : va_P D vwCl [(b, .inr (8, [.ref x1, .ref x2, .ref x3, .int 0, .int 0, .int 0, .int 0, .ref x4, .null, .int 0, .int 0, .null, .int 0])), (x1, .inl (cs.1, 159, .inl (fun _ => 0))), (x2, .inl (cs.1, 636, .inl (fun _ => 0))), (x3, .inl (cs.1, 159, .inl (fun _ => 0))), (x4, .inl (cs.1, 8, .inl (fun _ => 0)))] H := hP
  have hD : va_D A [(b, .inr (8, [.ref x1, .ref x2, .ref x3, .int 0, .int 0, .int 0, .int 0, .ref x4, .null, .int 0, .int 0, .null, .int 0])), (x1, .inl (cs.1, 159, .inl (fun _ => 0))), (x2, .inl (cs.1, 636, .inl (fun _ => 0))), (x3, .inl (cs.1, 159, .inl (fun _ => 0))), (x4, .inl (cs.1, 8, .inl (fun _ => 0)))] := hD
  refine lv_aload_n hx hb dX8_init_39 rfl (lv_at hl 0 rfl) ?_
  refine lv_bipush (v := 100) hx hb dX8_init_40 (by decide) ?_
  refine z_newa (ws := [(b, .inr (8, [.ref x1, .ref x2, .ref x3, .int 0, .int 0, .int 0, .int 0, .ref x4, .null, .int 0, .int 0, .null, .int 0])), (x1, .inl (cs.1, 159, .inl (fun _ => 0))), (x2, .inl (cs.1, 636, .inl (fun _ => 0))), (x3, .inl (cs.1, 159, .inl (fun _ => 0))), (x4, .inl (cs.1, 8, .inl (fun _ => 0)))]) (N := 100) hx hb hts hK hP hD hS hA (by decide) (by decide) (by decide) (Nat.le_of_ble_eq_true rfl) (Nat.le_of_ble_eq_true rfl) dX8_init_42 (fun x5 H hP hD hS => ?_)
  have hP : va_P D vwCl [(b, .inr (8, [.ref x1, .ref x2, .ref x3, .int 0, .int 0, .int 0, .int 0, .ref x4, .null, .int 0, .int 0, .null, .int 0])), (x1, .inl (cs.1, 159, .inl (fun _ => 0))), (x2, .inl (cs.1, 636, .inl (fun _ => 0))), (x3, .inl (cs.1, 159, .inl (fun _ => 0))), (x4, .inl (cs.1, 8, .inl (fun _ => 0))), (x5, .inl (cs.1, 100, .inl (fun _ => 0)))] H := hP
  have hD : va_D A [(b, .inr (8, [.ref x1, .ref x2, .ref x3, .int 0, .int 0, .int 0, .int 0, .ref x4, .null, .int 0, .int 0, .null, .int 0])), (x1, .inl (cs.1, 159, .inl (fun _ => 0))), (x2, .inl (cs.1, 636, .inl (fun _ => 0))), (x3, .inl (cs.1, 159, .inl (fun _ => 0))), (x4, .inl (cs.1, 8, .inl (fun _ => 0))), (x5, .inl (cs.1, 100, .inl (fun _ => 0)))] := hD
  refine va_putF (ws := [(b, .inr (8, [.ref x1, .ref x2, .ref x3, .int 0, .int 0, .int 0, .int 0, .ref x4, .null, .int 0, .int 0, .null, .int 0])), (x1, .inl (cs.1, 159, .inl (fun _ => 0))), (x2, .inl (cs.1, 636, .inl (fun _ => 0))), (x3, .inl (cs.1, 159, .inl (fun _ => 0))), (x4, .inl (cs.1, 8, .inl (fun _ => 0))), (x5, .inl (cs.1, 100, .inl (fun _ => 0)))]) (D := D) (ci := 8) (v := .ref x5) (C := RX8) (T := TX8) (N := 13) hx hb hts wsI_X8 tyX8 tyX8_ok nmX8 hown hK hP hD hS 0 rfl rfl 8 (by decide) (hts _ w_fl_X8_22) (fun _ h9 => h9) rfl hnm rfl (tyX8_ok 8 (by decide)) rfl rfl (Nat.le_of_ble_eq_true rfl) dX8_init_44 (fun H locs hP hD hS => ?_)
  have hP : va_P D vwCl [(b, .inr (8, [.ref x1, .ref x2, .ref x3, .int 0, .int 0, .int 0, .int 0, .ref x4, .ref x5, .int 0, .int 0, .null, .int 0])), (x1, .inl (cs.1, 159, .inl (fun _ => 0))), (x2, .inl (cs.1, 636, .inl (fun _ => 0))), (x3, .inl (cs.1, 159, .inl (fun _ => 0))), (x4, .inl (cs.1, 8, .inl (fun _ => 0))), (x5, .inl (cs.1, 100, .inl (fun _ => 0)))] H := hP
  have hD : va_D A [(b, .inr (8, [.ref x1, .ref x2, .ref x3, .int 0, .int 0, .int 0, .int 0, .ref x4, .ref x5, .int 0, .int 0, .null, .int 0])), (x1, .inl (cs.1, 159, .inl (fun _ => 0))), (x2, .inl (cs.1, 636, .inl (fun _ => 0))), (x3, .inl (cs.1, 159, .inl (fun _ => 0))), (x4, .inl (cs.1, 8, .inl (fun _ => 0))), (x5, .inl (cs.1, 100, .inl (fun _ => 0)))] := hD
  refine lv_aload_n hx hb dX8_init_47 rfl (lv_at hl 0 rfl) ?_
  refine lv_iconst (v := 5) hx hb dX8_init_48 (by decide) ?_
  refine z_newa (ws := [(b, .inr (8, [.ref x1, .ref x2, .ref x3, .int 0, .int 0, .int 0, .int 0, .ref x4, .ref x5, .int 0, .int 0, .null, .int 0])), (x1, .inl (cs.1, 159, .inl (fun _ => 0))), (x2, .inl (cs.1, 636, .inl (fun _ => 0))), (x3, .inl (cs.1, 159, .inl (fun _ => 0))), (x4, .inl (cs.1, 8, .inl (fun _ => 0))), (x5, .inl (cs.1, 100, .inl (fun _ => 0)))]) (N := 5) hx hb hts hK hP hD hS hA (by decide) (by decide) (by decide) (Nat.le_of_ble_eq_true rfl) (Nat.le_of_ble_eq_true rfl) dX8_init_49 (fun x6 H hP hD hS => ?_)
  have hP : va_P D vwCl [(b, .inr (8, [.ref x1, .ref x2, .ref x3, .int 0, .int 0, .int 0, .int 0, .ref x4, .ref x5, .int 0, .int 0, .null, .int 0])), (x1, .inl (cs.1, 159, .inl (fun _ => 0))), (x2, .inl (cs.1, 636, .inl (fun _ => 0))), (x3, .inl (cs.1, 159, .inl (fun _ => 0))), (x4, .inl (cs.1, 8, .inl (fun _ => 0))), (x5, .inl (cs.1, 100, .inl (fun _ => 0))), (x6, .inl (cs.1, 5, .inl (fun _ => 0)))] H := hP
  have hD : va_D A [(b, .inr (8, [.ref x1, .ref x2, .ref x3, .int 0, .int 0, .int 0, .int 0, .ref x4, .ref x5, .int 0, .int 0, .null, .int 0])), (x1, .inl (cs.1, 159, .inl (fun _ => 0))), (x2, .inl (cs.1, 636, .inl (fun _ => 0))), (x3, .inl (cs.1, 159, .inl (fun _ => 0))), (x4, .inl (cs.1, 8, .inl (fun _ => 0))), (x5, .inl (cs.1, 100, .inl (fun _ => 0))), (x6, .inl (cs.1, 5, .inl (fun _ => 0)))] := hD
  refine va_putF (ws := [(b, .inr (8, [.ref x1, .ref x2, .ref x3, .int 0, .int 0, .int 0, .int 0, .ref x4, .ref x5, .int 0, .int 0, .null, .int 0])), (x1, .inl (cs.1, 159, .inl (fun _ => 0))), (x2, .inl (cs.1, 636, .inl (fun _ => 0))), (x3, .inl (cs.1, 159, .inl (fun _ => 0))), (x4, .inl (cs.1, 8, .inl (fun _ => 0))), (x5, .inl (cs.1, 100, .inl (fun _ => 0))), (x6, .inl (cs.1, 5, .inl (fun _ => 0)))]) (D := D) (ci := 8) (v := .ref x6) (C := RX8) (T := TX8) (N := 13) hx hb hts wsI_X8 tyX8 tyX8_ok nmX8 hown hK hP hD hS 0 rfl rfl 11 (by decide) (hts _ w_fl_X8_25) (fun _ h9 => h9) rfl hnm rfl (tyX8_ok 11 (by decide)) rfl rfl (Nat.le_of_ble_eq_true rfl) dX8_init_51 (fun H locs hP hD hS => ?_)
  have hP : va_P D vwCl [(b, .inr (8, [.ref x1, .ref x2, .ref x3, .int 0, .int 0, .int 0, .int 0, .ref x4, .ref x5, .int 0, .int 0, .ref x6, .int 0])), (x1, .inl (cs.1, 159, .inl (fun _ => 0))), (x2, .inl (cs.1, 636, .inl (fun _ => 0))), (x3, .inl (cs.1, 159, .inl (fun _ => 0))), (x4, .inl (cs.1, 8, .inl (fun _ => 0))), (x5, .inl (cs.1, 100, .inl (fun _ => 0))), (x6, .inl (cs.1, 5, .inl (fun _ => 0)))] H := hP
  have hD : va_D A [(b, .inr (8, [.ref x1, .ref x2, .ref x3, .int 0, .int 0, .int 0, .int 0, .ref x4, .ref x5, .int 0, .int 0, .ref x6, .int 0])), (x1, .inl (cs.1, 159, .inl (fun _ => 0))), (x2, .inl (cs.1, 636, .inl (fun _ => 0))), (x3, .inl (cs.1, 159, .inl (fun _ => 0))), (x4, .inl (cs.1, 8, .inl (fun _ => 0))), (x5, .inl (cs.1, 100, .inl (fun _ => 0))), (x6, .inl (cs.1, 5, .inl (fun _ => 0)))] := hD
  exact tail (fun k => if k = 0 then b else if k = 1 then x1 else if k = 2 then x2 else if k = 3 then x3 else if k = 4 then x4 else if k = 5 then x5 else x6) _ _ _ hP hD hS hl rfl
