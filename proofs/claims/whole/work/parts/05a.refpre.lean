/-! rows for the reference -/
theorem lg_lt {x y : Int64} : lg_cmp x y < 0 ↔ x < y := by
  unfold lg_cmp
  by_cases h1 : y < x
  · rw [if_pos h1]
    exact ⟨fun h => absurd h (by decide), fun h => absurd h (fun q => by have a := Int64.lt_iff_toInt_lt.mp q; have b := Int64.lt_iff_toInt_lt.mp h1; omega)⟩
  · rw [if_neg h1]
    by_cases h2 : x = y
    · rw [if_pos h2]
      exact ⟨fun h => absurd h (by decide), fun h => by subst h2; exact absurd h h1⟩
    · rw [if_neg h2]
      refine ⟨fun _ => ?_, fun _ => by decide⟩
      have a : ¬ y.toInt < x.toInt := fun q => h1 (Int64.lt_iff_toInt_lt.mpr q)
      have b : ¬ x.toInt = y.toInt := fun q => h2 (Int64.toInt_inj.mp q)
      exact Int64.lt_iff_toInt_lt.mpr (by omega)
theorem lg_gt {x y : Int64} : 0 < lg_cmp x y ↔ y < x := by
  unfold lg_cmp
  by_cases h1 : y < x
  · rw [if_pos h1]
    exact ⟨fun _ => h1, fun _ => by decide⟩
  · rw [if_neg h1]
    by_cases h2 : x = y
    · rw [if_pos h2]
      exact ⟨fun h => absurd h (by decide), fun h => absurd h h1⟩
    · rw [if_neg h2]
      exact ⟨fun h => absurd h (by decide), fun h => absurd h h1⟩
theorem lg_eq {x y : Int64} : lg_cmp x y = 0 ↔ x = y := by
  unfold lg_cmp
  by_cases h1 : y < x
  · rw [if_pos h1]
    exact ⟨fun h => absurd h (by decide), fun h => by subst h; exact absurd (Int64.lt_iff_toInt_lt.mp h1) (Int.lt_irrefl _)⟩
  · rw [if_neg h1]
    by_cases h2 : x = y
    · rw [if_pos h2]
      exact ⟨fun _ => h2, fun _ => rfl⟩
    · rw [if_neg h2]
      exact ⟨fun h => absurd h (by decide), fun h => absurd h h2⟩
section ZR
variable {p : Program} {l : Launch} {e : Env} {R : Room} {s : State} {m : MethodId} {args : Array Value} {below : List Frame} {meth : Method} {c : Code} {H : Heap} {locs : List Loc} {cells slots : Nat} {Q : State → Prop}
variable {pc : Nat} {ls : Array Slot} {cc : ByteArray} {rest : List Value} {x y : Int64} {off : Int} {tgt : Nat}
theorem z_lcmp_lt (hx : p.tables.exec = Jvm.exec) (hb : c.code = cc) (d1 : decode cc pc = .ok (.lcmp, 1)) (d2 : decode cc (pc + 1) = .ok (.ifCond .lt off, 3)) (ht : ((pc + 1 : Nat) : Int) + off = (tgt : Int))
    (kt : x < y → W p l e R s m args below meth c H locs cells slots Q (F0 m tgt ls rest)) (kf : ¬ x < y → W p l e R s m args below meth c H locs cells slots Q (F0 m (pc + 1 + 3) ls rest)) : W p l e R s m args below meth c H locs cells slots Q (F0 m pc ls (.long y :: .long x :: rest)) :=
  W.lcmp hx hb d1 (lv_if_lt hx hb d2 ht (fun h => kt (lg_lt.mp h)) (fun h => kf (fun q => h (lg_lt.mpr q))))
theorem z_lcmp_gt (hx : p.tables.exec = Jvm.exec) (hb : c.code = cc) (d1 : decode cc pc = .ok (.lcmp, 1)) (d2 : decode cc (pc + 1) = .ok (.ifCond .gt off, 3)) (ht : ((pc + 1 : Nat) : Int) + off = (tgt : Int))
    (kt : y < x → W p l e R s m args below meth c H locs cells slots Q (F0 m tgt ls rest)) (kf : ¬ y < x → W p l e R s m args below meth c H locs cells slots Q (F0 m (pc + 1 + 3) ls rest)) : W p l e R s m args below meth c H locs cells slots Q (F0 m pc ls (.long y :: .long x :: rest)) :=
  W.lcmp hx hb d1 (lv_if_gt hx hb d2 ht (fun h => kt (lg_gt.mp h)) (fun h => kf (fun q => h (lg_gt.mpr q))))
theorem z_lcmp_eq (hx : p.tables.exec = Jvm.exec) (hb : c.code = cc) (d1 : decode cc pc = .ok (.lcmp, 1)) (d2 : decode cc (pc + 1) = .ok (.ifCond .eq off, 3)) (ht : ((pc + 1 : Nat) : Int) + off = (tgt : Int))
    (kt : x = y → W p l e R s m args below meth c H locs cells slots Q (F0 m tgt ls rest)) (kf : ¬ x = y → W p l e R s m args below meth c H locs cells slots Q (F0 m (pc + 1 + 3) ls rest)) : W p l e R s m args below meth c H locs cells slots Q (F0 m pc ls (.long y :: .long x :: rest)) :=
  W.lcmp hx hb d1 (lv_if_eq hx hb d2 ht (fun h => kt (lg_eq.mp h)) (fun h => kf (fun q => h (lg_eq.mpr q))))
end ZR
theorem in64 {x lo hi : Int32} {a b : Int64} (ha : a = lo.toInt64) (hb : b = hi.toInt64) : (a ≤ x.toInt64 ∧ x.toInt64 ≤ b) ↔ (lo ≤ x ∧ x ≤ hi) := by
  subst ha; subst hb
  simp only [Int64.le_iff_toInt_le, Int32.le_iff_toInt_le, Int32.toInt_toInt64]
theorem ex_upd {f : Nat → Int32} {i k : Nat} {v : Int32} (h : ¬ i = k) : upd f k v i = f i := if_neg h
/-- what the reference's own reads rest on -/
def rOK (f : Nat → Int32) : Prop := (∃ n, (2 ≤ n ∧ n ≤ 16) ∧ f 0 = nI n) ∧ (∃ a, a < 16 ∧ f 1 = nI a) ∧ (∃ g, g ≤ 4 ∧ f 8 = nI g ∧ ∀ j, j < g → ∃ o, o < 5 ∧ f (51 + 3 * j + 1) = nI o) ∧ (∀ c, c < 5 → ¬ f (21 + 6 * c + 1) = 0)
theorem rOK_upd {f : Nat → Int32} {k : Nat} {v : Int32} (h : rOK f) (h0 : k ≠ 0) (h1 : k ≠ 1) (h8 : k ≠ 8) (hg : ∀ j, j < 4 → k ≠ 51 + 3 * j + 1) (hc : ∀ c, c < 5 → k ≠ 21 + 6 * c + 1) : rOK (upd f k v) := by
  obtain ⟨⟨n, hn, en⟩, ⟨a, ha, ea⟩, ⟨g, hg4, eg, ho⟩, hz⟩ := h
  refine ⟨⟨n, hn, (ex_upd (Ne.symm h0)).trans en⟩, ⟨a, ha, (ex_upd (Ne.symm h1)).trans ea⟩, ⟨g, hg4, (ex_upd (Ne.symm h8)).trans eg, fun j hj => ?_⟩, fun c hc5 => ?_⟩
  · obtain ⟨o, ho5, eo⟩ := ho j hj
    exact ⟨o, ho5, (ex_upd (Ne.symm (hg j (by omega)))).trans eo⟩
  · rw [ex_upd (Ne.symm (hc c hc5))]
    exact hz c hc5
