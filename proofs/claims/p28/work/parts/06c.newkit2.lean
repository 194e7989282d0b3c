section ZN2
variable {p : Program} {l : Launch} {e : Env} {R : Room} {s : State} {m : MethodId} {args : Array Value} {below : List Frame} {meth : Method} {c : Code} {H : Heap} {locs : List Loc} {cells slots : Nat} {Q : State → Prop}
variable {pc : Nat} {ls : Array Slot} {A : Nat → Prop} {D : va_G} {cs : zCs} {ws : va_W} {cc : ByteArray} {index : Nat} {rest : List Value}
/-- a new array of machines -/
theorem z_newq (hx : p.tables.exec = Jvm.exec) (hb : c.code = cc) {own : String} (hown : s.vm.findClass own = some m.cls) (hcl : (Cond.classLink own index RX5).before args s = true) (hE : zE A s) (hK : va_K D vwCl (zT cs) s) (hP : va_P D vwCl ws H) (hD : va_D A ws) (hS : va_S A s.heap H locs) (hA : ∀ x : Nat, s.heap.size ≤ x → A x)
    {n : Int32} {N : Nat} (hn : ¬ n < 0) (hN : n.toNatClampNeg = N) (hB : N * 4 ≤ 536870912) (hcells : cells + 1 ≤ R.cells) (hslots : slots + N ≤ R.slots) (hdg : decode cc pc = .ok (.anewarray index, 3))
    (kk : ∀ (x : Nat) (H1 : Heap), va_P D vwCl (ws ++ [(x, .inl (cs.2.2, N, .inr (.inr (.inr (.inr (fun _ => none))))))]) H1 → va_D A (ws ++ [(x, .inl (cs.2.2, N, .inr (.inr (.inr (.inr (fun _ => none))))))]) → va_S A s.heap H1 locs →
      W p l e R s m args below meth c H1 locs (cells + 1) (slots + N) Q (F0 m (pc + 3) ls (.ref x :: rest))) : W p l e R s m args below meth c H locs cells slots Q (F0 m pc ls (.int n :: rest)) := by
  refine va_newq hx hb hown hcl hE.2.2.2.2.1 hK hP hD hS hA hn hN hB hcells hslots hdg (fun x cA H1 hK1 hP1 hD1 hS1 => ?_)
  obtain ⟨_, _, _, _, _, h1⟩ := (hK.2 2 (cs.2.2, .object RX5) rfl).2
  obtain ⟨_, _, _, _, _, h2⟩ := (hK1.2 3 (cA, .object RX5) rfl).2
  rw [h1] at h2
  cases h2
  exact kk x H1 hP1 hD1 hS1
theorem z_extq {w1 w2 : va_W} {a : Nat} {cA : ClassId} {k : Nat} {f g : Nat → Option Nat} (h : ∀ j : Nat, j < k → f j = g j) (hP : va_P D vwCl (w1 ++ (a, .inl (cA, k, .inr (.inr (.inr (.inr f))))) :: w2) H) : va_P D vwCl (w1 ++ (a, .inl (cA, k, .inr (.inr (.inr (.inr g))))) :: w2) H := by
  have hc : vp_cell cA (k, .inr (.inr (.inr (.inr f)))) = vp_cell cA (k, .inr (.inr (.inr (.inr g)))) := by
    rw [vp_cell_q, vp_cell_q]
    unfold arrV
    congr 1
    apply Array.ext
    · simp
    · intro i h1 h2
      simp at h1 h2 ⊢
      rw [h i h1]
  intro i q hq
  by_cases hi : i < w1.length
  · rw [List.getElem?_append_left hi] at hq
    exact hP i q (by rw [List.getElem?_append_left hi]; exact hq)
  · have hi := Nat.le_of_not_lt hi
    rw [List.getElem?_append_right hi] at hq
    have h2 := fun q => hP i q
    rw [List.getElem?_append_right hi] at h2
    cases hz : i - w1.length with
    | zero =>
      rw [hz] at hq h2
      cases hq
      have := h2 _ rfl
      show H[a]? = some (vp_cell cA (k, .inr (.inr (.inr (.inr g)))))
      rw [← hc]
      exact this
    | succ z =>
      rw [hz, List.getElem?_cons_succ] at hq h2
      exact h2 q hq
end ZN2
