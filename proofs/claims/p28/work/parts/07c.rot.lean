/-! two drums, one turned against the other -/
def rotN (b a : Nat) : Nat := Nat.land (Nat.lor (Nat.shiftLeft a b) (Nat.shiftRight a (Nat.sub 8 b))) 255
def rPut (a s : Nat) : Nat := Nat.lor a (Nat.shiftLeft 1 s)
def rTak (a s : Nat) : Nat := Nat.land a (Nat.sub 4294967295 (Nat.shiftLeft 1 s))
def rBit (a s : Nat) : Nat := Nat.land (Nat.shiftRight a s) 1
def rStp (b s : Nat) : Nat := Nat.mod (Nat.add s b) 8
def jNN (a : Nat) : Nat := Nat.land (Nat.add (Nat.add (Nat.land (Nat.add (Nat.add (Nat.land (Nat.sub a (Nat.land (Nat.shiftRight a 1) 1431655765)) 858993459) (Nat.land (Nat.shiftRight (Nat.sub a (Nat.land (Nat.shiftRight a 1) 1431655765)) 2) 858993459)) 0) 4294967295) 0) 0) 4294967295
def rck (b a : Nat) : Bool := frc (rotN b a) fun r => cond (Nat.ble r 255) (cond (frc (Nat.sub a (Nat.land (Nat.shiftRight a 1) 1431655765)) fun x1 => frc (Nat.sub r (Nat.land (Nat.shiftRight r 1) 1431655765)) fun y1 => frc (Nat.add (Nat.land x1 858993459) (Nat.land (Nat.shiftRight x1 2) 858993459)) fun x2 => frc (Nat.add (Nat.land y1 858993459) (Nat.land (Nat.shiftRight y1 2) 858993459)) fun y2 => Nat.beq (Nat.land (Nat.add x2 (Nat.shiftRight x2 4)) 252645135) (Nat.land (Nat.add y2 (Nat.shiftRight y2 4)) 252645135)) (jall 8 fun s => frc (rStp b s) fun s' => cond (Nat.beq (rBit r s') (rBit a s)) (cond (Nat.beq (rotN b (rPut a s)) (rPut r s')) (cond (Nat.beq (rotN b (rTak a s)) (rTak r s')) (cond (Nat.ble (rPut a s) 255) (Nat.ble (rTak a s) 255) false) false) false) false) false) false
theorem rcheck : jall 8 (fun b => jall 256 (fun a => rck b a)) = true := by decide +kernel
theorem cond_t {a b : Bool} (h : cond a b false = true) : a = true ∧ b = true := by
  cases a with
  | false => exact absurd (show false = true from h) (by decide)
  | true => exact ⟨rfl, h⟩
theorem rck_e {b a : Nat} (hb : b < 8) (ha : a < 256) : rotN b a < 256 ∧ jN (rotN b a) = jN a ∧ ∀ s, s < 8 → nB (rotN b a) ((s + b) % 8) = nB a s ∧ rotN b (rPut a s) = rPut (rotN b a) ((s + b) % 8) ∧ rotN b (rTak a s) = rTak (rotN b a) ((s + b) % 8) ∧ rPut a s < 256 ∧ rTak a s < 256 := by
  have h := jall_e 256 (jall_e 8 rcheck b hb) a ha
  unfold rck at h
  rw [frc_e] at h
  obtain ⟨h1, h⟩ := cond_t h
  obtain ⟨h2, h⟩ := cond_t h
  refine ⟨by have := Nat.le_of_ble_eq_true h1; omega, ?_, fun s hs => ?_⟩
  · rw [frc_e, frc_e, frc_e, frc_e] at h2
    have h3 := Nat.eq_of_beq_eq_true h2
    show jN5 (jN4 (jN3 (jN2 (jN1 (rotN b a))))) &&& 63 = jN5 (jN4 (jN3 (jN2 (jN1 a)))) &&& 63
    have h4 : jN3 (jN2 (jN1 a)) = jN3 (jN2 (jN1 (rotN b a))) := h3
    rw [h4]
  · have h3 := jall_e 8 h s hs
    rw [frc_e] at h3
    obtain ⟨k1, h3⟩ := cond_t h3
    obtain ⟨k2, h3⟩ := cond_t h3
    obtain ⟨k3, h3⟩ := cond_t h3
    obtain ⟨k4, k5⟩ := cond_t h3
    exact ⟨Nat.eq_of_beq_eq_true k1, Nat.eq_of_beq_eq_true k2, Nat.eq_of_beq_eq_true k3, by have := Nat.le_of_ble_eq_true k4; omega, by have := Nat.le_of_ble_eq_true k5; omega⟩
theorem put_bt : ∀ s : Nat, s < 8 → (((1 : Int32) <<< (nI s &&& 31)) ^^^ (-1)).toBitVec.toNat = Nat.sub 4294967295 (Nat.shiftLeft 1 s) := by decide
theorem put_bs : ∀ s : Nat, s < 8 → 2 ^ s = Nat.shiftLeft 1 s := by decide
theorem put_e {a s : Nat} (ha : a < 256) (hs : s < 8) (th : Int32) : camPut (nI a) (nI s) th = nI (if th = 0 then rTak a s else rPut a s) := by
  unfold camPut
  by_cases h : th = 0
  · rw [if_pos h, if_pos h, b_and _ _ (by omega), put_bt s hs]; rfl
  · rw [if_neg h, if_neg h, b_sh s (by omega), b_or, put_bs s hs]; rfl
def rot (b : Nat) (p q : zP) : Prop :=
  ((∀ k, ¬ k = 1 → ¬ k = 10 → q.1 k = p.1 k) ∧ (∀ r, ¬ r = 0 → ¬ r = 10 → ¬ r = 11 → q.2 r = p.2 r)) ∧
  (p.1 0 = 8 ∧ ∃ st, st < 8 ∧ p.1 1 = nI st ∧ q.1 1 = nI ((st + b) % 8)) ∧
  (∀ c, c < 5 → ∃ a, a < 256 ∧ p.2 0 c = nI a ∧ q.2 0 c = nI (rotN b a)) ∧
  (∀ c st, c < 5 → st < 8 → q.2 10 (16 * c + (st + b) % 8) = p.2 10 (16 * c + st)) ∧
  (∀ st, st < 8 → q.2 11 ((st + b) % 8) = p.2 11 st)
section ROT
variable {b : Nat} {S V : Nat → Int32} {F G : Nat → Nat → Int32}
theorem rS (h : rot b (S, F) (V, G)) (k : Nat) (h1 : ¬ k = 1) (h10 : ¬ k = 10) : V k = S k := h.1.1 k h1 h10
theorem rF (h : rot b (S, F) (V, G)) (r : Nat) (h0 : ¬ r = 0) (h10 : ¬ r = 10) (h11 : ¬ r = 11) : G r = F r := h.1.2 r h0 h10 h11
theorem rot_S (h : rot b (S, F) (V, G)) (k : Nat) (h0 : ¬ k = 0) (h1 : ¬ k = 1) (v : Int32) : rot b (upd S k v, F) (upd V k v, G) := by
  refine ⟨⟨fun j j1 j10 => ?_, h.1.2⟩, ⟨?_, ?_⟩, h.2.2⟩
  · show upd V k v j = upd S k v j
    by_cases e : j = k
    · rw [e, upd_s, upd_s]
    · rw [upd_o _ _ e, upd_o _ _ e]; exact h.1.1 j j1 j10
  · show upd S k v 0 = 8
    rw [upd_o _ _ (by omega)]; exact h.2.1.1
  · obtain ⟨st, a1, a2, a3⟩ := h.2.1.2
    refine ⟨st, a1, ?_, ?_⟩
    · show upd S k v 1 = _
      rw [upd_o _ _ (by omega)]; exact a2
    · show upd V k v 1 = _
      rw [upd_o _ _ (by omega)]; exact a3
theorem rot_10 (h : rot b (S, F) (V, G)) (v w : Int32) : rot b (upd S 10 v, F) (upd V 10 w, G) := by
  refine ⟨⟨fun j j1 j10 => ?_, h.1.2⟩, ⟨?_, ?_⟩, h.2.2⟩
  · show upd V 10 w j = upd S 10 v j
    rw [upd_o _ _ j10, upd_o _ _ j10]; exact h.1.1 j j1 j10
  · show upd S 10 v 0 = 8
    rw [upd_o _ _ (by omega)]; exact h.2.1.1
  · obtain ⟨st, a1, a2, a3⟩ := h.2.1.2
    refine ⟨st, a1, ?_, ?_⟩
    · show upd S 10 v 1 = _
      rw [upd_o _ _ (by omega)]; exact a2
    · show upd V 10 w 1 = _
      rw [upd_o _ _ (by omega)]; exact a3
theorem rot_1 (h : rot b (S, F) (V, G)) {st : Nat} (hs : st < 8) : rot b (upd S 1 (nI st), F) (upd V 1 (nI ((st + b) % 8)), G) := by
  refine ⟨⟨fun j j1 j10 => ?_, h.1.2⟩, ⟨?_, st, hs, upd_s S 1 (nI st), upd_s V 1 (nI ((st + b) % 8))⟩, h.2.2⟩
  · show upd V 1 (nI ((st + b) % 8)) j = upd S 1 (nI st) j
    rw [upd_o _ _ j1, upd_o _ _ j1]; exact h.1.1 j j1 j10
  · show upd S 1 (nI st) 0 = 8
    rw [upd_o _ _ (by omega)]; exact h.2.1.1
theorem rot_F (h : rot b (S, F) (V, G)) (r : Nat) (h0 : ¬ r = 0) (h10 : ¬ r = 10) (h11 : ¬ r = 11) (f : Nat → Int32) : rot b (S, zU F r f) (V, zU G r f) := by
  refine ⟨⟨h.1.1, fun j j0 j10 j11 => ?_⟩, h.2.1, fun c hc => ?_, fun c st hc hs => ?_, fun st hs => ?_⟩
  · show zU G r f j = zU F r f j
    by_cases e : j = r
    · rw [e, zU_s, zU_s]
    · rw [zU_o _ _ e, zU_o _ _ e]; exact h.1.2 j j0 j10 j11
  · show ∃ a, a < 256 ∧ zU F r f 0 c = _ ∧ zU G r f 0 c = _
    rw [zU_o _ _ (Ne.symm h0), zU_o _ _ (Ne.symm h0)]; exact h.2.2.1 c hc
  · show zU G r f 10 (16 * c + (st + b) % 8) = zU F r f 10 (16 * c + st)
    rw [zU_o _ _ (Ne.symm h10), zU_o _ _ (Ne.symm h10)]; exact h.2.2.2.1 c st hc hs
  · show zU G r f 11 ((st + b) % 8) = zU F r f 11 st
    rw [zU_o _ _ (Ne.symm h11), zU_o _ _ (Ne.symm h11)]; exact h.2.2.2.2 st hs
theorem rot_0 (hb : b < 8) (h : rot b (S, F) (V, G)) (c : Nat) {a : Nat} (ha : a < 256) : rot b (S, zU F 0 (upd (F 0) c (nI a))) (V, zU G 0 (upd (G 0) c (nI (rotN b a)))) := by
  refine ⟨⟨h.1.1, fun j j0 j10 j11 => ?_⟩, h.2.1, fun d hd => ?_, fun d st hd hs => ?_, fun st hs => ?_⟩
  · show zU G 0 (upd (G 0) c (nI (rotN b a))) j = zU F 0 (upd (F 0) c (nI a)) j
    rw [zU_o _ _ j0, zU_o _ _ j0]; exact h.1.2 j j0 j10 j11
  · show ∃ x, x < 256 ∧ zU F 0 (upd (F 0) c (nI a)) 0 d = nI x ∧ zU G 0 (upd (G 0) c (nI (rotN b a))) 0 d = nI (rotN b x)
    rw [zU_s, zU_s]
    by_cases e : d = c
    · rw [e, upd_s, upd_s]; exact ⟨a, ha, rfl, rfl⟩
    · rw [upd_o _ _ e, upd_o _ _ e]; exact h.2.2.1 d hd
  · show zU G 0 (upd (G 0) c (nI (rotN b a))) 10 (16 * d + (st + b) % 8) = zU F 0 (upd (F 0) c (nI a)) 10 (16 * d + st)
    rw [zU_o _ _ (by omega), zU_o _ _ (by omega)]; exact h.2.2.2.1 d st hd hs
  · show zU G 0 (upd (G 0) c (nI (rotN b a))) 11 ((st + b) % 8) = zU F 0 (upd (F 0) c (nI a)) 11 st
    rw [zU_o _ _ (by omega), zU_o _ _ (by omega)]; exact h.2.2.2.2 st hs
theorem rot_c10 (hb : b < 8) (h : rot b (S, F) (V, G)) {c s : Nat} (hc : c < 5) (hs : s < 8) (v : Int32) : rot b (S, zU F 10 (upd (F 10) (16 * c + s) v)) (V, zU G 10 (upd (G 10) (16 * c + (s + b) % 8) v)) := by
  refine ⟨⟨h.1.1, fun j j0 j10 j11 => ?_⟩, h.2.1, fun d hd => ?_, fun d st hd hst => ?_, fun st hst => ?_⟩
  · show zU G 10 (upd (G 10) (16 * c + (s + b) % 8) v) j = zU F 10 (upd (F 10) (16 * c + s) v) j
    rw [zU_o _ _ j10, zU_o _ _ j10]; exact h.1.2 j j0 j10 j11
  · show ∃ x, x < 256 ∧ zU F 10 (upd (F 10) (16 * c + s) v) 0 d = nI x ∧ zU G 10 (upd (G 10) (16 * c + (s + b) % 8) v) 0 d = nI (rotN b x)
    rw [zU_o _ _ (by omega), zU_o _ _ (by omega)]; exact h.2.2.1 d hd
  · show zU G 10 (upd (G 10) (16 * c + (s + b) % 8) v) 10 (16 * d + (st + b) % 8) = zU F 10 (upd (F 10) (16 * c + s) v) 10 (16 * d + st)
    rw [zU_s, zU_s]
    by_cases e : 16 * d + st = 16 * c + s
    · have e1 : d = c := by omega
      have e2 : st = s := by omega
      rw [e1, e2, upd_s, upd_s]
    · rw [upd_o _ _ e, upd_o _ _ (by omega)]; exact h.2.2.2.1 d st hd hst
  · show zU G 10 (upd (G 10) (16 * c + (s + b) % 8) v) 11 ((st + b) % 8) = zU F 10 (upd (F 10) (16 * c + s) v) 11 st
    rw [zU_o _ _ (by omega), zU_o _ _ (by omega)]; exact h.2.2.2.2 st hst
theorem rot_c11 (hb : b < 8) (h : rot b (S, F) (V, G)) {s : Nat} (hs : s < 8) : rot b (S, zU F 11 (upd (F 11) s (F 11 s + 1))) (V, zU G 11 (upd (G 11) ((s + b) % 8) (G 11 ((s + b) % 8) + 1))) := by
  refine ⟨⟨h.1.1, fun j j0 j10 j11 => ?_⟩, h.2.1, fun d hd => ?_, fun d st hd hst => ?_, fun st hst => ?_⟩
  · show zU G 11 (upd (G 11) ((s + b) % 8) (G 11 ((s + b) % 8) + 1)) j = zU F 11 (upd (F 11) s (F 11 s + 1)) j
    rw [zU_o _ _ j11, zU_o _ _ j11]; exact h.1.2 j j0 j10 j11
  · show ∃ x, x < 256 ∧ zU F 11 (upd (F 11) s (F 11 s + 1)) 0 d = nI x ∧ zU G 11 (upd (G 11) ((s + b) % 8) (G 11 ((s + b) % 8) + 1)) 0 d = nI (rotN b x)
    rw [zU_o _ _ (by omega), zU_o _ _ (by omega)]; exact h.2.2.1 d hd
  · show zU G 11 (upd (G 11) ((s + b) % 8) (G 11 ((s + b) % 8) + 1)) 10 (16 * d + (st + b) % 8) = zU F 11 (upd (F 11) s (F 11 s + 1)) 10 (16 * d + st)
    rw [zU_o _ _ (by omega), zU_o _ _ (by omega)]; exact h.2.2.2.1 d st hd hst
  · show zU G 11 (upd (G 11) ((s + b) % 8) (G 11 ((s + b) % 8) + 1)) 11 ((st + b) % 8) = zU F 11 (upd (F 11) s (F 11 s + 1)) 11 st
    rw [zU_s, zU_s]
    have e0 : G 11 ((s + b) % 8) = F 11 s := h.2.2.2.2 s hs
    by_cases e : st = s
    · rw [e, upd_s, upd_s, e0]
    · rw [upd_o _ _ e, upd_o _ _ (by omega)]; exact h.2.2.2.2 st hst
theorem rot_hs (hb : b < 8) (h : rot b (S, F) (V, G)) {c s : Nat} (hc : c < 5) (hs : s < 8) : hasC G c (nI ((s + b) % 8)) ↔ hasC F c (nI s) := by
  obtain ⟨a, ha, e1, e2⟩ := h.2.2.1 c hc
  have e1 : F 0 c = nI a := e1
  have e2 : G 0 c = nI (rotN b a) := e2
  obtain ⟨k1, k2, k3⟩ := rck_e hb ha
  unfold hasC
  rw [e1, e2, b_has _ _ (by omega) (by omega), b_has _ _ (by omega) (by omega), (k3 s hs).1]
theorem rot_has (hb : b < 8) (h : rot b (S, F) (V, G)) {c : Nat} (hc : c < 5) : hasC G c (V 1) ↔ hasC F c (S 1) := by
  obtain ⟨st, a1, a2, a3⟩ := h.2.1.2
  have a2 : S 1 = nI st := a2
  have a3 : V 1 = nI ((st + b) % 8) := a3
  rw [a2, a3]
  exact rot_hs hb h hc a1
/-! a tick -/
theorem rot_off (h : rot b (S, F) (V, G)) : rot b (airOff S, F) (airOff V, G) := by
  unfold airOff
  rw [rS h 5 (by omega) (by omega), rS h 6 (by omega) (by omega), rS h 13 (by omega) (by omega)]
  exact rot_S (rot_S h 5 (by omega) (by omega) _) 13 (by omega) (by omega) _
theorem rot_A (h : rot b (S, F) (V, G)) : rot b (tkA S, F) (tkA V, G) := by
  unfold tkA airCmp
  have h1 := rot_S h 9 (by omega) (by omega) (S 9 + 1)
  rw [rS h 9 (by omega) (by omega), rS h1 5 (by omega) (by omega), rS h1 7 (by omega) (by omega), rS h1 12 (by omega) (by omega)]
  exact rot_off (rot_S (rot_S h1 5 (by omega) (by omega) _) 12 (by omega) (by omega) _)
theorem nxt_e {st : Nat} (h0 : S 0 = 8) (h1 : S 1 = nI st) (hs : st < 8) : nxt S = nI ((st + 1) % 8) := by
  unfold nxt
  have e : S 1 + 1 = nI (st + 1) := by rw [h1]; exact nI_add st 1
  rw [e, h0]
  by_cases h : (8 : Int32) ≤ nI (st + 1)
  · have := (nI_leI (a := 8) (by omega) (by omega)).mp h
    rw [if_pos h, show (st + 1) % 8 = 0 by omega]; rfl
  · have : ¬ 8 ≤ st + 1 := fun q => h ((nI_leI (a := 8) (by omega) (by omega)).mpr q)
    rw [if_neg h, show (st + 1) % 8 = st + 1 by omega]
theorem rot_D (hb : b < 8) (h : rot b (S, F) (V, G)) : rot b (mdS S, mdF S F) (mdS V, mdF V G) ∧ (mdR S = 1 ↔ mdR V = 1) := by
  obtain ⟨st, a1, a2, a3⟩ := h.2.1.2
  have a2 : S 1 = nI st := a2
  have a3 : V 1 = nI ((st + b) % 8) := a3
  have a0 : S 0 = 8 := h.2.1.1
  have v0 : V 0 = 8 := by rw [rS h 0 (by omega) (by omega)]; exact a0
  have n1 := nxt_e a0 a2 a1
  have n2 := nxt_e v0 a3 (by omega)
  rw [show ((st + b) % 8 + 1) % 8 = ((st + 1) % 8 + b) % 8 by omega] at n2
  have e2 := rS h 2 (by omega) (by omega)
  have e3 := rS h 3 (by omega) (by omega)
  have e4 := rS h 4 (by omega) (by omega)
  have e5 := rS h 5 (by omega) (by omega)
  have e11 := rS h 11 (by omega) (by omega)
  unfold mdS mdF mdR
  rw [e2, e3, e4, e5, e11]
  by_cases c1 : S 3 ≤ S 2 + 1
  · rw [if_pos c1, if_pos c1, if_pos c1, if_pos c1, if_pos c1, if_pos c1]
    by_cases c2 : S 4 ≤ S 5
    · rw [if_pos c2, if_pos c2, if_pos c2, if_pos c2, if_pos c2, if_pos c2]
      have h1 := rot_S (rot_1 h (st := (st + 1) % 8) (by omega)) 2 (by omega) (by omega) 0
      rw [← n1, ← n2] at h1
      by_cases c3 : nxt S ≤ 0
      · rw [if_pos c3, if_pos c3]
        by_cases c4 : nxt V ≤ 0
        · rw [if_pos c4, if_pos c4]
          exact ⟨rot_10 h1 _ _, by decide⟩
        · rw [if_neg c4, if_neg c4]
          have h2 := rot_10 h1 (S 10 + 1) (upd (upd V 1 (nxt V)) 2 0 10)
          rw [upd_id] at h2
          exact ⟨h2, by decide⟩
      · rw [if_neg c3, if_neg c3]
        by_cases c4 : nxt V ≤ 0
        · rw [if_pos c4, if_pos c4]
          have h2 := rot_10 h1 (upd (upd S 1 (nxt S)) 2 0 10) (V 10 + 1)
          rw [upd_id] at h2
          exact ⟨h2, by decide⟩
        · rw [if_neg c4, if_neg c4]
          exact ⟨h1, Iff.rfl⟩
    · rw [if_neg c2, if_neg c2, if_neg c2, if_neg c2, if_neg c2, if_neg c2]
      rw [a2, a3, cnt_e F (by omega), cnt_e G (by omega)]
      exact ⟨rot_S (rot_S (rot_c11 hb h a1) 2 (by omega) (by omega) _) 11 (by omega) (by omega) _, Iff.rfl⟩
  · rw [if_neg c1, if_neg c1, if_neg c1, if_neg c1, if_neg c1, if_neg c1]
    exact ⟨rot_S h 2 (by omega) (by omega) _, Iff.rfl⟩
theorem rbgL_e (e1 : G 1 = F 1) (e7 : G 7 = F 7) (e8 : G 8 = F 8) (e9 : G 9 = F 9) (c : Nat) : ∀ n, rbgL G c n = rbgL F c n
  | 0 => by show 100 - G 1 c = 100 - F 1 c; rw [e1]
  | n + 1 => by
    have ih := rbgL_e e1 e7 e8 e9 c n
    have hh : (G 7 n = nI c ∧ gHolds G n) ↔ (F 7 n = nI c ∧ gHolds F n) := by unfold gHolds; rw [e1, e7, e8, e9]
    unfold rbgL
    by_cases hq : F 7 n = nI c ∧ gHolds F n
    · rw [if_pos hq, if_pos (hh.mpr hq), ih, e9, e1]
    · rw [if_neg hq, if_neg (fun q => hq (hh.mp q)), ih]
theorem rbg_e (h : rot b (S, F) (V, G)) (c : Nat) : rbg V G c = rbg S F c := by
  unfold rbg
  rw [rS h 8 (by omega) (by omega), rbgL_e (rF h 1 (by omega) (by omega) (by omega)) (rF h 7 (by omega) (by omega) (by omega)) (rF h 8 (by omega) (by omega) (by omega)) (rF h 9 (by omega) (by omega) (by omega))]
theorem far_e (h : rot b (S, F) (V, G)) (c : Nat) : moFar V G c = moFar S F c := by
  unfold moFar
  rw [rbg_e h c, rS h 5 (by omega) (by omega), rF h 3 (by omega) (by omega) (by omega), rF h 2 (by omega) (by omega) (by omega)]
theorem rot_M (hb : b < 8) (h : rot b (S, F) (V, G)) {c : Nat} (hc : c < 5) : rot b (mvP (S, F) c) (mvP (V, G) c) := by
  have hh := rot_has hb h hc
  have f1 := rF h 1 (by omega) (by omega) (by omega)
  have f2 := rF h 2 (by omega) (by omega) (by omega)
  have f3 := rF h 3 (by omega) (by omega) (by omega)
  have f5 := rF h 5 (by omega) (by omega) (by omega)
  by_cases q : hasC F c (S 1)
  · rw [show mvP (S, F) c = (moS S F c, moF S F c) from if_pos q, show mvP (V, G) c = (moS V G c, moF V G c) from if_pos (hh.mpr q)]
    unfold moS moF airUse
    rw [far_e h c, f1, f2, f5, rS h 5 (by omega) (by omega), rS h 14 (by omega) (by omega)]
    exact rot_F (rot_F (rot_S (rot_S h 5 (by omega) (by omega) _) 14 (by omega) (by omega) _) 5 (by omega) (by omega) (by omega) _) 1 (by omega) (by omega) (by omega) _
  · rw [show mvP (S, F) c = (S, miF F c) from if_neg q, show mvP (V, G) c = (V, miF G c) from if_neg (fun z => q (hh.mp z))]
    unfold miF
    rw [f1, f3]
    exact rot_F h 1 (by omega) (by omega) (by omega) _
theorem rot_L (hb : b < 8) (h : rot b (S, F) (V, G)) {c : Nat} (hc : c < 5) : rot b (lkS S F c, lkF S F c) (lkS V G c, lkF V G c) := by
  have hh := rot_has hb h hc
  have f1 := rF h 1 (by omega) (by omega) (by omega)
  have f4 := rF h 4 (by omega) (by omega) (by omega)
  have f6 := rF h 6 (by omega) (by omega) (by omega)
  have hl : lkC V G c ↔ lkC S F c := by unfold lkC; rw [f1]; exact and_congr_left' hh
  unfold lkS lkF
  by_cases q : lkC S F c
  · rw [if_pos q, if_pos q, if_pos (hl.mpr q), if_pos (hl.mpr q)]
    unfold airLeak
    rw [f4, f6, rS h 5 (by omega) (by omega), rS h 15 (by omega) (by omega)]
    exact rot_F (rot_S (rot_S h 5 (by omega) (by omega) _) 15 (by omega) (by omega) _) 6 (by omega) (by omega) (by omega) _
  · rw [if_neg q, if_neg q, if_neg (fun z => q (hl.mp z)), if_neg (fun z => q (hl.mp z))]
    exact h
theorem note_e (F : Nat → Nat → Int32) {c s : Nat} (hc : c < 5) (hs : s < 8) (v : Int32) : chtNote F (nI c) (nI s) v = zU F 10 (upd (F 10) (16 * c + s) v) := by
  unfold chtNote chtNoteR
  have ek : nI c * 16 + nI s = nI (16 * c + s) := by
    rw [← nI_add]
    congr 1
    have h16 : (16 : Int32).toInt = 16 := rfl
    exact p_eq.mpr (by rw [p_mul (by rw [nI_toInt (by omega), h16]; omega), nI_toInt (by omega), nI_toInt (by omega), h16]; omega)
  rw [ek, nI_clamp (by omega), if_pos ⟨p_le.mpr (by rw [p_0, nI_toInt (by omega)]; omega), p_le.mpr (by rw [show (79 : Int32).toInt = 79 from rfl, nI_toInt (by omega)]; omega)⟩]
theorem rot_N (hb : b < 8) (h : rot b (S, F) (V, G)) {c : Nat} (hc : c < 5) : rot b (S, chtNote F (nI c) (S 1) (F 1 c)) (V, chtNote G (nI c) (V 1) (G 1 c)) := by
  obtain ⟨st, a1, a2, a3⟩ := h.2.1.2
  have a2 : S 1 = nI st := a2
  have a3 : V 1 = nI ((st + b) % 8) := a3
  rw [rF h 1 (by omega) (by omega) (by omega), a2, a3, note_e F hc a1, note_e G hc (by omega)]
  exact rot_c10 hb h hc a1 _
end ROT
section ROTP
variable {b : Nat} {p q : zP}
theorem rot_mvN (hb : b < 8) (h : rot b p q) : ∀ c, c ≤ 5 → rot b (mvN p c) (mvN q c)
  | 0, _ => h
  | c + 1, hc => rot_M (S := (mvN p c).1) (F := (mvN p c).2) (V := (mvN q c).1) (G := (mvN q c).2) hb (rot_mvN hb h c (by omega)) (by omega)
theorem rot_lkN (hb : b < 8) (h : rot b p q) : ∀ c, c ≤ 5 → rot b (lkN p c) (lkN q c)
  | 0, _ => h
  | c + 1, hc => rot_L (S := (lkN p c).1) (F := (lkN p c).2) (V := (lkN q c).1) (G := (lkN q c).2) hb (rot_lkN hb h c (by omega)) (by omega)
theorem rot_ntN (hb : b < 8) (h : rot b p q) : ∀ c, c ≤ 5 → rot b (ntN p c) (ntN q c)
  | 0, _ => h
  | c + 1, hc => rot_N (S := (ntN p c).1) (F := (ntN p c).2) (V := (ntN q c).1) (G := (ntN q c).2) hb (rot_ntN hb h c (by omega)) (by omega)
theorem rot_t (hb : b < 8) (h : rot b p q) : rot b (tkP p) (tkP q) ∧ (tkR p = 1 ↔ tkR q = 1) := by
  obtain ⟨d1, d2⟩ := rot_D (S := tkA p.1) (F := p.2) (V := tkA q.1) (G := q.2) hb (rot_A (S := p.1) (F := p.2) (V := q.1) (G := q.2) h)
  exact ⟨rot_ntN hb (rot_lkN hb (rot_mvN hb d1 5 (by omega)) 5 (by omega)) 5 (by omega), d2⟩
theorem rot_n (hb : b < 8) (h : rot b p q) : ∀ k, rot b (tkN p k) (tkN q k)
  | 0 => h
  | k + 1 => (rot_t hb (rot_n hb h k)).1
theorem rot_to (hb : b < 8) {c : Nat} : ∀ (k t : Nat) (p q : zP), rot b p q → toR c k t q = toR c k t p
  | 0, _, _, _, _ => rfl
  | k + 1, t, p, q, h => by
    have e : q.2 1 = p.2 1 := h.1.2 1 (by omega) (by omega) (by omega)
    unfold toR
    rw [e]
    by_cases z : p.2 1 c = 100
    · rw [if_pos z, if_pos z]
    · rw [if_neg z, if_neg z]; exact rot_to hb k (t + 1) _ _ (rot_t hb h).1
theorem rot_gs (hb : b < 8) : ∀ (k : Nat) (p q : zP), rot b p q → gsR k q = gsR k p
  | 0, _, _, _ => rfl
  | k + 1, p, q, h => by
    obtain ⟨h1, h2⟩ := rot_t hb h
    unfold gsR
    by_cases z : tkR p = 1
    · rw [if_pos z, if_pos (h2.mp z)]
    · rw [if_neg z, if_neg (fun w => z (h2.mpr w))]; exact rot_gs hb k _ _ h1
end ROTP
section ROTC
variable {b : Nat} {S V : Nat → Int32} {F G : Nat → Nat → Int32}
theorem rot_lc (hb : b < 8) (h : rot b (S, F) (V, G)) (T : Nat) : ∀ (k j : Nat), lcR T V G k j = lcR T S F k j
  | 0, _ => rfl
  | k + 1, j => by
    unfold lcR
    rw [rot_gs hb T _ _ (rot_S h 7 (by omega) (by omega) (nI (10 * j))), rot_lc hb h T k (j + 1)]
theorem rot_cyl (hb : b < 8) (h : rot b (S, F) (V, G)) {c : Nat} (hc : c < 5) {j : Nat} (hj : j < 8) : cylN V G c j = cylN S F c j := by
  have f1 := rF h 1 (by omega) (by omega) (by omega)
  have f2 := rF h 2 (by omega) (by omega) (by omega)
  have f3 := rF h 3 (by omega) (by omega) (by omega)
  have f4 := rF h 4 (by omega) (by omega) (by omega)
  have f5 := rF h 5 (by omega) (by omega) (by omega)
  have f6 := rF h 6 (by omega) (by omega) (by omega)
  have hj : j = 0 ∨ j = 1 ∨ j = 2 ∨ j = 3 ∨ j = 4 ∨ j = 5 ∨ j = 6 ∨ j = 7 := by omega
  rcases hj with rfl | rfl | rfl | rfl | rfl | rfl | rfl | rfl
  · show G 1 c = F 1 c; rw [f1]
  · show G 2 c = F 2 c; rw [f2]
  · show G 3 c = F 3 c; rw [f3]
  · show G 4 c = F 4 c; rw [f4]
  · show jbc (G 0 c) = jbc (F 0 c)
    obtain ⟨a, ha, e1, e2⟩ := h.2.2.1 c hc
    have e1 : F 0 c = nI a := e1
    have e2 : G 0 c = nI (rotN b a) := e2
    obtain ⟨k1, k2, -⟩ := rck_e hb ha
    rw [e1, e2, jbc_N (by omega), jbc_N (by omega), k2]
  · exact rbg_e h c
  · show G 5 c = F 5 c; rw [f5]
  · show G 6 c = F 6 c; rw [f6]
theorem cht_e (F : Nat → Nat → Int32) {c s : Nat} (hc : c < 5) (hs : s < 8) : chtAt F (nI c) (nI s) = F 10 (16 * c + s) := by
  unfold chtAt
  have ek : nI c * 16 + nI s = nI (16 * c + s) := by
    rw [← nI_add]
    congr 1
    have h16 : (16 : Int32).toInt = 16 := rfl
    exact p_eq.mpr (by rw [p_mul (by rw [nI_toInt (by omega), h16]; omega), nI_toInt (by omega), nI_toInt (by omega), h16]; omega)
  rw [ek, nI_clamp (by omega), if_pos ⟨p_le.mpr (by rw [p_0, nI_toInt (by omega)]; omega), p_le.mpr (by rw [show (79 : Int32).toInt = 79 from rfl, nI_toInt (by omega)]; omega)⟩]
theorem sk_e (F : Nat → Nat → Int32) {s : Nat} (hs : s < 8) : chtSk F (nI s) = F 11 s := by
  unfold chtSk
  rw [if_pos ⟨p_le.mpr (by rw [p_0, nI_toInt (by omega)]; omega), p_le.mpr (by rw [show (15 : Int32).toInt = 15 from rfl, nI_toInt (by omega)]; omega)⟩, nI_clamp (by omega)]
theorem rot_cht (h : rot b (S, F) (V, G)) {c s : Nat} (hc : c < 5) (hs : s < 8) : chtAt G (nI c) (nI ((s + b) % 8)) = chtAt F (nI c) (nI s) := by
  rw [cht_e F hc hs, cht_e G hc (by omega)]; exact h.2.2.2.1 c s hc hs
theorem rot_sk (h : rot b (S, F) (V, G)) {s : Nat} (hs : s < 8) : chtSk G (nI ((s + b) % 8)) = chtSk F (nI s) := by
  rw [sk_e F hs, sk_e G (by omega)]; exact h.2.2.2.2 s hs
theorem rot_cam (hb : b < 8) (h : rot b (S, F) (V, G)) {c s : Nat} (hc : c < 5) (hs : s < 8) : bI (hasC G c (nI ((s + b) % 8))) = bI (hasC F c (nI s)) := bI_congr (rot_hs hb h hc hs)
/-! the calls -/
theorem r_setCam (hb : b < 8) (h : rot b (S, F) (V, G)) {c s : Nat} (hc : c < 5) (hs : s < 8) (th : Int32) :
    rot b (S, zU F 0 (upd (F 0) c (camPut (F 0 c) (nI s) th))) (V, zU G 0 (upd (G 0) c (camPut (G 0 c) (nI ((s + b) % 8)) th))) ∧ jbc (camPut (G 0 c) (nI ((s + b) % 8)) th) = jbc (camPut (F 0 c) (nI s) th) := by
  obtain ⟨a, ha, e1, e2⟩ := h.2.2.1 c hc
  have e1 : F 0 c = nI a := e1
  have e2 : G 0 c = nI (rotN b a) := e2
  obtain ⟨k1, k2, k3⟩ := rck_e hb ha
  obtain ⟨-, m2, m3, m4, m5⟩ := k3 s hs
  rw [e1, e2, put_e ha hs, put_e k1 (by omega)]
  have e : (if th = 0 then rTak (rotN b a) ((s + b) % 8) else rPut (rotN b a) ((s + b) % 8)) = rotN b (if th = 0 then rTak a s else rPut a s) := by
    by_cases z : th = 0
    · rw [if_pos z, if_pos z, m3]
    · rw [if_neg z, if_neg z, m2]
  have hl : (if th = 0 then rTak a s else rPut a s) < 256 := by
    by_cases z : th = 0
    · rw [if_pos z]; exact m5
    · rw [if_neg z]; exact m4
  rw [e]
  obtain ⟨n1, n2, -⟩ := rck_e hb hl
  exact ⟨rot_0 hb h c hl, by rw [jbc_N (by omega), jbc_N (by omega), n2]⟩
theorem r_setPawl (h : rot b (S, F) (V, G)) (dw le : Int32) : rot b (upd (upd S 3 dw) 4 le, F) (upd (upd V 3 dw) 4 le, G) := rot_S (rot_S h 3 (by omega) (by omega) _) 4 (by omega) (by omega) _
theorem r_setCylinder (h : rot b (S, F) (V, G)) (c : Nat) (sz sp lk : Int32) : rot b (S, zU (zU (zU F 2 (upd (F 2) c sz)) 3 (upd (F 3) c sp)) 4 (upd (F 4) c lk)) (V, zU (zU (zU G 2 (upd (G 2) c sz)) 3 (upd (G 3) c sp)) 4 (upd (G 4) c lk)) := by
  rw [rF h 2 (by omega) (by omega) (by omega), rF h 3 (by omega) (by omega) (by omega), rF h 4 (by omega) (by omega) (by omega)]
  exact rot_F (rot_F (rot_F h 2 (by omega) (by omega) (by omega) _) 3 (by omega) (by omega) (by omega) _) 4 (by omega) (by omega) (by omega) _
theorem r_setAir (h : rot b (S, F) (V, G)) (ca co : Int32) : rot b (airOff (upd (upd S 6 ca) 7 co), F) (airOff (upd (upd V 6 ca) 7 co), G) := rot_off (rot_S (rot_S h 6 (by omega) (by omega) _) 7 (by omega) (by omega) _)
theorem r_turn (h : rot b (S, F) (V, G)) {s : Nat} (hs : s < 8) : rot b (upd (upd S 1 (nI s)) 2 0, F) (upd (upd V 1 (nI ((s + b) % 8))) 2 0, G) := rot_S (rot_1 h hs) 2 (by omega) (by omega) _
theorem r_addGuard (h : rot b (S, F) (V, G)) (g o bd : Int32) : rot b (upd S 8 (S 8 + 1), zU (zU (zU F 7 (upd (F 7) (S 8).toNatClampNeg g)) 8 (upd (F 8) (S 8).toNatClampNeg o)) 9 (upd (F 9) (S 8).toNatClampNeg bd)) (upd V 8 (V 8 + 1), zU (zU (zU G 7 (upd (G 7) (V 8).toNatClampNeg g)) 8 (upd (G 8) (V 8).toNatClampNeg o)) 9 (upd (G 9) (V 8).toNatClampNeg bd)) := by
  rw [rS h 8 (by omega) (by omega), rF h 7 (by omega) (by omega) (by omega), rF h 8 (by omega) (by omega) (by omega), rF h 9 (by omega) (by omega) (by omega)]
  exact rot_F (rot_F (rot_F (rot_S h 8 (by omega) (by omega) _) 7 (by omega) (by omega) (by omega) _) 8 (by omega) (by omega) (by omega) _) 9 (by omega) (by omega) (by omega) _
theorem toF_e : ∀ (k g : Nat) (F G : Nat → Nat → Int32), (∀ r, r = 7 ∨ r = 8 ∨ r = 9 → G r = F r) → ∀ r, r = 7 ∨ r = 8 ∨ r = 9 → toF k g G r = toF k g F r := fun k g F G h r hr => by
  funext j
  rw [toF_v k g G r hr j, toF_v k g F r hr j, h r hr]
theorem r_removeGuard (h : rot b (S, F) (V, G)) (v : Int32) (m k : Nat) : rot b (upd S 8 v, zU (zU (zU F 7 (toF m k F 7)) 8 (toF m k F 8)) 9 (toF m k F 9)) (upd V 8 v, zU (zU (zU G 7 (toF m k G 7)) 8 (toF m k G 8)) 9 (toF m k G 9)) := by
  have hg : ∀ r, r = 7 ∨ r = 8 ∨ r = 9 → G r = F r := fun r hr => rF h r (by omega) (by omega) (by omega)
  rw [toF_e m k F G hg 7 (by omega), toF_e m k F G hg 8 (by omega), toF_e m k F G hg 9 (by omega)]
  exact rot_F (rot_F (rot_F (rot_S h 8 (by omega) (by omega) _) 7 (by omega) (by omega) (by omega) _) 8 (by omega) (by omega) (by omega) _) 9 (by omega) (by omega) (by omega) _
/-! the start -/
theorem rotN_0 : ∀ b : Nat, b < 8 → rotN b 0 = 0 := by decide
theorem rot_0s (hb : b < 8) : rot b (zS0, zF0) (upd (upd zS0 1 (nI b)) 2 0, zF0) := by
  have h0 : rot 0 (zS0, zF0) (zS0, zF0) := ⟨⟨fun _ _ _ => rfl, fun _ _ _ _ => rfl⟩, ⟨by decide +kernel, 0, by omega, by decide +kernel, by decide +kernel⟩, fun c hc => ⟨0, by omega, rfl, rfl⟩, fun c st hc hs => by rw [Nat.add_zero, Nat.mod_eq_of_lt hs], fun st hs => by rw [Nat.add_zero, Nat.mod_eq_of_lt hs]⟩
  refine ⟨⟨fun k h1 h10 => ?_, fun _ _ _ _ => rfl⟩, ⟨h0.2.1.1, 0, by omega, by decide +kernel, ?_⟩, fun c hc => ⟨0, by omega, rfl, by rw [rotN_0 b hb]; rfl⟩, fun c st hc hs => rfl, fun st hs => rfl⟩
  · show upd (upd zS0 1 (nI b)) 2 0 k = zS0 k
    by_cases e : k = 2
    · rw [e, upd_s]; rfl
    · rw [upd_o _ _ e, upd_o _ _ h1]
  · show upd (upd zS0 1 (nI b)) 2 0 1 = _
    rw [upd_o _ _ (by omega), upd_s, Nat.zero_add, Nat.mod_eq_of_lt hb]
end ROTC
