/-! useful(): the quotient of two whole numbers is a number -/
theorem db_t52 : Jvm.FP.Core.Fmt.tails Jvm.FP.Core.b64 = 4503599627370496 := by decide +kernel
theorem db_e11 : Jvm.FP.Core.Fmt.exps Jvm.FP.Core.b64 = 2048 := by decide +kernel
theorem db_p53 : 2 ^ Jvm.FP.Core.Fmt.p Jvm.FP.Core.b64 = 9007199254740992 := by decide +kernel
theorem db_pp : Jvm.FP.Core.Fmt.p Jvm.FP.Core.b64 = 53 := rfl
theorem db_qM : Jvm.FP.Core.Fmt.qmax Jvm.FP.Core.b64 = 971 := by decide +kernel
theorem db_qm : Jvm.FP.Core.Fmt.qmin Jvm.FP.Core.b64 = -1074 := by decide +kernel
/-- no NaN, and it fits -/
def db_good (d : Jvm.FP.Core.Datum) : Prop := (∃ s, d = .inf s) ∨ ∃ s c q, d = .fin s c q ∧ c < 9007199254740992 ∧ q ≤ 971
theorem db_good_bound {s : Bool} {c : Nat} {q : Int} (hc : c < 9007199254740992) : db_good (Jvm.FP.Core.bound Jvm.FP.Core.b64 s c q) := by
  unfold Jvm.FP.Core.bound
  rw [db_qM]
  by_cases h : q ≤ 971
  · rw [if_pos h]; exact Or.inr ⟨s, c, q, rfl, hc, h⟩
  · rw [if_neg h]; exact Or.inl ⟨s, rfl⟩
theorem db_good_settle (s : Bool) (c : Nat) (q : Int) : db_good (Jvm.FP.Core.settle Jvm.FP.Core.b64 s c q) := by
  unfold Jvm.FP.Core.settle
  rw [db_p53, db_t52]
  by_cases h : c < 9007199254740992
  · rw [if_pos h]; exact db_good_bound h
  · rw [if_neg h]; exact db_good_bound (by omega)
theorem db_good_rr (s : Bool) (a b : Nat) (x : Int) : db_good (Jvm.FP.Core.roundRatio Jvm.FP.Core.b64 s a b x) := by
  unfold Jvm.FP.Core.roundRatio
  by_cases h : a = 0
  · rw [if_pos h, db_qm]; exact Or.inr ⟨s, 0, -1074, rfl, by omega, by omega⟩
  · rw [if_neg h]; exact db_good_settle _ _ _
theorem db_asm (s : Bool) {x t : Nat} (hx : x < 2048) (ht : t < 4503599627370496) : Jvm.FP.Core.assemble Jvm.FP.Core.b64 s x t = (s.toNat * 2048 + x) * 4503599627370496 + t ∧ s.toNat ≤ 1 := by
  refine ⟨?_, by cases s <;> decide⟩
  unfold Jvm.FP.Core.assemble
  rw [db_e11, db_t52]
/-- the bits of what is db_good -/
theorem db_enc {d : Jvm.FP.Core.Datum} (h : db_good d) : ∃ (s : Bool) (x t : Nat), Jvm.FP.Core.encode Jvm.FP.Core.b64 d = (s.toNat * 2048 + x) * 4503599627370496 + t ∧ s.toNat ≤ 1 ∧ t < 4503599627370496 ∧ (x ≤ 2046 ∨ (x = 2047 ∧ t = 0)) := by
  rcases h with ⟨s, rfl⟩ | ⟨s, c, q, rfl, hc, hq⟩
  · refine ⟨s, 2047, 0, ?_, (db_asm s (x := 0) (t := 0) (by omega) (by omega)).2, by omega, Or.inr ⟨rfl, rfl⟩⟩
    show Jvm.FP.Core.assemble Jvm.FP.Core.b64 s (Jvm.FP.Core.Fmt.exps Jvm.FP.Core.b64 - 1) 0 = _
    rw [db_e11]
    exact (db_asm s (by omega) (by omega)).1
  · unfold Jvm.FP.Core.encode
    dsimp only
    rw [db_t52, db_qm]
    by_cases h : c < 4503599627370496
    · rw [if_pos h]
      exact ⟨s, 0, c, (db_asm s (by omega) h).1, (db_asm s (x := 0) (t := 0) (by omega) (by omega)).2, h, Or.inl (by omega)⟩
    · rw [if_neg h]
      exact ⟨s, (q - -1074).toNat + 1, c - 4503599627370496, (db_asm s (by omega) (by omega)).1, (db_asm s (x := 0) (t := 0) (by omega) (by omega)).2, by omega, Or.inl (by omega)⟩
theorem db_msk (n : Nat) : n &&& 9223372036854775807 = n % 9223372036854775808 := Nat.and_two_pow_sub_one_eq_mod n 63
theorem db_n64 {d : Jvm.FP.Core.Datum} (h : db_good d) : vf_n64 (.ofNat (Jvm.FP.Core.encode Jvm.FP.Core.b64 d)) := by
  obtain ⟨s, x, t, e, hs, ht, hx⟩ := db_enc h
  unfold vf_n64
  rw [UInt64.le_iff_toNat_le, UInt64.toNat_and, e]
  show (UInt64.ofNat ((s.toNat * 2048 + x) * 4503599627370496 + t)).toNat &&& 9223372036854775807 ≤ 9218868437227405312
  rw [UInt64.toNat_ofNat_of_lt' (by show _ < 18446744073709551616; omega), db_msk]
  omega
/-- a whole number, rounded -/
theorem db_rnd (s : Bool) {c : Nat} (h0 : 0 < c) (h : c < 4294967296) : ∃ (c' : Nat) (q : Int), Jvm.FP.Core.round Jvm.FP.Core.b64 (.fin s c 0) = .fin s c' q ∧ 0 < c' ∧ c' < 9007199254740992 ∧ q ≤ 971 ∧ -1074 ≤ q := by
  have hl : c.log2 < 32 := (Nat.log2_lt (by omega)).mpr (by omega)
  have h2 : 2 ^ c.log2 ≤ c := Nat.log2_self_le (by omega)
  show ∃ (c' : Nat) (q : Int), Jvm.FP.Core.roundRatio Jvm.FP.Core.b64 s c 1 0 = _ ∧ _
  unfold Jvm.FP.Core.roundRatio
  rw [if_neg (by omega)]
  unfold Jvm.FP.Core.roundAt
  have hld : Jvm.FP.Core.leading c 1 = (c.log2 : Int) := by
    unfold Jvm.FP.Core.leading
    have e1 : Nat.log2 1 = 0 := by decide
    simp only [e1]
    have e2 : ((c.log2 : Int) - ((0 : Nat) : Int)) = (c.log2 : Int) := by omega
    rw [e2, if_pos]
    rw [Int.toNat_natCast, show (-(c.log2 : Int)).toNat = 0 by omega]
    omega
  have hq : Jvm.FP.Core.quantum Jvm.FP.Core.b64 c 1 0 = (c.log2 : Int) - 52 := by
    unfold Jvm.FP.Core.quantum
    rw [hld, db_qm, db_pp]
    omega
  have hd : Jvm.FP.Core.unitsDen 1 0 ((c.log2 : Int) - 52) = 1 := by
    unfold Jvm.FP.Core.unitsDen
    rw [show ((c.log2 : Int) - 52 - 0).toNat = 0 by omega]
  have hn : ∀ m, Jvm.FP.Core.nearest m 1 = m := by
    intro m
    unfold Jvm.FP.Core.nearest
    rw [if_pos (by omega), Nat.div_one]
  have hu : 0 < Jvm.FP.Core.unitsNum c 0 ((c.log2 : Int) - 52) := by
    unfold Jvm.FP.Core.unitsNum
    exact Nat.mul_pos h0 (Nat.pow_pos (by omega))
  rw [hq, hd, hn]
  generalize Jvm.FP.Core.unitsNum c 0 ((c.log2 : Int) - 52) = u at *
  unfold Jvm.FP.Core.settle Jvm.FP.Core.bound
  rw [db_p53, db_t52, db_qM]
  by_cases h3 : u < 9007199254740992
  · rw [if_pos h3, if_pos (by omega)]; exact ⟨u, _, rfl, hu, h3, by omega, by omega⟩
  · rw [if_neg h3, if_pos (by omega)]; exact ⟨_, _, rfl, by omega, by omega, by omega, by omega⟩
theorem db_dec {n : Nat} {s : Bool} {x t : Nat} (e : n = (s.toNat * 2048 + x) * 4503599627370496 + t) (ht : t < 4503599627370496) (hx : x ≤ 2046) : Jvm.FP.Core.decode Jvm.FP.Core.b64 n = if x = 0 then .fin (Jvm.FP.Core.fieldS Jvm.FP.Core.b64 n) t (-1074) else .fin (Jvm.FP.Core.fieldS Jvm.FP.Core.b64 n) (4503599627370496 + t) (-1074 + ((x : Int) - 1)) := by
  have eE : Jvm.FP.Core.fieldE Jvm.FP.Core.b64 n = x := by
    unfold Jvm.FP.Core.fieldE; rw [db_t52, db_e11, e]; omega
  have eT : Jvm.FP.Core.fieldT Jvm.FP.Core.b64 n = t := by
    unfold Jvm.FP.Core.fieldT; rw [db_t52, e]; omega
  unfold Jvm.FP.Core.decode
  rw [eE, eT, db_e11, db_t52, db_qm, if_neg (by omega)]
/-- the bits of a whole number stand for a number; not for 0 unless it is -/
theorem db_i2d_v (a : Int32) : ∃ (s : Bool) (c : Nat) (q : Int), Jvm.FP.Core.decode Jvm.FP.Core.b64 (FP.i2d a).toNat = .fin s c q ∧ (¬ a.toInt = 0 → ¬ c = 0) := by
  have h1 := Int32.toInt_lt a
  have h2 := Int32.le_toInt a
  show ∃ (s : Bool) (c : Nat) (q : Int), Jvm.FP.Core.decode Jvm.FP.Core.b64 (UInt64.ofNat (Jvm.FP.Core.encode Jvm.FP.Core.b64 (Jvm.FP.Core.round Jvm.FP.Core.b64 (.fin (decide (a.toInt < 0)) a.toInt.natAbs 0)))).toNat = .fin s c q ∧ _
  generalize (decide (a.toInt < 0)) = s
  by_cases h0 : a.toInt = 0
  · have er : Jvm.FP.Core.round Jvm.FP.Core.b64 (.fin s a.toInt.natAbs 0) = .fin s 0 (-1074) := by
      show Jvm.FP.Core.roundRatio Jvm.FP.Core.b64 s a.toInt.natAbs 1 0 = _
      unfold Jvm.FP.Core.roundRatio
      rw [if_pos (by omega), db_qm]
    rw [er]
    obtain ⟨s', x, t, e, hs, ht, hx⟩ := db_enc (d := .fin s 0 (-1074)) (Or.inr ⟨s, 0, -1074, rfl, by omega, by omega⟩)
    have ee : Jvm.FP.Core.encode Jvm.FP.Core.b64 (.fin s 0 (-1074)) = (s.toNat * 2048 + 0) * 4503599627370496 + 0 := by
      unfold Jvm.FP.Core.encode
      dsimp only
      rw [db_t52, if_pos (by omega)]
      exact (db_asm s (by omega) (by omega)).1
    have hs1 : s.toNat ≤ 1 := by cases s <;> decide
    rw [ee, UInt64.toNat_ofNat_of_lt' (by show _ < 18446744073709551616; omega), db_dec (s := s) (x := 0) (t := 0) rfl (by omega) (by omega), if_pos rfl]
    exact ⟨_, _, _, rfl, fun h => absurd h0 h⟩
  · obtain ⟨c', q, er, hc0, hc, hq, hq2⟩ := db_rnd s (c := a.toInt.natAbs) (by omega) (by omega)
    rw [er]
    have hs1 : s.toNat ≤ 1 := by cases s <;> decide
    by_cases h : c' < 4503599627370496
    · have ee : Jvm.FP.Core.encode Jvm.FP.Core.b64 (.fin s c' q) = (s.toNat * 2048 + 0) * 4503599627370496 + c' := by
        unfold Jvm.FP.Core.encode
        dsimp only
        rw [db_t52, if_pos h]
        exact (db_asm s (by omega) h).1
      rw [ee, UInt64.toNat_ofNat_of_lt' (by show _ < 18446744073709551616; omega), db_dec (s := s) (x := 0) (t := c') rfl h (by omega), if_pos rfl]
      exact ⟨_, _, _, rfl, fun _ => by omega⟩
    · have ee : Jvm.FP.Core.encode Jvm.FP.Core.b64 (.fin s c' q) = (s.toNat * 2048 + ((q - -1074).toNat + 1)) * 4503599627370496 + (c' - 4503599627370496) := by
        unfold Jvm.FP.Core.encode
        dsimp only
        rw [db_t52, db_qm, if_neg h]
        exact (db_asm s (by omega) (by omega)).1
      rw [ee, UInt64.toNat_ofNat_of_lt' (by show _ < 18446744073709551616; omega), db_dec (s := s) rfl (by omega) (by omega), if_neg (by omega)]
      exact ⟨_, _, _, rfl, fun _ => by omega⟩
theorem db_quo (a b : Int32) (hb : ¬ b.toInt = 0) : vf_n64 (FP.ddiv (FP.i2d a) (FP.i2d b)) := by
  obtain ⟨s, c, q, e1, -⟩ := db_i2d_v a
  obtain ⟨s', c', q', e2, h2⟩ := db_i2d_v b
  show vf_n64 (.ofNat (Jvm.FP.Core.encode Jvm.FP.Core.b64 (Jvm.FP.Core.quotient Jvm.FP.Core.b64 (Jvm.FP.Core.decode Jvm.FP.Core.b64 (FP.i2d a).toNat) (Jvm.FP.Core.decode Jvm.FP.Core.b64 (FP.i2d b).toNat))))
  rw [e1, e2]
  show vf_n64 (.ofNat (Jvm.FP.Core.encode Jvm.FP.Core.b64 (if c' = 0 then _ else Jvm.FP.Core.roundRatio Jvm.FP.Core.b64 (s != s') c c' (q - q'))))
  rw [if_neg (h2 hb)]
  exact db_n64 (db_good_rr _ _ _ _)
theorem db_ord {d : Jvm.FP.Core.Datum} (h : ¬ d = .nan) : Jvm.FP.Core.order d d = some .eq := by
  have ci : ∀ x : Int, compare x x = Ordering.eq := fun x => by simp [compare, compareOfLessAndEq]
  cases d with
  | nan => exact absurd rfl h
  | inf => exact congrArg some (ci _)
  | fin s c q => exact congrArg some (ci _)
theorem db_dn {d : Jvm.FP.Core.Datum} (h : db_good d) : ¬ Jvm.FP.Core.decode Jvm.FP.Core.b64 (UInt64.ofNat (Jvm.FP.Core.encode Jvm.FP.Core.b64 d)).toNat = .nan := by
  obtain ⟨s, x, t, e, hs, ht, hx⟩ := db_enc h
  rw [e, UInt64.toNat_ofNat_of_lt' (by show _ < 18446744073709551616; omega)]
  rcases hx with hx | ⟨hx, ht0⟩
  · rw [db_dec rfl ht hx]
    by_cases h0 : x = 0
    · rw [if_pos h0]; exact fun q => by cases q
    · rw [if_neg h0]; exact fun q => by cases q
  · subst hx; subst ht0
    have eE : Jvm.FP.Core.fieldE Jvm.FP.Core.b64 ((s.toNat * 2048 + 2047) * 4503599627370496 + 0) = 2047 := by
      unfold Jvm.FP.Core.fieldE; rw [db_t52, db_e11]; omega
    have eT : Jvm.FP.Core.fieldT Jvm.FP.Core.b64 ((s.toNat * 2048 + 2047) * 4503599627370496 + 0) = 0 := by
      unfold Jvm.FP.Core.fieldT; rw [db_t52]; omega
    unfold Jvm.FP.Core.decode
    rw [eE, eT, db_e11, if_pos (by omega), if_pos rfl]
    exact fun q => by cases q
/-- the same quotient twice -/
theorem db_same (a b : Int32) (hb : ¬ b.toInt = 0) : Op.cmpValue (FP.dcmp (FP.ddiv (FP.i2d a) (FP.i2d b)) (FP.ddiv (FP.i2d a) (FP.i2d b))) .l = 0 := by
  obtain ⟨s, c, q, e1, -⟩ := db_i2d_v a
  obtain ⟨s', c', q', e2, h2⟩ := db_i2d_v b
  have h : ¬ Jvm.FP.Core.decode Jvm.FP.Core.b64 (FP.ddiv (FP.i2d a) (FP.i2d b)).toNat = .nan := by
    show ¬ Jvm.FP.Core.decode Jvm.FP.Core.b64 (UInt64.ofNat (Jvm.FP.Core.encode Jvm.FP.Core.b64 (Jvm.FP.Core.quotient Jvm.FP.Core.b64 (Jvm.FP.Core.decode Jvm.FP.Core.b64 (FP.i2d a).toNat) (Jvm.FP.Core.decode Jvm.FP.Core.b64 (FP.i2d b).toNat)))).toNat = .nan
    rw [e1, e2]
    show ¬ Jvm.FP.Core.decode Jvm.FP.Core.b64 (UInt64.ofNat (Jvm.FP.Core.encode Jvm.FP.Core.b64 (if c' = 0 then _ else Jvm.FP.Core.roundRatio Jvm.FP.Core.b64 (s != s') c c' (q - q')))).toNat = .nan
    rw [if_neg (h2 hb)]
    exact db_dn (db_good_rr _ _ _ _)
  have e : FP.dcmp (FP.ddiv (FP.i2d a) (FP.i2d b)) (FP.ddiv (FP.i2d a) (FP.i2d b)) = some .eq := db_ord h
  rw [e]
  rfl
