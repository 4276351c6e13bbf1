/-! Request: integers. -/
/-- a number has been read, or none -/
def paK (σ : kS) (o : Option Int64) : kK := fun r u => match o with
  | some z => r = some (.int 1) ∧ u = (σ.1, mjLu σ.2.1 53 9 z, σ.2.2)
  | none => r = some (.int 0) ∧ u = σ
def paE (less : Bool) : Option Int64 → Option Int64
  | none => none
  | some v => if less = false ∧ v = -9223372036854775808 then none else some (if less = true then v else -v)
section KPARSE
variable {Y : Nat → MethodName × ByteArray} {d : Nat} {σ : kS}
theorem ia_dig {v : Int64} {b : Int32} (r : v.toInt ≤ 0) (h : ¬ (b - 48 < 0 ∨ 9 < b - 48)) : (¬ (v < -922337203685477580) ∧ ¬ ((10 : Int64) * v < -9223372036854775808 + (b - 48).toInt64)) ↔ ¬ (v < -922337203685477580 ∨ (v = -922337203685477580 ∧ 8 < b - 48)) := by
  have h1 : ¬ (b - 48).toInt < 0 := fun z => h (Or.inl (Int32.lt_iff_toInt_lt.mpr z))
  have h2 : ¬ 9 < (b - 48).toInt := fun z => h (Or.inr (Int32.lt_iff_toInt_lt.mpr z))
  have hd : (b - 48).toInt64.toInt = (b - 48).toInt := Int32.toInt_toInt64 _
  have hv1 := Int64.toInt_lt v
  have hv2 := Int64.le_toInt v
  rw [Int64.lt_iff_toInt_lt, Int64.lt_iff_toInt_lt, Int32.lt_iff_toInt_lt, ← Int64.toInt_inj]
  have c1 : ((-922337203685477580 : Int64)).toInt = -922337203685477580 := by decide
  have c8 : ((8 : Int32)).toInt = 8 := by decide
  rw [c1, c8]
  by_cases q : v.toInt < -922337203685477580
  · constructor
    · intro z; exact absurd q z.1
    · intro z; exact absurd (Or.inl q) z
  · have e2 : ((-9223372036854775808 : Int64) + (b - 48).toInt64).toInt = -9223372036854775808 + (b - 48).toInt := by
      rw [Int64.toInt_add, hd, show ((-9223372036854775808 : Int64)).toInt = -9223372036854775808 by decide]
      exact Int.bmod_eq_of_le (by omega) (by omega)
    rw [e2]
    have e1 : ((10 : Int64) * v).toInt = 10 * v.toInt := by
      rw [Int64.toInt_mul, show ((10 : Int64)).toInt = 10 by decide]
      exact Int.bmod_eq_of_le (by omega) (by omega)
    rw [e1]
    constructor
    · intro z y; rcases y with y | y <;> omega
    · intro z; refine ⟨q, fun y => z (Or.inr ⟨by omega, by omega⟩)⟩
/-- one digit more -/
theorem ia_next {v : Int64} {b : Int32} (r : v.toInt ≤ 0) (h : ¬ (b - 48 < 0 ∨ 9 < b - 48)) (g : ¬ (v < -922337203685477580 ∨ (v = -922337203685477580 ∧ 8 < b - 48))) : (v * 10 - (b - 48).toInt64).toInt = 10 * v.toInt - (b - 48).toInt ∧ (10 : Int64) * v - (b - 48).toInt64 = v * 10 - (b - 48).toInt64 ∧ 0 ≤ (b - 48).toInt ∧ (b - 48).toInt ≤ 9 := by
  have h1 : ¬ (b - 48).toInt < 0 := fun z => h (Or.inl (Int32.lt_iff_toInt_lt.mpr z))
  have h2 : ¬ 9 < (b - 48).toInt := fun z => h (Or.inr (Int32.lt_iff_toInt_lt.mpr z))
  have hd : (b - 48).toInt64.toInt = (b - 48).toInt := Int32.toInt_toInt64 _
  rw [Int64.lt_iff_toInt_lt, Int32.lt_iff_toInt_lt, ← Int64.toInt_inj] at g
  have c1 : ((-922337203685477580 : Int64)).toInt = -922337203685477580 := by decide
  have c8 : ((8 : Int32)).toInt = 8 := by decide
  rw [c1, c8] at g
  have e1 : (v * 10).toInt = 10 * v.toInt := by
    rw [Int64.toInt_mul, show ((10 : Int64)).toInt = 10 by decide, Int.mul_comm]
    exact Int.bmod_eq_of_le (by omega) (by omega)
  refine ⟨?_, by rw [Int64.mul_comm], by omega, by omega⟩
  rw [Int64.toInt_sub, e1, hd]
  refine Int.bmod_eq_of_le ?_ ?_
  · by_cases q : v.toInt = -922337203685477580
    · omega
    · omega
  · omega
theorem paE_none (less : Bool) : paE less none = none := rfl
theorem k_parse_l (ty : kTY σ) {h M a n : Nat} (kh : σ.2.2.2.1 h = (21, M)) (hM : M ≤ 600000) (ha : a + n ≤ M) (xa xn x4 x5 x6 : Int32) (less : Bool) (e4 : x4 = if less = true then 1 else 0) (e6 : x6 = nI (a + n)) : ∀ (f k : Nat) (v : Int64) (x9 : Int32) (o10 : Option Value), k + f = n → x9 = nI (a + k) → v.toInt ≤ 0 →
    kjY kPP (kQQ Y) d 110 54 [some (.ref 53), some (.ref h), some (.int xa), some (.int xn), some (.int x4), some (.int x5), some (.int x6), some (.long v), none, some (.int x9), o10] [] σ (paK σ (paE less (iaL (wd (σ.1 h) (a + k) f) v))) := by
  intro f
  induction f with
  | zero =>
    intro k v x9 o10 hk e9 hv
    rw [wd_0]
    show kjY _ _ _ _ _ _ _ _ (paK σ (if less = false ∧ v = -9223372036854775808 then none else some (if less = true then v else -v)))
    refine kjZ_y rfl rfl 3 _ _ _ _ ty ?_
    refine And.intro (fun c => ?_) (fun c => ?_)
    rotate_left
    · exact absurd (show x6 ≤ x9 by rw [e6, e9, nle (by omega) (by omega)]; omega) c
    cases less with
    | true =>
      refine kjZ_y rfl rfl 2 _ _ _ _ ty ?_
      refine And.intro (fun c2 => ?_) (fun c2 => ?_)
      rotate_left
      · exact absurd (show ¬ x4 = 0 by rw [e4]; decide) c2
      refine kjZ_y rfl rfl 3 _ _ _ _ ty ?_
      refine And.intro (fun c3 => ?_) (fun c3 => ?_)
      · exact absurd (show x4 = 0 from c3) (by rw [e4]; decide)
      refine kjZ_y rfl rfl 5 _ _ _ _ ty ?_
      refine (And.intro (ty.k (by decide) rfl) (And.intro rfl (fun ty' => And.intro rfl (And.intro (Or.inr (Or.inl ⟨rfl, Or.inr rfl⟩)) ?_))))
      exact ⟨rfl, rfl⟩
    | false =>
      have c0 : x4 = 0 := by rw [e4]; rfl
      refine kjZ_y rfl rfl 2 _ _ _ _ ty ?_
      refine And.intro (fun c2 => ?_) (fun c2 => ?_)
      · exact absurd c0 c2
      have go : ¬ v = -9223372036854775808 → kjY kPP (kQQ Y) d 110 100 [some (.ref 53), some (.ref h), some (.int xa), some (.int xn), some (.int x4), some (.int x5), some (.int x6), some (.long v), none, some (.int x9), o10] [] σ (paK σ (if false = false ∧ v = -9223372036854775808 then none else some (if false = true then v else -v))) := by
        intro hn
        rw [if_neg (fun z => hn z.2)]
        refine kjZ_y rfl rfl 3 _ _ _ _ ty ?_
        refine And.intro (fun c3 => ?_) (fun c3 => ?_)
        · refine kjZ_y rfl rfl 5 _ _ _ _ ty ?_
          refine (And.intro (ty.k (by decide) rfl) (And.intro rfl (fun ty' => And.intro rfl (And.intro (Or.inr (Or.inl ⟨rfl, Or.inr rfl⟩)) ?_))))
          exact ⟨rfl, rfl⟩
        · exact absurd c0 c3
      refine kjZ_y rfl rfl 4 _ _ _ _ ty ?_
      refine And.intro (fun c3 => ?_) (fun c3 => ?_)
      · exact go (fun z => c3 ((lg_cmp_eq _ _).mpr z))
      · have c3 : lg_cmp v (Int64.ofInt (-9223372036854775808)) = 0 := Decidable.not_not.mp c3
        have c3 : v = -9223372036854775808 := (lg_cmp_eq _ _).mp c3
        rw [if_pos ⟨rfl, c3⟩]
        refine kjZ_y rfl rfl 2 _ _ _ _ ty ?_
        refine And.intro rfl (And.intro (Or.inr (Or.inl ⟨rfl, Or.inl rfl⟩)) ?_)
        exact ⟨rfl, rfl⟩
  | succ f ih =>
    intro k v x9 o10 hk e9 hv
    have v9 : vp_in x9 M := by rw [e9]; exact vp_in_nI (by omega) (by omega)
    have c9 : x9.toNatClampNeg = a + k := by rw [e9]; exact nI_clamp (by omega)
    rw [wd_s]
    have bad : iaD v (σ.1 h (a + k)) = none → ∀ o10, kjY kPP (kQQ Y) d 110 81 [some (.ref 53), some (.ref h), some (.int xa), some (.int xn), some (.int x4), some (.int x5), some (.int x6), some (.long v), none, some (.int x9), o10] [] σ (paK σ (paE less (iaL (σ.1 h (a + k) :: wd (σ.1 h) (a + k + 1) f) v))) := by
      intro hb o10
      have e : iaL (σ.1 h (a + k) :: wd (σ.1 h) (a + k + 1) f) v = none := by
        show (match iaD v (σ.1 h (a + k)) with | none => none | some v' => iaL _ v') = none
        rw [hb]
      rw [e]
      refine kjZ_y rfl rfl 2 _ _ _ _ ty ?_
      refine And.intro rfl (And.intro (Or.inr (Or.inl ⟨rfl, Or.inl rfl⟩)) ?_)
      exact ⟨rfl, rfl⟩
    have eb : σ.1 h x9.toNatClampNeg - (Int8.ofInt 48).toInt32 = σ.1 h (a + k) - 48 := by rw [c9]; rfl
    refine kjZ_y rfl rfl 3 _ _ _ _ ty ?_
    refine And.intro (fun c => ?_) (fun c => ?_)
    · exact absurd (show x6 ≤ x9 from c) (by rw [e6, e9, nle (by omega) (by omega)]; omega)
    refine kjZ_y rfl rfl 8 _ _ _ _ ty ?_
    refine (Or.inl (And.intro (kdk kh) (And.intro (kdv kh v9) (And.intro (Nat.le_of_ble_eq_true rfl) (And.intro (fun c1 => ?_) (fun c1 => ?_))))))
    · refine bad ?_ _
      have c1 : σ.1 h x9.toNatClampNeg - (Int8.ofInt 48).toInt32 < 0 := c1
      rw [eb] at c1
      unfold iaD; rw [if_pos (Or.inl c1)]
    have c1 : ¬ σ.1 h x9.toNatClampNeg - (Int8.ofInt 48).toInt32 < 0 := c1
    rw [eb] at c1
    refine kjZ_y rfl rfl 3 _ _ _ _ ty ?_
    refine And.intro (fun c2 => ?_) (fun c2 => ?_)
    · refine bad ?_ _
      have c2 : (Int8.ofInt 9).toInt32 < σ.1 h x9.toNatClampNeg - (Int8.ofInt 48).toInt32 := c2
      rw [eb] at c2
      have c2 : (9 : Int32) < σ.1 h (a + k) - 48 := c2
      unfold iaD; rw [if_pos (Or.inr c2)]
    have c2 : ¬ (Int8.ofInt 9).toInt32 < σ.1 h x9.toNatClampNeg - (Int8.ofInt 48).toInt32 := c2
    rw [eb] at c2
    have hdg : ¬ (σ.1 h (a + k) - 48 < 0 ∨ 9 < σ.1 h (a + k) - 48) := fun z => z.elim c1 c2
    have hdd := ia_dig hv hdg
    refine kjZ_y rfl rfl 4 _ _ _ _ ty ?_
    refine And.intro (fun c3 => ?_) (fun c3 => ?_)
    · refine bad ?_ _
      have c3 : v < -922337203685477580 := (lg_cmp_lt _ _).mp c3
      unfold iaD; rw [if_neg hdg, if_pos (Or.inl c3)]
    have c3 : ¬ v < -922337203685477580 := fun z => c3 ((lg_cmp_lt _ _).mpr z)
    refine kjZ_y rfl rfl 9 _ _ _ _ ty ?_
    refine And.intro (fun c4 => ?_) (fun c4 => ?_)
    rotate_left
    · refine bad ?_ _
      have c4 : ¬ (0 : Int32) ≤ lg_cmp ((10 : Int64) * v) (-9223372036854775808 + (σ.1 h x9.toNatClampNeg - (Int8.ofInt 48).toInt32).toInt64) := c4
      rw [lg_cmp_ge, eb] at c4
      have c4 := Int64.not_le.mp c4
      unfold iaD; rw [if_neg hdg, if_pos]
      exact Decidable.byContradiction fun z => (hdd.mpr z).2 c4
    have c4 : (0 : Int32) ≤ lg_cmp ((10 : Int64) * v) (-9223372036854775808 + (σ.1 h x9.toNatClampNeg - (Int8.ofInt 48).toInt32).toInt64) := c4
    rw [lg_cmp_ge, eb] at c4
    have hg := hdd.mp ⟨c3, Int64.not_lt.mpr c4⟩
    obtain ⟨n1, n2, n3, n4⟩ := ia_next hv hdg hg
    have ev : iaL (σ.1 h (a + k) :: wd (σ.1 h) (a + k + 1) f) v = iaL (wd (σ.1 h) (a + (k + 1)) f) (v * 10 - (σ.1 h (a + k) - 48).toInt64) := by
      show (match iaD v (σ.1 h (a + k)) with | none => none | some v' => iaL _ v') = _
      unfold iaD; rw [if_neg hdg, if_neg hg]; rfl
    rw [ev]
    refine kjZ_y rfl rfl 9 _ _ _ _ ty ?_
    refine (And.intro (Nat.le_of_ble_eq_true rfl) ?_)
    have e8 : (10 : Int64) * v - (σ.1 h x9.toNatClampNeg - (Int8.ofInt 48).toInt32).toInt64 = v * 10 - (σ.1 h (a + k) - 48).toInt64 := by rw [eb]; exact n2
    have go : ∀ v' o, v' = v * 10 - (σ.1 h (a + k) - 48).toInt64 → kjY kPP (kQQ Y) d 110 54 [some (.ref 53), some (.ref h), some (.int xa), some (.int xn), some (.int x4), some (.int x5), some (.int x6), some (.long v'), none, some (.int (x9 + Int32.ofInt 1)), o] [] σ (paK σ (paE less (iaL (wd (σ.1 h) (a + (k + 1)) f) (v * 10 - (σ.1 h (a + k) - 48).toInt64)))) := by
      intro v' o ev'
      rw [← ev']
      exact ih (k + 1) v' _ o (by omega) (by rw [e9]; exact nI_1 _) (by rw [ev', n1]; omega)
    exact go _ _ e8
/-- twenty digits are too many -/
theorem iaL_le : ∀ (w : List Int32) (v z : Int64), v.toInt ≤ 0 → iaL w v = some z → z.toInt ≤ (10 ^ w.length : Nat) * v.toInt := by
  intro w
  induction w with
  | nil => intro v z _ h; have h : some v = some z := h; cases h; show _ ≤ (1 : Nat) * v.toInt; omega
  | cons b r ih =>
    intro v z hv h
    have h : (match iaD v b with | none => none | some v' => iaL r v') = some z := h
    unfold iaD at h
    by_cases c : b - 48 < 0 ∨ 9 < b - 48
    · rw [if_pos c] at h; cases h
    · rw [if_neg c] at h
      by_cases g : v < -922337203685477580 ∨ (v = -922337203685477580 ∧ 8 < b - 48)
      · rw [if_pos g] at h; cases h
      · rw [if_neg g] at h
        have h : iaL r (v * 10 - (b - 48).toInt64) = some z := h
        obtain ⟨n1, n2, n3, n4⟩ := ia_next hv c g
        have q := ih _ z (by rw [n1]; omega) h
        rw [n1] at q
        refine Int.le_trans q ?_
        rw [List.length_cons, Nat.pow_succ]
        have hp : (0 : Int) ≤ ((10 ^ r.length : Nat) : Int) := Int.natCast_nonneg _
        have e : (((10 ^ r.length * 10 : Nat)) : Int) * v.toInt = ((10 ^ r.length : Nat) : Int) * (10 * v.toInt) := by
          rw [Int.natCast_mul, Int.mul_assoc]; rfl
        rw [e]
        exact Int.mul_le_mul_of_nonneg_left (by omega) hp
theorem iaL_20 {b : Int32} {r : List Int32} (hb : ¬ b = 48) (hr : r.length = 19) : iaL (b :: r) 0 = none := by
  cases h : iaL (b :: r) 0 with
  | none => rfl
  | some z =>
    exfalso
    have h : (match iaD 0 b with | none => none | some v' => iaL r v') = some z := h
    unfold iaD at h
    by_cases c : b - 48 < 0 ∨ 9 < b - 48
    · rw [if_pos c] at h; cases h
    · rw [if_neg c] at h
      have g : ¬ ((0 : Int64) < -922337203685477580 ∨ ((0 : Int64) = -922337203685477580 ∧ 8 < b - 48)) := fun y => by
        rcases y with y | y
        · exact absurd y (by decide)
        · exact absurd y.1 (by decide)
      rw [if_neg g] at h
      obtain ⟨n1, n2, n3, n4⟩ := ia_next (v := 0) (by decide) c g
      have q := iaL_le r _ z (by rw [n1]; show 10 * 0 - _ ≤ (0 : Int); omega) h
      rw [n1, hr] at q
      have hb1 : ¬ (b - 48).toInt = 0 := fun y => hb (by
        have y2 : b - 48 = 0 := Int32.toInt_inj.mp y
        have := congrArg (fun t => t + 48) y2
        have e : b - 48 + 48 = b := Int32.sub_add_cancel b 48
        rw [← e, y2]; rfl)
      have q : z.toInt ≤ ((10 ^ 19 : Nat) : Int) * (10 * 0 - (b - 48).toInt) := q
      have hz := Int64.le_toInt z
      have e19 : ((10 ^ 19 : Nat) : Int) = 10000000000000000000 := by decide
      rw [e19] at q
      omega
theorem k_parse (ty : kTY σ) {h M a n : Nat} (kh : σ.2.2.2.1 h = (21, M)) (hM : M ≤ 600000) (ha : a + n ≤ M) (xa xn : Int32) (ea : xa = nI a) (en : xn = nI n) :
    kjY kPP (kQQ Y) d 110 0 (mjL0 11 [.ref 53, .ref h, .int xa, .int xn]) [] σ (paK σ (intF (wd (σ.1 h) a n))) := by
  have no : intF (wd (σ.1 h) a n) = none → kjY kPP (kQQ Y) d 110 14 [some (.ref 53), some (.ref h), some (.int xa), some (.int xn), none, none, none, none, none, none, none] [] σ (paK σ (intF (wd (σ.1 h) a n))) := by
    intro e
    rw [e]
    refine kjZ_y rfl rfl 2 _ _ _ _ ty ?_
    refine And.intro rfl (And.intro (Or.inr (Or.inl ⟨rfl, Or.inl rfl⟩)) ?_)
    exact ⟨rfl, rfl⟩
  refine kjZ_y rfl rfl 2 _ _ _ _ ty ?_
  refine And.intro (fun c => ?_) (fun c => ?_)
  · exact absurd (show xa < 0 from c) (by rw [ea]; exact nI_n0 (by omega))
  refine kjZ_y rfl rfl 3 _ _ _ _ ty ?_
  refine And.intro (fun c1 => ?_) (fun c1 => ?_)
  · refine no ?_
    have c1 : xn < nI 1 := c1
    rw [en, nlt (by omega) (by omega)] at c1
    rw [show n = 0 by omega]; rfl
  have c1 : ¬ xn < nI 1 := c1
  rw [en, nlt (by omega) (by omega)] at c1
  obtain ⟨m, rfl⟩ : ∃ m, n = m + 1 := ⟨n - 1, by omega⟩
  have ew := wd_s (σ.1 h) a m
  refine kjZ_y rfl rfl 3 _ _ _ _ ty ?_
  refine And.intro (fun c2 => ?_) (fun c2 => ?_)
  · refine no ?_
    have c2 : (Int8.ofInt 20).toInt32 < xn := c2
    rw [en, show (Int8.ofInt 20).toInt32 = nI 20 by decide, nlt (by omega) (by omega)] at c2
    rw [ew]
    show (if σ.1 h a = 45 then iaB true (wd (σ.1 h) (a + 1) m) else iaB false (σ.1 h a :: wd (σ.1 h) (a + 1) m)) = none
    by_cases z : σ.1 h a = 45
    · rw [if_pos z]; unfold iaB; rw [if_pos (by rw [wd_len]; omega)]
    · rw [if_neg z]; unfold iaB; rw [if_pos (by rw [List.length_cons, wd_len]; omega)]
  have c2 : ¬ (Int8.ofInt 20).toInt32 < xn := c2
  rw [en, show (Int8.ofInt 20).toInt32 = nI 20 by decide, nlt (by omega) (by omega)] at c2
  refine kjZ_y rfl rfl 6 _ _ _ _ ty ?_
  refine (Or.inl (And.intro (kdq kh) (And.intro (fun c3 => ?_) (fun c3 => ?_))))
  rotate_left
  · refine absurd (show xn ≤ nI (σ.2.2.2.1 h).2 - xa from ?_) c3
    rw [kh, ea, en, pk_sub (by omega), nle (by omega) (by omega)]; omega
  have va : vp_in xa M := by rw [ea]; exact vp_in_nI (by omega) (by omega)
  have ca : xa.toNatClampNeg = a := by rw [ea]; exact nI_clamp (by omega)
  -- from the sign on
  have sign : ∀ (less : Bool) (x4 x5 : Int32) (b0 : Nat), x4 = (if less = true then 1 else 0) → x5 = nI b0 → ((less = true ∧ b0 = a + 1) ∨ (less = false ∧ b0 = a)) → intF (wd (σ.1 h) a (m + 1)) = iaB less (wd (σ.1 h) b0 (a + (m + 1) - b0)) →
      kjY kPP (kQQ Y) d 110 33 [some (.ref 53), some (.ref h), some (.int xa), some (.int xn), some (.int x4), some (.int x5), none, none, none, none, none] [] σ (paK σ (intF (wd (σ.1 h) a (m + 1)))) := by
    intro less x4 x5 b0 e4 e5 hb0 ei
    have e6 : xa + xn = nI (a + (m + 1)) := by rw [ea, en, nI_add]
    have hb0l : b0 ≤ a + (m + 1) := by omega
    have no2 : iaB less (wd (σ.1 h) b0 (a + (m + 1) - b0)) = none → ∀ x6, kjY kPP (kQQ Y) d 110 48 [some (.ref 53), some (.ref h), some (.int xa), some (.int xn), some (.int x4), some (.int x5), some (.int x6), none, none, none, none] [] σ (paK σ (intF (wd (σ.1 h) a (m + 1)))) := by
      intro e x6
      rw [ei, e]
      refine kjZ_y rfl rfl 2 _ _ _ _ ty ?_
      refine And.intro rfl (And.intro (Or.inr (Or.inl ⟨rfl, Or.inl rfl⟩)) ?_)
      exact ⟨rfl, rfl⟩
    refine kjZ_y rfl rfl 7 _ _ _ _ ty ?_
    refine (And.intro (Nat.le_of_ble_eq_true rfl) (And.intro (fun c4 => ?_) (fun c4 => ?_)))
    · refine no2 ?_ _
      have c4 : x5 = xa + xn := c4
      rw [e5, e6] at c4
      have := (nI_eq (by omega) (by omega)).mp c4
      unfold iaB; rw [if_pos (by rw [wd_len]; omega)]
    have c4 : ¬ x5 = xa + xn := c4
    rw [e5, e6] at c4
    have hlt : b0 < a + (m + 1) := Nat.lt_of_le_of_ne hb0l (fun z => c4 (by rw [z]))
    obtain ⟨q, hq⟩ : ∃ q, a + (m + 1) - b0 = q + 1 := ⟨a + (m + 1) - b0 - 1, by omega⟩
    have v5 : vp_in x5 M := by rw [e5]; exact vp_in_nI (by omega) (by omega)
    have c5 : x5.toNatClampNeg = b0 := by rw [e5]; exact nI_clamp (by omega)
    have eh : wd (σ.1 h) b0 (a + (m + 1) - b0) = σ.1 h b0 :: wd (σ.1 h) (b0 + 1) q := by rw [hq, wd_s]
    have go : ¬ (σ.1 h b0 = 48 ∧ (1 < q + 1 ∨ less = true)) → kjY kPP (kQQ Y) d 110 50 [some (.ref 53), some (.ref h), some (.int xa), some (.int xn), some (.int x4), some (.int x5), some (.int (xa + xn)), none, none, none, none] [] σ (paK σ (intF (wd (σ.1 h) a (m + 1)))) := by
      intro hz
      refine kjZ_y rfl rfl 4 _ _ _ _ ty ?_
      refine (And.intro (Nat.le_of_ble_eq_true rfl) (And.intro (Nat.le_of_ble_eq_true rfl) ?_))
      have r := k_parse_l (Y := Y) (d := d) ty kh hM (a := b0) (n := a + (m + 1) - b0) (by omega) xa xn x4 x5 (xa + xn) less e4 (by rw [e6]; congr 1; omega) (a + (m + 1) - b0) 0 0 x5 none (by omega) (by rw [e5]; congr 1) (by decide)
      have ez : intF (wd (σ.1 h) a (m + 1)) = paE less (iaL (wd (σ.1 h) (b0 + 0) (a + (m + 1) - b0)) 0) := by
        rw [ei]
        show iaB less (wd (σ.1 h) b0 (a + (m + 1) - b0)) = paE less (iaL (wd (σ.1 h) b0 (a + (m + 1) - b0)) 0)
        rw [eh]
        unfold iaB
        have hl : (σ.1 h b0 :: wd (σ.1 h) (b0 + 1) q).length = q + 1 := by rw [List.length_cons, wd_len]
        rw [hl]
        by_cases t : q + 1 = 20
        · rw [if_pos (by omega)]
          have h48 : ¬ σ.1 h b0 = 48 := fun z => hz ⟨z, Or.inl (by omega)⟩
          rw [iaL_20 h48 (by rw [wd_len]; omega)]; rfl
        · rw [if_neg (by omega), if_neg (fun z => hz ⟨Option.some.inj z.1, z.2⟩)]
          cases iaL (σ.1 h b0 :: wd (σ.1 h) (b0 + 1) q) 0 <;> rfl
      rw [ez]; exact r
    refine kjZ_y rfl rfl 5 _ _ _ _ ty ?_
    refine (Or.inl (And.intro (kdk kh) (And.intro (kdv kh v5) (And.intro (fun c6 => ?_) (fun c6 => ?_)))))
    · refine go (fun z => ?_)
      have c6 : ¬ σ.1 h x5.toNatClampNeg = (Int8.ofInt 48).toInt32 := c6
      rw [c5] at c6
      exact c6 z.1
    have c6 : σ.1 h x5.toNatClampNeg = (Int8.ofInt 48).toInt32 := Decidable.not_not.mp c6
    rw [c5] at c6
    refine kjZ_y rfl rfl 3 _ _ _ _ ty ?_
    refine And.intro (fun c7 => ?_) (fun c7 => ?_)
    · refine go (fun z => ?_)
      have c7 : xn ≤ nI 1 := c7
      rw [en, nle (by omega) (by omega)] at c7
      rcases hb0 with y | y
      · omega
      · rcases z.2 with z2 | z2
        · omega
        · rw [y.1] at z2; cases z2
    · refine no2 ?_ _
      have c7 : ¬ xn ≤ nI 1 := c7
      rw [en, nle (by omega) (by omega)] at c7
      rw [eh]
      unfold iaB
      have hl : (σ.1 h b0 :: wd (σ.1 h) (b0 + 1) q).length = q + 1 := by rw [List.length_cons, wd_len]
      rw [hl]
      by_cases t : q + 1 < 1 ∨ 19 < q + 1
      · rw [if_pos t]
      · rw [if_neg t, if_pos]
        refine ⟨by show some (σ.1 h b0) = some 48; rw [c6]; rfl, ?_⟩
        rcases hb0 with y | y
        · exact Or.inr y.1
        · left; omega
  refine kjZ_y rfl rfl 5 _ _ _ _ ty ?_
  refine (Or.inl (And.intro (kdk kh) (And.intro (kdv kh va) (And.intro (fun c4 => ?_) (fun c4 => ?_)))))
  · have c4 : ¬ σ.1 h xa.toNatClampNeg = (Int8.ofInt 45).toInt32 := c4
    rw [ca] at c4
    have c4 : ¬ σ.1 h a = 45 := c4
    refine kjZ_y rfl rfl 4 _ _ _ _ ty ?_
    refine (And.intro (Nat.le_of_ble_eq_true rfl) (And.intro (fun c5 => ?_) (fun c5 => ?_)))
    · refine kjZ_y rfl rfl 2 _ _ _ _ ty ?_
      refine (And.intro (Nat.le_of_ble_eq_true rfl) ?_)
      refine sign false _ xa a rfl ea (Or.inr ⟨rfl, rfl⟩) ?_
      rw [show a + (m + 1) - a = m + 1 by omega, ew]
      show (if σ.1 h a = 45 then _ else _) = _
      rw [if_neg c4]
    · exact absurd rfl c5
  · have c4 : σ.1 h xa.toNatClampNeg = (Int8.ofInt 45).toInt32 := Decidable.not_not.mp c4
    rw [ca] at c4
    have c4 : σ.1 h a = 45 := c4
    refine kjZ_y rfl rfl 5 _ _ _ _ ty ?_
    refine (And.intro (Nat.le_of_ble_eq_true rfl) (And.intro (fun c5 => ?_) (fun c5 => ?_)))
    · exact absurd (show (1 : Int32) = 0 from c5) (by decide)
    · refine kjZ_y rfl rfl 5 _ _ _ _ ty ?_
      refine (And.intro (Nat.le_of_ble_eq_true rfl) ?_)
      refine sign true _ _ (a + 1) rfl (by rw [ea]; exact nI_1 a) (Or.inl ⟨rfl, rfl⟩) ?_
      rw [show a + (m + 1) - (a + 1) = m by omega, ew]
      show (if σ.1 h a = 45 then _ else _) = _
      rw [if_pos c4]
end KPARSE
