/-! spell: the digits of a number. -/
theorem lN_pow_toInt {k : Nat} (hk : k ≤ 18) : (lN (10 ^ k)).toInt = (10 ^ k : Nat) := pk_lT (Nat.lt_of_le_of_lt (Nat.pow_le_pow_right (by decide) hk) (by decide))
theorem lN_pow_ne {k : Nat} (hk : k ≤ 18) : ¬ lN (10 ^ k) = 0 := by
  intro e
  have h := lN_pow_toInt hk
  rw [e] at h
  have h2 : 0 < 10 ^ k := Nat.pow_pos (by decide)
  have h3 : (0 : Int64).toInt = 0 := by decide
  rw [h3] at h
  omega
theorem lN_pow_m1 {k : Nat} (hk : k ≤ 18) : lN (10 ^ k) ≠ -1 := by
  intro e
  have h := lN_pow_toInt hk
  rw [e] at h
  have h3 : (-1 : Int64).toInt = -1 := by decide
  rw [h3] at h
  have h2 : (0 : Int) ≤ ((10 ^ k : Nat) : Int) := Int.natCast_nonneg _
  rw [← h] at h2
  exact absurd h2 (by decide)
/-- v without its sign -/
def mg (v : Int64) : Nat := v.toInt.natAbs
theorem mg_le (v : Int64) : mg v ≤ 9223372036854775808 := by
  have h1 := v.toInt_lt; have h2 := v.le_toInt
  unfold mg; omega
theorem mg_div (v : Int64) {k : Nat} (hk : k ≤ 18) : mg (v / lN (10 ^ k)) = mg v / 10 ^ k := by
  unfold mg
  rw [Int64.toInt_div_of_ne_right _ _ (lN_pow_m1 hk), lN_pow_toInt hk, Int.natAbs_tdiv, Int.natAbs_natCast]; rfl
theorem mg_10 (v : Int64) : mg (v / 10) = mg v / 10 := mg_div v (k := 1) (by decide)
theorem mg_0 {v : Int64} : v = 0 ↔ mg v = 0 := by
  unfold mg
  rw [Int.natAbs_eq_zero, ← Int64.toInt_inj]
  have h3 : (0 : Int64).toInt = 0 := by decide
  rw [h3]
/-- the remainder as the machine has it -/
theorem rem10 (a : Int64) : (a - a / 10 * 10).toInt = a.toInt.tmod 10 := by
  have h10 : (10 : Int64).toInt = 10 := by decide
  have hd : (a / 10).toInt = a.toInt.tdiv 10 := by rw [Int64.toInt_div_of_ne_right _ _ (by decide), h10]
  rw [Int64.toInt_sub, Int64.toInt_mul, hd, h10]
  have e : a.toInt - a.toInt.tdiv 10 * 10 = a.toInt.tmod 10 := by rw [Int.tmod_def]; omega
  have h1 := a.toInt_lt; have h2 := a.le_toInt
  have q1 : (a.toInt.tdiv 10).natAbs = a.toInt.natAbs / 10 := by rw [Int.natAbs_tdiv]; rfl
  have q2 : (a.toInt.tmod 10).natAbs = a.toInt.natAbs % 10 := by rw [Int.natAbs_tmod]; rfl
  have b : (a.toInt.tdiv 10 * 10).bmod (2 ^ 64) = a.toInt.tdiv 10 * 10 := by
    apply Int.bmod_eq_of_le
    · omega
    · omega
  rw [b, e]
  apply Int.bmod_eq_of_le
  · omega
  · omega
theorem mg_rem (a : Int64) : mg (a - a / 10 * 10) = mg a % 10 := by
  unfold mg; rw [rem10, Int.natAbs_tmod]; rfl
/-- a digit without its sign -/
theorem mg_abs (x : Int64) (hx : mg x ≤ 9) : (if x < 0 then -x else x) = lN (mg x) := by
  apply Int64.toInt_inj.mp
  rw [pk_lT (by omega)]
  unfold mg at hx ⊢
  have h0 : (0 : Int64).toInt = 0 := by decide
  by_cases c : x < 0
  · rw [if_pos c]
    have c2 := Int64.lt_iff_toInt_lt.mp c
    rw [h0] at c2
    rw [Int64.toInt_neg]
    rw [Int.bmod_eq_of_le (by omega) (by omega)]; omega
  · rw [if_neg c]
    have c2 : ¬ x.toInt < 0 := fun q => c (Int64.lt_iff_toInt_lt.mpr (by rw [h0]; exact q))
    omega
theorem lN_pow_div {k : Nat} (hk : k + 1 ≤ 18) : lN (10 ^ (k + 1)) / Int64.ofInt 10 = lN (10 ^ k) := by
  rw [show Int64.ofInt 10 = lN 10 from rfl, pk_lDiv (Nat.lt_of_le_of_lt (Nat.pow_le_pow_right (by decide) hk) (by decide)) (by decide) (by decide), Nat.pow_succ, Nat.mul_div_cancel _ (by decide)]
theorem nI_b8 : ∀ n, n < 128 → (nI n).toInt8.toInt32 = nI n := by decide +kernel
theorem dg_byte {y : Int64} {g : Nat} (hg : g ≤ 9) (e : y = lN g) : (Int64.ofInt 48 + y).toInt32.toInt8.toInt32 = nI (48 + g) := by
  rw [e, show Int64.ofInt 48 = lN 48 from rfl, lN_add, lN_i, nI_b8 _ (by omega)]
section SPELL
variable {Y : Nat → MethodName × ByteArray} {d : Nat} {K : mjK}
abbrev sF : List Nat := [f_digitsSize]
abbrev sH : List Nat := [r_digits]
theorem t10 : Int64.ofInt 10 = 10 := by decide
theorem t0 : Int64.ofNat ((0 : Fin 2) : Nat) = 0 := by decide
set_option maxRecDepth 100000 in
/-- one digit -/
theorem sp2b (v : Int64) (z k : Nat) (hz : z < 24) (hk : k ≤ 18) (x3 : Int32) (σ : mjS) (x6 : Int64) (x8 : Int32) (l9 l10 : Option Value) (e6 : x6 = lN (10 ^ k)) (e8 : x8 = nI k) (ty : mjTY σ) (ez : σ.1 f_digitsSize = nI z)
    (hK : ∀ u l9' l10', mjTY u → Fr sF sH σ u → u.1 f_digitsSize = nI (z + 1) → (∀ j, u.2.2.1 r_digits j = if j = z then nI (48 + mg v / 10 ^ k % 10) else σ.2.2.1 r_digits j) → mjY mjPP (mjQQ Y) d 28 37 [some (.ref 0), some (.long v), none, some (.int x3), some (.long v), none, some (.long (x6 / Int64.ofInt 10)), none, some (.int (x8 + Int32.ofInt (-1))), l9', l10'] [] u K) :
    mjY mjPP (mjQQ Y) d 28 37 [some (.ref 0), some (.long v), none, some (.int x3), some (.long v), none, some (.long x6), none, some (.int x8), l9, l10] [] σ K := by
  have mid : ∀ y : Int64, y = lN (mg v / 10 ^ k % 10) → mjY mjPP (mjQQ Y) d 28 52 [some (.ref 0), some (.long v), none, some (.int x3), some (.long v), none, some (.long x6), none, some (.int x8), some (.long y), none] [] σ K := by
    intro y ey
    refine mjZ_y rfl rfl 22 _ _ _ _ ty ?_
    refine And.intro rfl (And.intro rfl (And.intro (Or.inl ⟨rfl, b8 _⟩) (And.intro ?_ (fun ty1 => ?_))))
    · show vp_in (σ.1 f_digitsSize) 24
      rw [ez]; exact vp_in_nI (by omega) (by omega)
    · refine And.intro rfl (And.intro rfl (And.intro (Or.inl rfl) (fun ty2 => ?_)))
      refine And.intro (by decide) (And.intro (Nat.le_of_ble_eq_true rfl) ?_)
      refine hK _ _ _ ty2 ((Fr.a (by decide)).tr (Fr.i (by decide))) ?_ ?_
      · show upd σ.1 f_digitsSize (σ.1 f_digitsSize + 1) f_digitsSize = _
        rw [pk_us, ez]; exact nI_1 z
      · intro j
        show mjIu σ.2.2.1 r_digits (σ.1 f_digitsSize).toNatClampNeg ((Int64.ofInt 48 + y).toInt32.toInt8.toInt32) r_digits j = _
        rw [mjIu_at, ez, nI_clamp (by omega), dg_byte (by omega) ey]
        by_cases c : j = z
        · rw [if_pos ⟨rfl, c⟩, if_pos c]
        · rw [if_neg (fun q => c q.2), if_neg c]
  have hy : mg (v / x6 - v / x6 / Int64.ofInt 10 * Int64.ofInt 10) = mg v / 10 ^ k % 10 := by
    rw [t10, mg_rem, e6, mg_div v hk]
  have hab := mg_abs (v / x6 - v / x6 / Int64.ofInt 10 * Int64.ofInt 10) (by rw [hy]; omega)
  refine mjZ_y rfl rfl 15 _ _ _ _ ty ?_
  refine And.intro (fun c => absurd c (by rw [e8]; exact nI_pos (by omega))) (fun _ => ?_)
  refine And.intro (by rw [e6]; exact lN_pow_ne hk) (And.intro (by decide) (And.intro (Nat.le_of_ble_eq_true rfl) ?_))
  refine And.intro (fun c => ?_) (fun c => ?_)
  · refine mjZ_re rfl rfl 0 ty ?_
    refine mid _ ?_
    have c2 : 0 ≤ v / x6 - v / x6 / Int64.ofInt 10 * Int64.ofInt 10 := (lg_cmp_ge _ _).mp c
    rw [if_neg (Int64.not_lt.mpr c2), hy] at hab
    exact hab
  · refine mjZ_re rfl rfl 3 ty ?_
    refine And.intro (Nat.le_of_ble_eq_true rfl) ?_
    refine mid _ ?_
    have c2 : (v / x6 - v / x6 / Int64.ofInt 10 * Int64.ofInt 10) < 0 := Int64.not_le.mp (fun q => c ((lg_cmp_ge _ _).mpr q))
    rw [if_pos c2, hy] at hab
    exact hab
set_option maxRecDepth 100000 in
theorem sp2 (v : Int64) (s N : Nat) (hs : s ≤ 1) (hN : N ≤ 18) (x3 : Int32) : ∀ (k : Nat) (σ : mjS) (x6 : Int64) (x8 : Int32) (l9 l10 : Option Value), k ≤ N → x6 = lN (10 ^ k) → x8 = nI k → mjTY σ → σ.1 f_digitsSize = nI (s + (N - k)) → (∀ j, j < N - k → σ.2.2.1 r_digits (s + j) = nI (48 + mg v / 10 ^ (N - j) % 10)) →
    (∀ u, mjTY u → Fr sF sH σ u → u.1 f_digitsSize = nI (s + N + 1) → (∀ j, j ≤ N → u.2.2.1 r_digits (s + j) = nI (48 + mg v / 10 ^ (N - j) % 10)) → (∀ j, j < s → u.2.2.1 r_digits j = σ.2.2.1 r_digits j) → K none u) →
    mjY mjPP (mjQQ Y) d 28 37 [some (.ref 0), some (.long v), none, some (.int x3), some (.long v), none, some (.long x6), none, some (.int x8), l9, l10] [] σ K := by
  intro k
  induction k with
  | zero =>
    intro σ x6 x8 l9 l10 hk e6 e8 ty ez hdg hK
    refine sp2b v (s + (N - 0)) 0 (by omega) (by omega) x3 σ x6 x8 l9 l10 e6 e8 ty ez (fun u l9' l10' tu fr eu ed => ?_)
    refine mjZ_y rfl rfl 3 _ _ _ _ tu ?_
    refine And.intro (fun _ => And.intro rfl (And.intro rfl ?_)) (fun c => absurd (show x8 + Int32.ofInt (-1) < 0 by rw [e8]; decide) c)
    refine hK u tu fr eu (fun j hj => ?_) (fun j hj => ?_)
    · rw [ed]
      by_cases c : s + j = s + (N - 0)
      · rw [if_pos c, show N - j = 0 by omega]
      · rw [if_neg c]; exact hdg j (by omega)
    · rw [ed, if_neg (by omega)]
  | succ k ih =>
    intro σ x6 x8 l9 l10 hk e6 e8 ty ez hdg hK
    refine sp2b v (s + (N - (k + 1))) (k + 1) (by omega) (by omega) x3 σ x6 x8 l9 l10 e6 e8 ty ez (fun u l9' l10' tu fr eu ed => ?_)
    refine ih u _ _ l9' l10' (by omega) (by rw [e6]; exact lN_pow_div (by omega)) (by rw [e8]; exact pk_m1 k) tu (by rw [eu]; exact congrArg nI (by omega)) (fun j hj => ?_) (fun w tw fw ew dw cw => hK w tw (fr.tr fw) ew dw (fun j hj => by rw [cw j hj, ed, if_neg (by omega)]))
    rw [ed]
    by_cases c : s + j = s + (N - (k + 1))
    · rw [if_pos c, show N - j = k + 1 by omega]
    · rw [if_neg c]; exact hdg j (by omega)
/-- the digits that spell a number -/
def Spelt (v : Int64) (u : mjS) : Prop := ∃ s N : Nat, N ≤ 18 ∧ ((v < 0 ∧ s = 1 ∧ u.2.2.1 r_digits 0 = 45) ∨ (¬ v < 0 ∧ s = 0)) ∧ mg v / 10 / 10 ^ N = 0 ∧ (N = 0 ∨ mg v / 10 / 10 ^ (N - 1) ≠ 0) ∧ u.1 f_digitsSize = nI (s + N + 1) ∧ ∀ j, j ≤ N → u.2.2.1 r_digits (s + j) = nI (48 + mg v / 10 ^ (N - j) % 10)
set_option maxRecDepth 100000 in
/-- how many digits -/
theorem sp1 (v : Int64) (s : Nat) (hs : s ≤ 1) : ∀ (j n : Nat) (σ : mjS) (x3 : Int32) (x6 : Int64) (l8 l9 l10 : Option Value), n + j = 18 → x3 = nI n → x6 = lN (10 ^ n) → mjTY σ → σ.1 f_digitsSize = nI s → (n = 0 ∨ mg v / 10 / 10 ^ (n - 1) ≠ 0) →
    (∀ u N, N ≤ 18 → mg v / 10 / 10 ^ N = 0 → (N = 0 ∨ mg v / 10 / 10 ^ (N - 1) ≠ 0) → mjTY u → Fr sF sH σ u → u.1 f_digitsSize = nI (s + N + 1) → (∀ j, j ≤ N → u.2.2.1 r_digits (s + j) = nI (48 + mg v / 10 ^ (N - j) % 10)) → (∀ j, j < s → u.2.2.1 r_digits j = σ.2.2.1 r_digits j) → K none u) →
    mjY mjPP (mjQQ Y) d 28 21 [some (.ref 0), some (.long v), none, some (.int x3), some (.long v), none, some (.long x6), none, l8, l9, l10] [] σ K := by
  intro j
  induction j with
  | zero =>
    intro n σ x3 x6 l8 l9 l10 hn e3 e6 ty ez hm hK
    have en : n = 18 := by omega
    have hz : mg v / 10 / 10 ^ n = 0 := by
      rw [en]; have := mg_le v
      exact Nat.div_eq_of_lt (by omega)
    have hq : v / Int64.ofInt 10 / x6 = 0 := mg_0.mpr (by rw [e6, mg_div _ (by omega), t10, mg_10, hz])
    refine mjZ_y rfl rfl 8 _ _ _ _ ty ?_
    refine And.intro (by decide) (And.intro (by rw [e6]; exact lN_pow_ne (by omega)) (And.intro (fun _ => ?_) (fun c => absurd ((lg_cmp_eq _ _).mpr hq) c)))
    refine mjZ_re rfl rfl 2 ty ?_
    refine And.intro (Nat.le_of_ble_eq_true rfl) ?_
    exact sp2 v s n hs (by omega) x3 n σ x6 x3 l9 l10 (Nat.le_refl _) e6 e3 ty (by rw [ez]; exact congrArg nI (by omega)) (fun j hj => by omega) (fun u tu fu eu du cu => hK u n (by omega) hz hm tu fu eu du cu)
  | succ j ih =>
    intro n σ x3 x6 l8 l9 l10 hn e3 e6 ty ez hm hK
    refine mjZ_y rfl rfl 8 _ _ _ _ ty ?_
    refine And.intro (by decide) (And.intro (by rw [e6]; exact lN_pow_ne (by omega)) (And.intro (fun c => ?_) (fun c => ?_)))
    · have hz : mg v / 10 / 10 ^ n = 0 := by
        have c2 : v / Int64.ofInt 10 / x6 = 0 := (lg_cmp_eq _ _).mp c
        have c3 := mg_0.mp c2
        rw [e6, mg_div _ (by omega), t10, mg_10] at c3
        exact c3
      refine mjZ_re rfl rfl 2 ty ?_
      refine And.intro (Nat.le_of_ble_eq_true rfl) ?_
      exact sp2 v s n hs (by omega) x3 n σ x6 x3 l9 l10 (Nat.le_refl _) e6 e3 ty (by rw [ez]; exact congrArg nI (by omega)) (fun j hj => by omega) (fun u tu fu eu du cu => hK u n (by omega) hz hm tu fu eu du cu)
    · have hz : mg v / 10 / 10 ^ n ≠ 0 := by
        intro q
        refine c ((lg_cmp_eq _ _).mpr (mg_0.mpr ?_))
        rw [e6, mg_div _ (by omega), t10, mg_10]; exact q
      refine mjZ_re rfl rfl 6 ty ?_
      refine And.intro (Nat.le_of_ble_eq_true rfl) ?_
      exact ih (n + 1) σ _ _ l8 l9 l10 (by omega) (by rw [e3]; exact nI_1 n) (by rw [e6, show Int64.ofInt 10 = lN 10 from rfl, lN_mul, Nat.pow_succ]) ty ez (Or.inr hz) hK
set_option maxRecDepth 100000 in
theorem c_spell {σ : mjS} (ty : mjTY σ) (v : Int64) : mjY mjPP (mjQQ Y) d 28 0 (mjL0 11 [.ref 0, .long v]) [] σ (fun r u => r = none ∧ Fr sF sH σ u ∧ Spelt v u) := by
  refine mjZ_y rfl rfl 11 _ _ _ _ ty ?_
  refine And.intro (Nat.le_of_ble_eq_true rfl) (And.intro (Nat.le_of_ble_eq_true rfl) (And.intro rfl (And.intro (Or.inl rfl) (fun ty1 => And.intro (fun c => ?_) (fun c => ?_)))))
  · have c2 : ¬ v < 0 := Int64.not_lt.mpr ((lg_cmp_ge _ _).mp c)
    refine mjZ_re rfl rfl 2 ty1 ?_
    refine And.intro (Nat.le_of_ble_eq_true rfl) ?_
    refine sp1 v 0 (by omega) 18 0 _ _ _ _ _ _ rfl rfl rfl ty1 (by show upd σ.1 f_digitsSize 0 f_digitsSize = _; rw [pk_us]; rfl) (Or.inl rfl) (fun u N hN hz hm tu fu eu du cu => ⟨rfl, (Fr.i (by decide)).tr fu, 0, N, hN, Or.inr ⟨c2, rfl⟩, hz, hm, eu, du⟩)
  · have c2 : v < 0 := Int64.not_le.mp (fun q => c ((lg_cmp_ge _ _).mpr q))
    refine mjZ_re rfl rfl 10 ty1 ?_
    refine And.intro rfl (And.intro (Or.inl ⟨rfl, by decide⟩) (And.intro (vp_in_nI (n := 0) (by decide) (by decide)) (fun ty2 => And.intro rfl (And.intro (Or.inl rfl) (fun ty3 => And.intro (Nat.le_of_ble_eq_true rfl) ?_)))))
    refine sp1 v 1 (by omega) 18 0 _ _ _ _ _ _ rfl rfl rfl ty3 (by show upd (upd σ.1 f_digitsSize 0) f_digitsSize 1 f_digitsSize = _; rw [pk_us]; rfl) (Or.inl rfl) (fun u N hN hz hm tu fu eu du cu => ⟨rfl, (((Fr.i (by decide)).tr (Fr.a (by decide))).tr (Fr.i (by decide))).tr fu, 1, N, hN, Or.inl ⟨c2, rfl, ?_⟩, hz, hm, eu, du⟩)
    rw [cu 0 (by omega)]
    show mjIu σ.2.2.1 r_digits 0 45 r_digits 0 = 45
    rw [mjIu_at, if_pos ⟨rfl, rfl⟩]
end SPELL
