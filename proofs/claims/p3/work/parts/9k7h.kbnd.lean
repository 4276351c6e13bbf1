/-! Orders: bounds. -/
def bdW (w : List Int32) : Option Int64 := intF (w.drop (if bdO w = true then 1 else 0))
/-- what comes ahead of a bound's edge -/
def bnP (w : List Int32) (upper : Bool) (s : Int64) : Bool := if isJ 162 w then false else if isJ 163 w then true else (match bdW w with
  | some n => decide (s < n ∨ ((¬ upper = bdO w) ∧ s = n))
  | none => false)
def bnO (w : List Int32) : Prop := isJ 162 w ∨ isJ 163 w ∨ ¬ bdW w = none
theorem bnP_num {w : List Int32} {upper : Bool} {s n : Int64} (h1 : ¬ isJ 162 w) (h2 : ¬ isJ 163 w) (h3 : bdW w = some n) : bnP w upper s = true ↔ (s < n ∨ ((¬ upper = bdO w) ∧ s = n)) := by
  unfold bnP; rw [if_neg h1, if_neg h2, h3]; exact decide_eq_true_iff
theorem bnP_mono {w : List Int32} {upper : Bool} {s t : Int64} (h : s ≤ t) (ht : bnP w upper t = true) : bnP w upper s = true := by
  by_cases h1 : isJ 162 w
  · unfold bnP at ht; rw [if_pos h1] at ht; cases ht
  by_cases h2 : isJ 163 w
  · unfold bnP; rw [if_neg h1, if_pos h2]
  cases h3 : bdW w with
  | none => unfold bnP at ht; rw [if_neg h1, if_neg h2, h3] at ht; cases ht
  | some n =>
    rw [bnP_num h1 h2 h3] at ht ⊢
    rcases ht with k | ⟨k1, k2⟩
    · exact Or.inl (Int64.lt_iff_toInt_lt.mpr (by have := Int64.le_iff_toInt_le.mp h; have := Int64.lt_iff_toInt_lt.mp k; omega))
    · rw [k2] at h
      by_cases k : s = n
      · exact Or.inr ⟨k1, k⟩
      · refine Or.inl (Int64.lt_iff_toInt_lt.mpr ?_)
        have := Int64.le_iff_toInt_le.mp h
        have : ¬ s.toInt = n.toInt := fun z => k (Int64.toInt_inj.mp z)
        omega
theorem i64_r (n : Int64) : -9223372036854775808 ≤ n.toInt ∧ n.toInt ≤ 9223372036854775807 := ⟨Int64.le_toInt n, by have := Int64.toInt_lt n; omega⟩
theorem i64_s1 {n : Int64} (h : ¬ n = mxL) : (n + 1).toInt = n.toInt + 1 := by
  have h1 : ¬ n.toInt = 9223372036854775807 := fun z => h (Int64.toInt_inj.mp (z.trans (by decide)))
  have h2 := i64_r n
  rw [Int64.toInt_add, show (1 : Int64).toInt = 1 by decide]
  exact Int.bmod_eq_of_le (by omega) (by omega)
theorem i64_p1 {n : Int64} (h : ¬ n = mnL) : (n - 1).toInt = n.toInt - 1 := by
  have h1 : ¬ n.toInt = -9223372036854775808 := fun z => h (Int64.toInt_inj.mp (z.trans (by decide)))
  have h2 := i64_r n
  rw [Int64.toInt_sub, show (1 : Int64).toInt = 1 by decide]
  exact Int.bmod_eq_of_le (by omega) (by omega)
theorem bd_162 {v : List Int32} : isF v 759778886 = 1 ↔ isJ 162 v := isT (by decide)
theorem bd_163 {v : List Int32} : isF v 726224454 = 1 ↔ isJ 163 v := isT (by decide)
/-- the lower bound -/
theorem bd_lo (v : List Int32) : (bdF v true 0 = none ↔ ¬ bnO v) ∧ ∀ p, bdF v true 0 = some p → ∀ s, (p.2 = 0 ∧ ¬ s < p.1) ↔ ¬ bnP v false s = true := by
  unfold bdF bnO
  by_cases h1 : isJ 162 v
  · rw [if_pos (bd_162.mpr h1)]
    refine ⟨⟨fun z => (by cases z), fun z => absurd (Or.inl h1) z⟩, fun p hp s => ?_⟩
    obtain rfl := Option.some.inj hp
    unfold bnP; rw [if_pos h1]
    refine ⟨fun _ => Bool.false_ne_true, fun _ => ⟨rfl, fun z => ?_⟩⟩
    have := Int64.lt_iff_toInt_lt.mp z
    have h2 := i64_r s
    rw [show (mnL).toInt = -9223372036854775808 by decide] at this
    omega
  rw [if_neg (fun z => h1 (bd_162.mp z))]
  by_cases h2 : isJ 163 v
  · rw [if_pos (bd_163.mpr h2)]
    refine ⟨⟨fun z => (by cases z), fun z => absurd (Or.inr (Or.inl h2)) z⟩, fun p hp s => ?_⟩
    obtain rfl := Option.some.inj hp
    unfold bnP; rw [if_neg h1, if_pos h2]
    exact ⟨fun z => absurd z.1 (by decide), fun z => absurd rfl z⟩
  rw [if_neg (fun z => h2 (bd_163.mp z))]
  show (Option.map _ (bdW v) = none ↔ _) ∧ ∀ p, Option.map _ (bdW v) = some p → _
  cases h3 : bdW v with
  | none => exact ⟨⟨fun _ z => z.elim h1 (fun z => z.elim h2 (fun z => z rfl)), fun _ => rfl⟩, fun p hp => by cases hp⟩
  | some n =>
    refine ⟨⟨fun z => (by cases z), fun z => absurd (Or.inr (Or.inr (fun y => (by cases y)))) z⟩, fun p hp s => ?_⟩
    obtain rfl := Option.some.inj hp
    rw [bnP_num h1 h2 h3]
    unfold bdN
    have hs := i64_r s
    cases ho : bdO v with
    | false =>
      rw [if_neg Bool.false_ne_true]
      show (0 = 0 ∧ ¬ s < n) ↔ _
      exact ⟨fun z y => y.elim z.2 (fun y => y.1 rfl), fun z => ⟨rfl, fun y => z (Or.inl y)⟩⟩
    | true =>
      rw [if_pos rfl, if_pos rfl]
      by_cases h4 : n = mxL
      · rw [if_pos h4]
        refine ⟨fun z => absurd z.1 (show ¬ (1 : Int32) = 0 by decide), fun z => absurd ?_ z⟩
        by_cases h5 : s = n
        · exact Or.inr ⟨by decide, h5⟩
        · refine Or.inl (Int64.lt_iff_toInt_lt.mpr ?_)
          have : ¬ s.toInt = n.toInt := fun z => h5 (Int64.toInt_inj.mp z)
          have h6 : n.toInt = 9223372036854775807 := by rw [h4]; decide
          omega
      · rw [if_neg h4]
        show (0 = 0 ∧ ¬ s < n + 1) ↔ _
        rw [Int64.lt_iff_toInt_lt, i64_s1 h4, Int64.lt_iff_toInt_lt]
        refine ⟨fun z y => z.2 ?_, fun z => ⟨rfl, fun y => z ?_⟩⟩
        · rcases y with y | y
          · omega
          · rw [y.2]; omega
        · by_cases h5 : s = n
          · exact Or.inr ⟨by decide, h5⟩
          · have : ¬ s.toInt = n.toInt := fun z => h5 (Int64.toInt_inj.mp z)
            exact Or.inl (by omega)
/-- the upper bound -/
theorem bd_hi (v : List Int32) (ns : Int32) : (bdF v false ns = none ↔ ¬ bnO v) ∧ ∀ p, bdF v false ns = some p → ∀ s, (p.2 = 0 ∧ ¬ p.1 < s) ↔ (ns = 0 ∧ bnP v true s = true) := by
  unfold bdF bnO
  by_cases h1 : isJ 162 v
  · rw [if_pos (bd_162.mpr h1)]
    refine ⟨⟨fun z => (by cases z), fun z => absurd (Or.inl h1) z⟩, fun p hp s => ?_⟩
    obtain rfl := Option.some.inj hp
    unfold bnP; rw [if_pos h1]
    refine ⟨fun z => ?_, fun z => absurd z.2 Bool.false_ne_true⟩
    have z1 : (if ¬ ns = 0 ∨ false = false then (1 : Int32) else 0) = 0 := z.1
    rw [if_pos (Or.inr rfl)] at z1; exact absurd z1 (by decide)
  rw [if_neg (fun z => h1 (bd_162.mp z))]
  by_cases h2 : isJ 163 v
  · rw [if_pos (bd_163.mpr h2)]
    refine ⟨⟨fun z => (by cases z), fun z => absurd (Or.inr (Or.inl h2)) z⟩, fun p hp s => ?_⟩
    obtain rfl := Option.some.inj hp
    unfold bnP; rw [if_neg h1, if_pos h2]
    show ((if ¬ ns = 0 ∨ false = true then (1 : Int32) else 0) = 0 ∧ ¬ mxL < s) ↔ _
    by_cases h4 : ns = 0
    · rw [if_neg (fun z => z.elim (fun y => y h4) (fun y => Bool.false_ne_true y))]
      refine ⟨fun _ => ⟨h4, rfl⟩, fun _ => ⟨rfl, fun z => ?_⟩⟩
      have := Int64.lt_iff_toInt_lt.mp z
      have h2 := i64_r s
      rw [show (mxL).toInt = 9223372036854775807 by decide] at this
      omega
    · rw [if_pos (Or.inl h4)]
      exact ⟨fun z => absurd z.1 (by decide), fun z => absurd z.1 h4⟩
  rw [if_neg (fun z => h2 (bd_163.mp z))]
  show (Option.map _ (bdW v) = none ↔ _) ∧ ∀ p, Option.map _ (bdW v) = some p → _
  cases h3 : bdW v with
  | none => exact ⟨⟨fun _ z => z.elim h1 (fun z => z.elim h2 (fun z => z rfl)), fun _ => rfl⟩, fun p hp => by cases hp⟩
  | some n =>
    refine ⟨⟨fun z => (by cases z), fun z => absurd (Or.inr (Or.inr (fun y => (by cases y)))) z⟩, fun p hp s => ?_⟩
    obtain rfl := Option.some.inj hp
    rw [bnP_num h1 h2 h3]
    unfold bdN
    have hs := i64_r s
    have hn := i64_r n
    cases ho : bdO v with
    | false =>
      rw [if_neg Bool.false_ne_true]
      show (ns = 0 ∧ ¬ n < s) ↔ _
      rw [Int64.lt_iff_toInt_lt, Int64.lt_iff_toInt_lt]
      refine ⟨fun z => ⟨z.1, ?_⟩, fun z => ⟨z.1, ?_⟩⟩
      · by_cases h5 : s = n
        · exact Or.inr ⟨by decide, h5⟩
        · have : ¬ s.toInt = n.toInt := fun z => h5 (Int64.toInt_inj.mp z)
          exact Or.inl (by omega)
      · rcases z.2 with y | y
        · omega
        · rw [y.2]; omega
    | true =>
      rw [if_pos rfl, if_neg Bool.false_ne_true]
      by_cases h4 : n = mnL
      · rw [if_pos h4]
        refine ⟨fun z => absurd z.1 (show ¬ (1 : Int32) = 0 by decide), fun z => ?_⟩
        rcases z.2 with y | y
        · have := Int64.lt_iff_toInt_lt.mp y
          have h6 : n.toInt = -9223372036854775808 := by rw [h4]; decide
          omega
        · exact absurd rfl y.1
      · rw [if_neg h4]
        show (ns = 0 ∧ ¬ n - 1 < s) ↔ _
        rw [Int64.lt_iff_toInt_lt, i64_p1 h4, Int64.lt_iff_toInt_lt]
        refine ⟨fun z => ⟨z.1, Or.inl (by omega)⟩, fun z => ⟨z.1, ?_⟩⟩
        rcases z.2 with y | y
        · omega
        · exact absurd rfl y.1
theorem bs_ib (v w : List Int32) : (bsF v w = none ↔ ¬ (bnO v ∧ bnO w)) ∧ ∀ q, bsF v w = some q → ∀ s, ibT q.2.2 q.1 q.2.1 s = true ↔ ((¬ bnP v false s = true) ∧ bnP w true s = true) := by
  unfold bsF
  obtain ⟨a1, a2⟩ := bd_lo v
  cases h1 : bdF v true 0 with
  | none => exact ⟨⟨fun _ z => a1.mp h1 z.1, fun _ => rfl⟩, fun q hq => by cases hq⟩
  | some p =>
    obtain ⟨b1, b2⟩ := bd_hi w p.2
    have hv : bnO v := by
      unfold bnO
      exact Decidable.byContradiction (fun z => by rw [a1.mpr z] at h1; cases h1)
    show ((bdF w false p.2).map _ = none ↔ _) ∧ ∀ q, (bdF w false p.2).map _ = some q → _
    cases h2 : bdF w false p.2 with
    | none => exact ⟨⟨fun _ z => b1.mp h2 z.2, fun _ => rfl⟩, fun q hq => by cases hq⟩
    | some r =>
      have hw : bnO w := by
        unfold bnO
        exact Decidable.byContradiction (fun z => by rw [b1.mpr z] at h2; cases h2)
      refine ⟨⟨fun z => (by cases z), fun z => absurd ⟨hv, hw⟩ z⟩, fun q hq s => ?_⟩
      obtain rfl := Option.some.inj hq
      show decide (r.2 = 0 ∧ (¬ s < p.1) ∧ ¬ r.1 < s) = true ↔ _
      rw [decide_eq_true_iff]
      have e1 := a2 p h1 s
      have e2 := b2 r h2 s
      constructor
      · intro z
        have e3 := e2.mp ⟨z.1, z.2.2⟩
        exact ⟨e1.mp ⟨e3.1, z.2.1⟩, e3.2⟩
      · intro z
        have e3 := e1.mpr z.1
        have e4 := e2.mpr ⟨e3.1, z.2⟩
        exact ⟨e4.1, e3.2, e4.2⟩
def scZ : List (Nat × Nat) := [(53, 8), (53, 10), (53, 11), (53, 12), (53, 13), (53, 14), (53, 15), (53, 16), (59, 16), (59, 17), (59, 18), (67, 3), (67, 4), (67, 5), (67, 6), (75, 3), (75, 4), (75, 5), (75, 6)]
theorem scHZ : ∀ p ∈ scH, p ∈ scZ := by decide +kernel
theorem scZA : ∀ p ∈ scZ, p ∈ scA := by decide +kernel
section KBND
variable {Y : Nat → MethodName × ByteArray} {d : Nat} {σ0 σ u : kS} {B ws nm nm' : List (List Int32)} {ks : List KC}
def rbP (σ0 : kS) (B : List (List Int32)) (σ : kS) (ws nm : List (List Int32)) (ks : List KC) (v : List Int32) : kK := fun r u => KWd σ0 B u ws nm ks ∧ SCl scZ σ u ∧ ((isJ 162 v ∧ r = some (.int 1) ∧ u.1 75 8 = -1) ∨ ((¬ isJ 162 v) ∧ isJ 163 v ∧ r = some (.int 1) ∧ u.1 75 8 = 1) ∨ ((¬ isJ 162 v) ∧ (¬ isJ 163 v) ∧ u.1 75 8 = 0 ∧ ((∃ n, bdW v = some n ∧ r = some (.int 1) ∧ u.2.1 53 9 = n ∧ u.1 75 7 = bI (bdO v)) ∨ (bdW v = none ∧ r = some (.int 0)))))
theorem kx_readBound (ty : kTY σ) (w : KWd σ0 B σ ws nm ks) {i : Nat} {v : List Int32} (hv : ws[i]? = some v) (x1 : Int32) (e1 : x1 = nI i) : kjY kPP (kQQ Y) (d + 7) 248 0 (mjL0 4 [.ref 75, .int x1]) [] σ (rbP σ0 B σ ws nm ks v) := by
  obtain ⟨-, -, -, -, ⟨h4, h1024⟩, -⟩ := w.2.2.2.1
  have hil := (List.getElem?_eq_some_iff.mp hv).1
  have isX : ∀ (n : Nat) {r : Option Value}, ((r = some (.int 1) ∧ ∃ v, ws[i]? = some v ∧ v.map up = tb n) ∨ (r = some (.int 0) ∧ ∀ v, ws[i]? = some v → ¬ v.map up = tb n)) → (r = some (.int 1) ∧ isJ n v) ∨ (r = some (.int 0) ∧ ¬ isJ n v) := by
    intro n r q
    rcases q with ⟨q1, v', q2, q3⟩ | ⟨q1, q2⟩
    · rw [hv] at q2; cases q2; exact Or.inl ⟨q1, q3⟩
    · exact Or.inr ⟨q1, q2 v hv⟩
  -- neither
  have num : (¬ isJ 162 v) → (¬ isJ 163 v) → ∀ z, kTY z → z = (mjIu σ.1 75 8 (Int32.ofInt 0), σ.2) → kjY kPP (kQQ Y) (d + 7) 248 19 [some (.ref 75), some (.int x1), none, none] [] z (rbP σ0 B σ ws nm ks v) := by
    intro n1 n2 z tz ez
    have wz : KWd σ0 B z ws nm ks := by rw [ez]; exact w.pi ty (by decide)
    have sz : SCl scZ σ z := by rw [ez]; exact SCl.i (by decide +kernel)
    have z8 : z.1 75 8 = 0 := by rw [ez]; rfl
    refine kjZ_y rfl rfl 3 _ _ _ _ tz ?_
    refine (And.intro (tz.k (by decide) rfl) (And.intro (fun c => ?_) (fun c => ?_)))
    rotate_left
    · exact absurd z8 c
    refine kjZ_y rfl rfl 4 _ _ _ _ tz ?_
    refine (And.intro (tz.k (by decide) rfl) (And.intro (Nat.le_of_ble_eq_true rfl) (And.intro (Or.inl ⟨(Nat.le_of_ble_eq_true rfl), (tz.k (by decide) rfl)⟩) (And.intro (Nat.le_of_ble_eq_true rfl) (And.intro (Nat.le_of_ble_eq_true rfl) (kjY_mono tz (fun q_ u1 ty1 xu1 h_ => ?_) (kx_startOf tz wz hv _ e1)))))))
    obtain ⟨rfl, g, M, a, rfl, hg, hq, hM, hw⟩ := h_
    intro _ _
    refine kjZ_y rfl rfl 5 _ _ _ _ ty1 ?_
    refine (And.intro (Nat.le_of_ble_eq_true rfl) (And.intro (ty1.k (by decide) rfl) (And.intro (Nat.le_of_ble_eq_true rfl) (And.intro (Or.inl ⟨(Nat.le_of_ble_eq_true rfl), (ty1.k (by decide) rfl)⟩) (And.intro (Nat.le_of_ble_eq_true rfl) (And.intro (Nat.le_of_ble_eq_true rfl) (kjY_mono ty1 (fun q_ u2 ty2 xu2 h_ => ?_) (kx_lengthOf ty1 wz hv _ e1))))))))
    obtain ⟨rfl, rfl⟩ := h_
    intro _ _
    have hg75 : ¬ g = 75 := fun e => by
      have h9 := ty2.k (h := 75) (c := 8) (by decide) rfl
      rw [← e, hg.2.1] at h9; exact absurd h9 (show ¬ (21 : Nat) = 8 by decide)
    have kg : (u2.2.2.2.1 g).1 = 21 := by rw [hg.2.1]
    -- the bound's number, by what excludes says
    have fin : ∀ y, kTY y → y = (mjIu u2.1 75 7 (bI (bdO v)), u2.2) → kjY kPP (kQQ Y) (d + 7) 248 54 [some (.ref 75), some (.int x1), some (.int (nI a)), some (.int (nI v.length))] [] y (rbP σ0 B σ ws nm ks v) := by
      intro y t9 ey
      have wy : KWd σ0 B y ws nm ks := by rw [ey]; exact wz.pi ty2 (by decide)
      have sy : SCl scZ σ y := by rw [ey]; exact sz.tr (SCl.i (by decide +kernel))
      have y8 : y.1 75 8 = 0 := by rw [ey]; exact z8
      have y7 : y.1 75 7 = bI (bdO v) := by rw [ey]; rfl
      have yf : y.2.2.1 53 3 = some g := by rw [ey]; exact hg.1
      have yd : y.2.2.2.1 g = (21, M) := by rw [ey]; exact hg.2.1
      have kgy : (y.2.2.2.1 g).1 = 21 := by rw [yd]
      have yi : y.1 g = u2.1 g := by rw [ey]; exact mjIu_n hg75
      cases hb : bdO v with
      | false =>
        rw [hb] at y7
        have hbw : bdW v = intF (wd (y.1 g) a v.length) := by
          unfold bdW; rw [hb, if_neg Bool.false_ne_true, List.drop_zero, yi, hw]
        refine kjZ_y rfl rfl 3 _ _ _ _ t9 ?_
        refine (And.intro (t9.k (by decide) rfl) (And.intro (fun c3 => ?_) (fun c3 => ?_)))
        rotate_left
        · exact absurd y7 c3
        refine kjZ_y rfl rfl 8 _ _ _ _ t9 ?_
        refine (And.intro (t9.k (by decide) rfl) (And.intro (t9.k (by decide) rfl) (And.intro (t9.k (by decide) rfl) (Exists.intro _ (And.intro yf (And.intro (Nat.le_of_ble_eq_true rfl) (And.intro (Or.inl ⟨(Nat.le_of_ble_eq_true rfl), (t9.k (by decide) rfl)⟩) (And.intro (Nat.le_of_ble_eq_true rfl) (And.intro (Nat.le_of_ble_eq_true rfl) (kjY_mono t9 (fun q_ u3 ty3 xu3 h_ => ?_) (k_parse t9 yd hg.2.2 hM _ _ rfl rfl)))))))))))
        have q3 := h_
        intro _ _
        rw [← hbw] at q3
        cases hn : bdW v with
        | none =>
          rw [hn] at q3
          obtain ⟨rfl, rfl⟩ := q3
          refine kjZ_y rfl rfl 1 _ _ _ _ ty3 ?_
          refine And.intro rfl (And.intro (Or.inr (Or.inl ⟨rfl, ?_⟩)) ?_)
          · exact Or.inl rfl
          exact ⟨wy, sy, Or.inr (Or.inr ⟨n1, n2, y8, Or.inr ⟨hn, rfl⟩⟩)⟩
        | some n =>
          rw [hn] at q3
          obtain ⟨rfl, eu⟩ := q3
          refine kjZ_y rfl rfl 1 _ _ _ _ ty3 ?_
          refine And.intro rfl (And.intro (Or.inr (Or.inl ⟨rfl, ?_⟩)) ?_)
          · exact Or.inr rfl
          subst eu
          refine ⟨wy.pl t9 (by decide), sy.tr (SCl.l (by decide +kernel)), Or.inr (Or.inr ⟨n1, n2, y8, Or.inl ⟨n, hn, rfl, (show mjLu y.2.1 53 9 n 53 9 = n from mjLu_p), by rw [hb]; exact y7⟩⟩)⟩
      | true =>
        rw [hb] at y7
        have hne : 0 < v.length := by
          cases v with
          | nil => exact absurd hb (by decide)
          | cons a r => exact Nat.succ_pos _
        obtain ⟨m, hm⟩ : ∃ m, v.length = m + 1 := ⟨v.length - 1, by omega⟩
        have hbw : bdW v = intF (wd (y.1 g) (a + 1) m) := by
          unfold bdW; rw [hb, if_pos rfl, yi]
          rw [hm, wd_s] at hw
          rw [← hw]; rfl
        refine kjZ_y rfl rfl 3 _ _ _ _ t9 ?_
        refine (And.intro (t9.k (by decide) rfl) (And.intro (fun c3 => ?_) (fun c3 => ?_)))
        · exact absurd (y7.symm.trans c3) (by decide)
        refine kjZ_y rfl rfl 12 _ _ _ _ t9 ?_
        refine (And.intro (t9.k (by decide) rfl) (And.intro (t9.k (by decide) rfl) (And.intro (t9.k (by decide) rfl) (Exists.intro _ (And.intro yf (And.intro (Nat.le_of_ble_eq_true rfl) (And.intro (Or.inl ⟨(Nat.le_of_ble_eq_true rfl), (t9.k (by decide) rfl)⟩) (And.intro (Nat.le_of_ble_eq_true rfl) (And.intro (Nat.le_of_ble_eq_true rfl) (kjY_mono t9 (fun q_ u3 ty3 xu3 h_ => ?_) (k_parse t9 yd hg.2.2 (show a + 1 + m ≤ M by omega) _ _ (nI_1 a) (by rw [hm]; exact nI_sub3 (show 1 ≤ m + 1 by omega)))))))))))))
        have q3 := h_
        intro _ _
        rw [← hbw] at q3
        cases hn : bdW v with
        | none =>
          rw [hn] at q3
          obtain ⟨rfl, rfl⟩ := q3
          refine kjZ_y rfl rfl 2 _ _ _ _ ty3 ?_
          refine And.intro rfl (And.intro (Or.inr (Or.inl ⟨rfl, ?_⟩)) ?_)
          · exact Or.inl rfl
          exact ⟨wy, sy, Or.inr (Or.inr ⟨n1, n2, y8, Or.inr ⟨hn, rfl⟩⟩)⟩
        | some n =>
          rw [hn] at q3
          obtain ⟨rfl, eu⟩ := q3
          refine kjZ_y rfl rfl 2 _ _ _ _ ty3 ?_
          refine And.intro rfl (And.intro (Or.inr (Or.inl ⟨rfl, ?_⟩)) ?_)
          · exact Or.inr rfl
          subst eu
          refine ⟨wy.pl t9 (by decide), sy.tr (SCl.l (by decide +kernel)), Or.inr (Or.inr ⟨n1, n2, y8, Or.inl ⟨n, hn, rfl, (show mjLu y.2.1 53 9 n 53 9 = n from mjLu_p), by rw [hb]; exact y7⟩⟩)⟩
    have s52 : bdO v = false → kjY kPP (kQQ Y) (d + 7) 248 52 [some (.ref 75), some (.int x1), some (.int (nI a)), some (.int (nI v.length))] [.ref 75] u2 (rbP σ0 B σ ws nm ks v) := by
      intro hb
      refine kjZ_y rfl rfl 2 _ _ _ _ ty2 ?_
      refine (And.intro (ty2.k (by decide) rfl) (And.intro (Or.inr ⟨rfl, Or.inl rfl⟩) (fun ty2' => ?_)))
      exact fin _ ty2' (by rw [hb]; rfl)
    refine kjZ_y rfl rfl 1 _ _ _ _ ty2 ?_
    refine (And.intro (Nat.le_of_ble_eq_true rfl) ?_)
    refine kjZ_y rfl rfl 3 _ _ _ _ ty2 ?_
    refine And.intro (fun c2 => ?_) (fun c2 => ?_)
    · have c2 : nI v.length ≤ nI 0 := c2
      rw [nle (by omega) (by decide)] at c2
      refine s52 ?_
      have : v = [] := List.length_eq_zero_iff.mp (by omega)
      rw [this]; rfl
    have c2 : ¬ nI v.length ≤ nI 0 := c2
    rw [nle (by omega) (by decide)] at c2
    refine kjZ_y rfl rfl 6 _ _ _ _ ty2 ?_
    refine (And.intro (ty2.k (by decide) rfl) (And.intro (ty2.k (by decide) rfl) (Exists.intro _ (And.intro hg.1 (Or.inl (And.intro (kdq hg.2.1) (And.intro (fun c3 => ?_) (fun c3 => ?_))))))))
    · refine absurd (show nI (u2.2.2.2.1 g).2 ≤ nI a from c3) ?_
      rw [hg.2.1, nle (by omega) (by omega)]; omega
    have va : vp_in (nI a) M := vp_in_nI (by omega) (by omega)
    have ca : (nI a).toNatClampNeg = a := nI_clamp (by omega)
    have hhd : v.head? = some (u2.1 g a) := bd_head hw (by omega)
    refine kjZ_y rfl rfl 7 _ _ _ _ ty2 ?_
    refine (And.intro (ty2.k (by decide) rfl) (And.intro (ty2.k (by decide) rfl) (Exists.intro _ (And.intro hg.1 (Or.inl (And.intro (kdk hg.2.1) (And.intro (kdv hg.2.1 va) (And.intro (fun c4 => ?_) (fun c4 => ?_)))))))))
    · have c4 : ¬ u2.1 g (nI a).toNatClampNeg = (Int8.ofInt 40).toInt32 := c4
      rw [ca] at c4
      refine s52 (decide_eq_false (fun z => c4 ?_))
      rw [hhd] at z; exact (Option.some.inj z).trans (by decide)
    · have c4 : u2.1 g (nI a).toNatClampNeg = (Int8.ofInt 40).toInt32 := Decidable.of_not_not c4
      rw [ca] at c4
      have hb : bdO v = true := decide_eq_true (by rw [hhd, c4]; decide)
      refine kjZ_y rfl rfl 3 _ _ _ _ ty2 ?_
      refine (And.intro (ty2.k (by decide) rfl) (And.intro (Or.inr ⟨rfl, Or.inr rfl⟩) (fun ty2' => ?_)))
      exact fin _ ty2' (by rw [hb]; rfl)
  -- an infinite one
  have inf : ∀ (x : Int32), (¬ x = 0) → ((isJ 162 v ∧ x = -1) ∨ ((¬ isJ 162 v) ∧ isJ 163 v ∧ x = 1)) → ∀ z, kTY z → z = (mjIu σ.1 75 8 x, σ.2) → kjY kPP (kQQ Y) (d + 7) 248 19 [some (.ref 75), some (.int x1), none, none] [] z (rbP σ0 B σ ws nm ks v) := by
    intro x hx hj z tz ez
    have wz : KWd σ0 B z ws nm ks := by rw [ez]; exact w.pi ty (by decide)
    have sz : SCl scZ σ z := by rw [ez]; exact SCl.i (by decide +kernel)
    have z8 : z.1 75 8 = x := by rw [ez]; rfl
    refine kjZ_y rfl rfl 3 _ _ _ _ tz ?_
    refine (And.intro (tz.k (by decide) rfl) (And.intro (fun c => ?_) (fun c => ?_)))
    · exact absurd (z8.symm.trans c) hx
    refine kjZ_y rfl rfl 2 _ _ _ _ tz ?_
    refine And.intro rfl (And.intro (Or.inr (Or.inl ⟨rfl, Or.inr rfl⟩)) ?_)
    rcases hj with ⟨j1, j2⟩ | ⟨j1, j2, j3⟩
    · exact ⟨wz, sz, Or.inl ⟨j1, rfl, z8.trans j2⟩⟩
    · exact ⟨wz, sz, Or.inr (Or.inl ⟨j1, j2, rfl, z8.trans j3⟩)⟩
  refine kjZ_y rfl rfl 6 _ _ _ _ ty ?_
  refine (And.intro (ty.k (by decide) rfl) (And.intro rfl (And.intro (Nat.le_of_ble_eq_true rfl) (And.intro (Or.inl ⟨(Nat.le_of_ble_eq_true rfl), (ty.k (by decide) rfl)⟩) (And.intro (Nat.le_of_ble_eq_true rfl) (And.intro (Nat.le_of_ble_eq_true rfl) (kjY_mono ty (fun q_ u1 ty1 xu1 h_ => ?_) (kx_is ty w (i := 162) (by decide) i (by omega) _ e1))))))))
  obtain ⟨rfl, q1⟩ := h_
  intro _ _
  rcases isX 162 q1 with ⟨rfl, c1⟩ | ⟨rfl, c1⟩
  · refine kjZ_y rfl rfl 1 _ _ _ _ ty1 ?_
    refine And.intro (fun c => ?_) (fun c => ?_)
    · exact absurd (show (1 : Int32) = 0 from c) (by decide)
    refine kjZ_y rfl rfl 3 _ _ _ _ ty1 ?_
    refine (And.intro (ty1.k (by decide) rfl) (And.intro (Or.inl rfl) (fun ty1' => ?_)))
    exact inf (Int32.ofInt (-1)) (by decide) (Or.inl ⟨c1, by decide⟩) _ ty1' rfl
  refine kjZ_y rfl rfl 1 _ _ _ _ ty1 ?_
  refine And.intro (fun c => ?_) (fun c => ?_)
  rotate_left
  · exact absurd rfl c
  refine kjZ_y rfl rfl 5 _ _ _ _ ty1 ?_
  refine (And.intro (ty1.k (by decide) rfl) (And.intro rfl (And.intro (Nat.le_of_ble_eq_true rfl) (And.intro (Or.inl ⟨(Nat.le_of_ble_eq_true rfl), (ty1.k (by decide) rfl)⟩) (And.intro (Nat.le_of_ble_eq_true rfl) (And.intro (Nat.le_of_ble_eq_true rfl) (kjY_mono ty1 (fun q_ u2 ty2 xu2 h_ => ?_) (kx_is ty1 w (i := 163) (by decide) i (by omega) _ e1))))))))
  obtain ⟨rfl, q2⟩ := h_
  intro _ _
  rcases isX 163 q2 with ⟨rfl, c2⟩ | ⟨rfl, c2⟩
  · refine kjZ_y rfl rfl 1 _ _ _ _ ty2 ?_
    refine And.intro (fun c3 => ?_) (fun c3 => ?_)
    · exact absurd (show (1 : Int32) = 0 from c3) (by decide)
    refine kjZ_y rfl rfl 3 _ _ _ _ ty2 ?_
    refine (And.intro (ty2.k (by decide) rfl) (And.intro (Or.inl rfl) (fun ty2' => ?_)))
    exact inf (Int32.ofInt 1) (by decide) (Or.inr ⟨c1, c2, by decide⟩) _ ty2' rfl
  refine kjZ_y rfl rfl 1 _ _ _ _ ty2 ?_
  refine And.intro (fun c3 => ?_) (fun c3 => ?_)
  rotate_left
  · exact absurd rfl c3
  refine kjZ_y rfl rfl 2 _ _ _ _ ty2 ?_
  refine (And.intro (ty2.k (by decide) rfl) (And.intro (Or.inl rfl) (fun ty2' => ?_)))
  exact num c1 c2 _ ty2' rfl
theorem rb_o {v : List Int32} {r : Option Value} (h : rbP σ0 B σ ws nm ks v r u) : KWd σ0 B u ws nm ks ∧ SCl scZ σ u ∧ ((r = some (.int 1) ∧ bnO v) ∨ (r = some (.int 0) ∧ ¬ bnO v)) := by
  obtain ⟨w, s, h⟩ := h
  refine ⟨w, s, ?_⟩
  rcases h with ⟨a, b, -⟩ | ⟨-, a, b, -⟩ | ⟨a, b, -, ⟨n, c, e, -⟩ | ⟨c, e⟩⟩
  · exact Or.inl ⟨b, Or.inl a⟩
  · exact Or.inl ⟨b, Or.inr (Or.inl a)⟩
  · exact Or.inl ⟨e, Or.inr (Or.inr (fun z => by rw [z] at c; cases c))⟩
  · exact Or.inr ⟨e, fun z => z.elim a (fun z => z.elim b (fun z => z c))⟩
theorem kx_lacksBounds (ty : kTY σ) (w : KWd σ0 B σ ws nm ks) {v v2 : List Int32} (hv : ws[2]? = some v) (hv2 : ws[3]? = some v2) : kjY kPP (kQQ Y) (d + 8) 249 0 (mjL0 1 [.ref 75]) [] σ (fun r u => KWd σ0 B u ws nm ks ∧ SCl scZ σ u ∧ ((r = some (.int 0) ∧ bnO v ∧ bnO v2) ∨ (r = some (.int 1) ∧ ¬ (bnO v ∧ bnO v2)))) := by
  have bad : ∀ z, kTY z → KWd σ0 B z ws nm ks → SCl scZ σ z → (¬ (bnO v ∧ bnO v2)) → kjY kPP (kQQ Y) (d + 8) 249 10 [some (.ref 75)] [] z (fun r u => KWd σ0 B u ws nm ks ∧ SCl scZ σ u ∧ ((r = some (.int 0) ∧ bnO v ∧ bnO v2) ∨ (r = some (.int 1) ∧ ¬ (bnO v ∧ bnO v2)))) := by
    intro z tz wz sz hn
    refine kjZ_y rfl rfl 4 _ _ _ _ tz ?_
    refine (And.intro (tz.k (by decide) rfl) (And.intro rfl (And.intro (Nat.le_of_ble_eq_true rfl) (And.intro (Or.inl ⟨(Nat.le_of_ble_eq_true rfl), (tz.k (by decide) rfl)⟩) (And.intro (Nat.le_of_ble_eq_true rfl) (And.intro (Nat.le_of_ble_eq_true rfl) (kjY_mono tz (fun q_ u2 ty2 xu2 h_ => ?_) (kx_refuse tz wz (i := 164) (by decide)))))))))
    obtain ⟨rfl, w2, s2⟩ := h_
    intro _ _
    refine kjZ_y rfl rfl 2 _ _ _ _ ty2 ?_
    refine And.intro rfl (And.intro (Or.inr (Or.inl ⟨rfl, Or.inr rfl⟩)) ?_)
    exact ⟨w2, sz.tr (s2.sub scZA), Or.inr ⟨rfl, hn⟩⟩
  refine kjZ_y rfl rfl 3 _ _ _ _ ty ?_
  refine (And.intro (Nat.le_of_ble_eq_true rfl) (And.intro (Or.inl ⟨(Nat.le_of_ble_eq_true rfl), (ty.k (by decide) rfl)⟩) (And.intro (Nat.le_of_ble_eq_true rfl) (And.intro (Nat.le_of_ble_eq_true rfl) (kjY_mono ty (fun q_ u1 ty1 xu1 h_ => ?_) (kx_readBound (d := d) ty w hv _ rfl))))))
  have q1 := h_
  intro _ _
  obtain ⟨w1, s1, q1a⟩ := rb_o q1
  rcases q1a with ⟨rfl, q1b⟩ | ⟨rfl, q1b⟩
  rotate_left
  · refine kjZ_y rfl rfl 1 _ _ _ _ ty1 ?_
    refine And.intro (fun c => ?_) (fun c => ?_)
    rotate_left
    · exact absurd rfl c
    exact bad u1 ty1 w1 s1 (fun z => q1b z.1)
  refine kjZ_y rfl rfl 1 _ _ _ _ ty1 ?_
  refine And.intro (fun c => ?_) (fun c => ?_)
  · exact absurd (show (1 : Int32) = 0 from c) (by decide)
  refine kjZ_y rfl rfl 3 _ _ _ _ ty1 ?_
  refine (And.intro (Nat.le_of_ble_eq_true rfl) (And.intro (Or.inl ⟨(Nat.le_of_ble_eq_true rfl), (ty1.k (by decide) rfl)⟩) (And.intro (Nat.le_of_ble_eq_true rfl) (And.intro (Nat.le_of_ble_eq_true rfl) (kjY_mono ty1 (fun q_ u2 ty2 xu2 h_ => ?_) (kx_readBound (d := d) ty1 w1 hv2 _ rfl))))))
  have q2 := h_
  intro _ _
  obtain ⟨w2, s2, q2a⟩ := rb_o q2
  rcases q2a with ⟨rfl, q2b⟩ | ⟨rfl, q2b⟩
  rotate_left
  · refine kjZ_y rfl rfl 1 _ _ _ _ ty2 ?_
    refine And.intro (fun c => ?_) (fun c => ?_)
    rotate_left
    · exact absurd rfl c
    exact bad u2 ty2 w2 (s1.tr s2) (fun z => q2b z.2)
  refine kjZ_y rfl rfl 1 _ _ _ _ ty2 ?_
  refine And.intro (fun c => ?_) (fun c => ?_)
  · exact absurd (show (1 : Int32) = 0 from c) (by decide)
  refine kjZ_y rfl rfl 2 _ _ _ _ ty2 ?_
  refine And.intro rfl (And.intro (Or.inr (Or.inl ⟨rfl, Or.inl rfl⟩)) ?_)
  exact ⟨w2, s1.tr s2, Or.inl ⟨rfl, q1b, q2b⟩⟩
end KBND
