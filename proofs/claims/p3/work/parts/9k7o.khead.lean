/-! Request: the line of a number. -/
section KHEAD
variable {Y : Nat → MethodName × ByteArray} {d : Nat} {σ : kS}
/-- what reading a number's line changes -/
def HX (σ u : kS) : Prop := u.2.2 = σ.2.2 ∧ (∀ h x, ¬ (h = 53 ∧ x = 5) → u.1 h x = σ.1 h x) ∧ (∀ h x, ¬ (h = 53 ∧ x = 9) → u.2.1 h x = σ.2.1 h x)
theorem HX.rf : HX σ σ := ⟨rfl, fun _ _ _ => rfl, fun _ _ _ => rfl⟩
theorem HX.tr {u z : kS} (a : HX σ u) (b : HX u z) : HX σ z := ⟨b.1.trans a.1, fun h x c => (b.2.1 h x c).trans (a.2.1 h x c), fun h x c => (b.2.2 h x c).trans (a.2.2 h x c)⟩
def hdP (σ : kS) (o : Option (Option (Int32 × Nat))) : kK := fun r u => HX σ u ∧ ((o = none ∧ r = some (.int 1)) ∨ (o = some none ∧ r = some (.int 7)) ∨ ∃ z, o = some (some z) ∧ r = some (.int 0) ∧ u.1 53 5 = nI z.2 ∧ u.2.1 53 9 = z.1.toInt64)
theorem k_hd_scan (K : kK) (ty : kTY σ) {g M p e : Nat} (fr : σ.2.2.1 53 3 = some g) (kg : σ.2.2.2.1 g = (21, M)) (hM : M ≤ 600000) (he : e ≤ M) (hp : p < e) (x1 x2 x3 : Int32) (e3 : x3 = nI (min e (p + 16)))
    (hK : ∀ q x4, p + 1 ≤ q → q ≤ p + 17 → x4 = nI q → q = lsc (σ.1 g) p e 16 (p + 1) → kjY kPP (kQQ Y) d 95 31 [some (.ref 53), some (.int x1), some (.int x2), some (.int x3), some (.int x4), none, none, none, none] [] σ K) :
    ∀ (f q : Nat) (x4 : Int32), x4 = nI q → p + 1 ≤ q → q + f = p + 17 → lsc (σ.1 g) p e 16 (p + 1) = lsc (σ.1 g) p e f q →
    kjY kPP (kQQ Y) d 95 10 [some (.ref 53), some (.int x1), some (.int x2), some (.int x3), some (.int x4), none, none, none, none] [] σ K := by
  have kk : (σ.2.2.2.1 g).1 = 21 := by rw [kg]
  have hm1 : min e (p + 16) ≤ e := Nat.min_le_left _ _
  have hm2 : min e (p + 16) ≤ p + 16 := Nat.min_le_right _ _
  have hm3 : ∀ n, n < min e (p + 16) ↔ (n < e ∧ n < p + 16) := fun n => Nat.lt_min
  generalize min e (p + 16) = L at e3 hm1 hm2 hm3
  intro f
  induction f with
  | zero =>
    intro q x4 e4 hq hf hl
    refine kjZ_y rfl rfl 5 _ _ _ _ ty ?_
    refine And.intro (fun c => ?_) (fun c => ?_)
    rotate_left
    · refine absurd (show x3 ≤ x4 + Int32.ofInt 1 from ?_) c
      rw [e3, e4, show nI q + Int32.ofInt 1 = nI (q + 1) from nI_1 q, nle (by omega) (by omega)]; omega
    exact hK q x4 hq (by omega) e4 hl.symm
  | succ f ih =>
    intro q x4 e4 hq hf hl
    have hll : lsc (σ.1 g) p e (f + 1) q = if q + 1 < e ∧ q + 1 < p + 16 ∧ ¬ (σ.1 g q = 13 ∧ σ.1 g (q + 1) = 10) then lsc (σ.1 g) p e f (q + 1) else q := rfl
    refine kjZ_y rfl rfl 5 _ _ _ _ ty ?_
    refine And.intro (fun c => ?_) (fun c => ?_)
    · have c : x3 ≤ x4 + Int32.ofInt 1 := c
      rw [e3, e4, show nI q + Int32.ofInt 1 = nI (q + 1) from nI_1 q, nle (by omega) (by omega)] at c
      refine hK q x4 hq (by omega) e4 ?_
      rw [hl, hll, if_neg (fun z => by have := (hm3 (q + 1)).mpr ⟨z.1, z.2.1⟩; omega)]
    have c : ¬ x3 ≤ x4 + Int32.ofInt 1 := c
    rw [e3, e4, show nI q + Int32.ofInt 1 = nI (q + 1) from nI_1 q, nle (by omega) (by omega)] at c
    have hqe := (hm3 (q + 1)).mp (by omega)
    have v4 : vp_in x4 M := by rw [e4]; exact vp_in_nI (by omega) (by omega)
    have v5 : vp_in (x4 + Int32.ofInt 1) M := by rw [e4, show nI q + Int32.ofInt 1 = nI (q + 1) from nI_1 q]; exact vp_in_nI (by omega) (by omega)
    have c4 : x4.toNatClampNeg = q := by rw [e4]; exact nI_clamp (by omega)
    have c5 : (x4 + Int32.ofInt 1).toNatClampNeg = q + 1 := by rw [e4, show nI q + Int32.ofInt 1 = nI (q + 1) from nI_1 q]; exact nI_clamp (by omega)
    have nxt : (¬ (σ.1 g q = 13 ∧ σ.1 g (q + 1) = 10)) → kjY kPP (kQQ Y) d 95 29 [some (.ref 53), some (.int x1), some (.int x2), some (.int x3), some (.int x4), none, none, none, none] [] σ K := by
      intro hn
      refine kjZ_y rfl rfl 2 _ _ _ _ ty ?_
      exact ih (q + 1) _ (by rw [e4]; exact nI_1 q) (by omega) (by omega) (by rw [hl, hll, if_pos ⟨hqe.1, hqe.2, hn⟩])
    refine kjZ_y rfl rfl 6 _ _ _ _ ty ?_
    refine (And.intro (ty.k (by decide) rfl) (Exists.intro _ (And.intro fr (Or.inl (And.intro (kdk kg) (And.intro (kdv kg v4) (And.intro (fun c1 => ?_) (fun c1 => ?_))))))))
    · have c1 : ¬ σ.1 g x4.toNatClampNeg = (Int8.ofInt 13).toInt32 := c1
      rw [c4] at c1
      exact nxt (fun z => c1 (z.1.trans (by decide)))
    have c1 : σ.1 g x4.toNatClampNeg = (Int8.ofInt 13).toInt32 := Decidable.of_not_not c1
    rw [c4] at c1
    refine kjZ_y rfl rfl 8 _ _ _ _ ty ?_
    refine (And.intro (ty.k (by decide) rfl) (Exists.intro _ (And.intro fr (Or.inl (And.intro (kdk kg) (And.intro (kdv kg v5) (And.intro (fun c2 => ?_) (fun c2 => ?_))))))))
    · have c2 : σ.1 g (x4 + Int32.ofInt 1).toNatClampNeg = (Int8.ofInt 10).toInt32 := c2
      rw [c5] at c2
      refine hK q x4 hq (by omega) e4 ?_
      rw [hl, hll, if_neg (fun z => z.2.2 ⟨c1.trans (by decide), c2.trans (by decide)⟩)]
    · have c2 : ¬ σ.1 g (x4 + Int32.ofInt 1).toNatClampNeg = (Int8.ofInt 10).toInt32 := c2
      rw [c5] at c2
      exact nxt (fun z => c2 (z.2.trans (by decide)))
theorem k_hd_dig (K : kK) (ty : kTY σ) {g M q : Nat} (fr : σ.2.2.1 53 3 = some g) (kg : σ.2.2.2.1 g = (21, M)) (hM : M ≤ 600000) (hq : q ≤ M) (x1 x2 x3 x4 x5 x6 : Int32) (e4 : x4 = nI q) :
    ∀ (n k : Nat) (x7 x8 : Int32), x8 = nI k → k + n = q →
    (∀ v x8, ldg (σ.1 g) n k x7 = some v → kjY kPP (kQQ Y) d 95 118 [some (.ref 53), some (.int x1), some (.int x2), some (.int x3), some (.int x4), some (.int x5), some (.int x6), some (.int v), some (.int x8)] [] σ K) →
    (∀ x7' x8, ldg (σ.1 g) n k x7 = none → kjY kPP (kQQ Y) d 95 103 [some (.ref 53), some (.int x1), some (.int x2), some (.int x3), some (.int x4), some (.int x5), some (.int x6), some (.int x7'), some (.int x8)] [] σ K) →
    kjY kPP (kQQ Y) d 95 88 [some (.ref 53), some (.int x1), some (.int x2), some (.int x3), some (.int x4), some (.int x5), some (.int x6), some (.int x7), some (.int x8)] [] σ K := by
  have kk : (σ.2.2.2.1 g).1 = 21 := by rw [kg]
  intro n
  induction n with
  | zero =>
    intro k x7 x8 e8 hk hy hn
    refine kjZ_y rfl rfl 3 _ _ _ _ ty ?_
    refine And.intro (fun c => ?_) (fun c => ?_)
    rotate_left
    · refine absurd (show x4 ≤ x8 from ?_) c
      rw [e4, e8, nle (by omega) (by omega)]; omega
    exact hy x7 x8 rfl
  | succ n ih =>
    intro k x7 x8 e8 hk hy hn
    have v8 : vp_in x8 M := by rw [e8]; exact vp_in_nI (by omega) (by omega)
    have c8 : x8.toNatClampNeg = k := by rw [e8]; exact nI_clamp (by omega)
    have hll : ldg (σ.1 g) (n + 1) k x7 = if σ.1 g k < 48 ∨ 57 < σ.1 g k then none else ldg (σ.1 g) n (k + 1) (x7 * 10 + σ.1 g k - 48) := rfl
    refine kjZ_y rfl rfl 3 _ _ _ _ ty ?_
    refine And.intro (fun c => ?_) (fun c => ?_)
    · refine absurd (show x4 ≤ x8 from c) ?_
      rw [e4, e8, nle (by omega) (by omega)]; omega
    refine kjZ_y rfl rfl 6 _ _ _ _ ty ?_
    refine (And.intro (ty.k (by decide) rfl) (Exists.intro _ (And.intro fr (Or.inl (And.intro (kdk kg) (And.intro (kdv kg v8) (And.intro (fun c1 => ?_) (fun c1 => ?_))))))))
    · have c1 : σ.1 g x8.toNatClampNeg < (Int8.ofInt 48).toInt32 := c1
      rw [c8] at c1
      exact hn x7 x8 (by rw [hll, if_pos (show σ.1 g k < 48 ∨ 57 < σ.1 g k from Or.inl c1)])
    have c1 : ¬ σ.1 g x8.toNatClampNeg < (Int8.ofInt 48).toInt32 := c1
    rw [c8] at c1
    refine kjZ_y rfl rfl 6 _ _ _ _ ty ?_
    refine (And.intro (ty.k (by decide) rfl) (Exists.intro _ (And.intro fr (Or.inl (And.intro (kdk kg) (And.intro (kdv kg v8) (And.intro (fun c2 => ?_) (fun c2 => ?_))))))))
    rotate_left
    · have c2 : ¬ σ.1 g x8.toNatClampNeg ≤ (Int8.ofInt 57).toInt32 := c2
      rw [c8] at c2
      exact hn x7 x8 (by rw [hll, if_pos (show σ.1 g k < 48 ∨ 57 < σ.1 g k from Or.inr (Int32.not_le.mp c2))])
    have c2 : σ.1 g x8.toNatClampNeg ≤ (Int8.ofInt 57).toInt32 := c2
    rw [c8] at c2
    have hl2 : ldg (σ.1 g) (n + 1) k x7 = ldg (σ.1 g) n (k + 1) (x7 * 10 + σ.1 g k - 48) := by
      rw [hll, if_neg (fun z => z.elim c1 (fun z => absurd c2 (Int32.not_le.mpr z)))]
    have ev : (Int8.ofInt 10).toInt32 * x7 + σ.1 g x8.toNatClampNeg - (Int8.ofInt 48).toInt32 = x7 * 10 + σ.1 g k - 48 := by
      rw [c8, Int32.mul_comm]; rfl
    refine kjZ_y rfl rfl 13 _ _ _ _ ty ?_
    refine (And.intro (ty.k (by decide) rfl) (Exists.intro _ (And.intro fr (Or.inl (And.intro (kdk kg) (And.intro (kdv kg v8) (And.intro (Nat.le_of_ble_eq_true rfl) ?_)))))))
    have go : ∀ y : Int32, y = x7 * 10 + σ.1 g k - 48 → kjY kPP (kQQ Y) d 95 88 [some (.ref 53), some (.int x1), some (.int x2), some (.int x3), some (.int x4), some (.int x5), some (.int x6), some (.int y), some (.int (x8 + 1))] [] σ K := by
      intro y ey
      subst ey
      exact ih (k + 1) _ _ (by rw [e8]; exact nI_1 k) (by omega) (fun v x8 hv => hy v x8 (by rw [hl2]; exact hv)) (fun x7' x8 hv => hn x7' x8 (by rw [hl2]; exact hv))
    exact go _ ev
theorem k_readHead (ty : kTY σ) {g M p e : Nat} (fr : σ.2.2.1 53 3 = some g) (kg : σ.2.2.2.1 g = (21, M)) (hM : M ≤ 600000) (he : e ≤ M) (hp : p < e) (x1 x2 : Int32) (e1 : x1 = nI p) (e2 : x2 = nI e) :
    kjY kPP (kQQ Y) (d + 1) 95 0 (mjL0 9 [.ref 53, .int x1, .int x2]) [] σ (hdP σ (lnF (σ.1 g) p e)) := by
  have kk : (σ.2.2.2.1 g).1 = 21 := by rw [kg]
  have g53 : ¬ g = 53 := fun z => by
    have h9 := ty.k (h := 53) (c := 3) (by decide) rfl
    rw [← z, kg] at h9; exact absurd h9 (show ¬ (21 : Nat) = 3 by decide)
  refine kjZ_y rfl rfl 5 _ _ _ _ ty ?_
  refine (And.intro (Nat.le_of_ble_eq_true rfl) (And.intro (Nat.le_of_ble_eq_true rfl) (And.intro (Nat.le_of_ble_eq_true rfl) (kjY_mono ty (fun q_ u1 ty1 xu1 h_ => ?_) (k_min ty _ _)))))
  obtain ⟨rfl, rfl⟩ := h_
  intro _ _
  have e3 : (if x1 + (Int8.ofInt 16).toInt32 < x2 then x1 + (Int8.ofInt 16).toInt32 else x2) = nI (min e (p + 16)) := by
    have e16 : x1 + (Int8.ofInt 16).toInt32 = nI (p + 16) := by rw [e1]; exact nI_add p 16
    rw [e16, e2]
    by_cases z : p + 16 < e
    · rw [if_pos ((nlt (by omega) (by omega)).mpr z), Nat.min_eq_right (by omega)]
    · rw [if_neg (fun y => z ((nlt (by omega) (by omega)).mp y)), Nat.min_eq_left (by omega)]
  generalize (if x1 + (Int8.ofInt 16).toInt32 < x2 then x1 + (Int8.ofInt 16).toInt32 else x2) = x3 at e3
  refine kjZ_y rfl rfl 5 _ _ _ _ ty1 ?_
  refine (And.intro (Nat.le_of_ble_eq_true rfl) (And.intro (Nat.le_of_ble_eq_true rfl) ?_))
  refine k_hd_scan (d := d + 1) _ ty1 fr kg hM he hp x1 x2 x3 e3 (fun q x4 hq1 hq2 e4 hq => ?_) 16 (p + 1) _ (by rw [e1]; exact nI_1 p) (Nat.le_refl _) (by omega) rfl
  have hm : ∀ n, n < min e (p + 16) ↔ (n < e ∧ n < p + 16) := fun n => Nat.lt_min
  have hml : min e (p + 16) ≤ p + 16 := Nat.min_le_right _ _
  have hln : lnF (u1.1 g) p e = if q + 1 < e ∧ q + 1 < p + 16 then some ((lnV (u1.1 g) p q).map (fun v => (v, q + 2))) else if p + 16 ≤ e then some none else none := by rw [hq]; rfl
  refine kjZ_y rfl rfl 5 _ _ _ _ ty1 ?_
  refine And.intro (fun c => ?_) (fun c => ?_)
  rotate_left
  · have c : ¬ x4 + Int32.ofInt 1 < x3 := c
    rw [e3, e4, show nI q + Int32.ofInt 1 = nI (q + 1) from nI_1 q, nlt (by omega) (by omega)] at c
    rw [if_neg (fun z => c ((hm (q + 1)).mpr z))] at hln
    have e16 : x1 + (Int8.ofInt 16).toInt32 = nI (p + 16) := by rw [e1]; exact nI_add p 16
    refine kjZ_y rfl rfl 5 _ _ _ _ ty1 ?_
    refine And.intro (fun c2 => ?_) (fun c2 => ?_)
    · have c2 : x1 + (Int8.ofInt 16).toInt32 ≤ x3 := c2
      rw [e16, e3, nle (by omega) (by omega)] at c2
      have := (hm (p + 15)).mp (by omega)
      rw [if_pos (by omega)] at hln
      refine kjZ_y rfl rfl 2 _ _ _ _ ty1 ?_
      refine And.intro rfl (And.intro (Or.inl rfl) ?_)
      exact ⟨HX.rf, Or.inr (Or.inl ⟨hln, rfl⟩)⟩
    · have c2 : ¬ x1 + (Int8.ofInt 16).toInt32 ≤ x3 := c2
      rw [e16, e3, nle (by omega) (by omega)] at c2
      rw [if_neg (fun z => c2 (by rw [Nat.min_eq_right z]; exact Nat.le_refl _))] at hln
      refine kjZ_y rfl rfl 3 _ _ _ _ ty1 ?_
      refine And.intro rfl (And.intro (Or.inl rfl) ?_)
      exact ⟨HX.rf, Or.inl ⟨hln, rfl⟩⟩
  have c : x4 + Int32.ofInt 1 < x3 := c
  rw [e3, e4, show nI q + Int32.ofInt 1 = nI (q + 1) from nI_1 q, nlt (by omega) (by omega)] at c
  have hqe := (hm (q + 1)).mp c
  rw [if_pos hqe] at hln
  refine kjZ_y rfl rfl 5 _ _ _ _ ty1 ?_
  refine (And.intro (ty1.k (by decide) rfl) (And.intro (Or.inl rfl) (fun ty1' => ?_)))
  have go : ∀ z, kTY z → z = (mjIu u1.1 53 5 (x4 + Int32.ofInt 2), u1.2) → kjY kPP (kQQ Y) (d + 1) 95 50 [some (.ref 53), some (.int x1), some (.int x2), some (.int x3), some (.int x4), none, none, none, none] [] z (hdP u1 (lnF (u1.1 g) p e)) := by
    intro z tz ez
    have hz : HX u1 z := by
      rw [ez]
      exact ⟨rfl, fun h x c => by show mjIu u1.1 53 5 _ h x = _; rw [mjIu_at, if_neg c], fun _ _ _ => rfl⟩
    have zf : z.2.2.1 53 3 = some g := by rw [ez]; exact fr
    have zd : z.2.2.2.1 g = (21, M) := by rw [ez]; exact kg
    have zi : z.1 g = u1.1 g := by rw [ez]; exact mjIu_n g53
    have z5 : z.1 53 5 = nI (q + 2) := by
      rw [ez]; show mjIu u1.1 53 5 _ 53 5 = _
      rw [mjIu_p, e4]; exact nI_add q 2
    have kz : (z.2.2.2.1 g).1 = 21 := by rw [zd]
    have ep1 : x1 + Int32.ofInt 1 = nI (p + 1) := by rw [e1]; exact nI_1 p
    have vp : vp_in (x1 + Int32.ofInt 1) M := by rw [ep1]; exact vp_in_nI (by omega) (by omega)
    have cp : (x1 + Int32.ofInt 1).toNatClampNeg = p + 1 := by rw [ep1]; exact nI_clamp (by omega)
    -- from the first digit on
    have s71 : ∀ (x5 x6 : Int32) (s : Nat), x6 = nI s → (lnS (u1.1 g) p q = true ∧ x5 = 1 ∧ s = p + 2 ∨ (¬ lnS (u1.1 g) p q = true) ∧ x5 = 0 ∧ s = p + 1) → kjY kPP (kQQ Y) (d + 1) 95 71 [some (.ref 53), some (.int x1), some (.int x2), some (.int x3), some (.int x4), some (.int x5), none, none, none] [.int x6] z (hdP u1 (lnF (u1.1 g) p e)) := by
      intro x5 x6 s e6 hs
      have hsq : s ≤ q := by
        rcases hs with ⟨h1, -, h3⟩ | ⟨-, -, h3⟩
        · have := (of_decide_eq_true h1).1; omega
        · omega
      have esS : (if lnS (u1.1 g) p q = true then p + 2 else p + 1) = s := by
        rcases hs with ⟨h1, -, h3⟩ | ⟨h1, -, h3⟩
        · rw [if_pos h1, h3]
        · rw [if_neg h1, h3]
      have hV : lnV (u1.1 g) p q = if q - s < 1 ∨ 6 < q - s then none else (ldg (u1.1 g) (q - s) s 0).map (fun v => if lnS (u1.1 g) p q = true then -v else v) := by unfold lnV; rw [esS]
      have bad : lnV (u1.1 g) p q = none → ∀ l7 l8 : Option Value, kjY kPP (kQQ Y) (d + 1) 95 82 [some (.ref 53), some (.int x1), some (.int x2), some (.int x3), some (.int x4), some (.int x5), some (.int x6), l7, l8] [] z (hdP u1 (lnF (u1.1 g) p e)) := by
        intro hn l7 l8
        refine kjZ_y rfl rfl 2 _ _ _ _ tz ?_
        refine And.intro rfl (And.intro (Or.inl rfl) ?_)
        exact ⟨hz, Or.inr (Or.inl ⟨by rw [hln, hn]; rfl, rfl⟩)⟩
      have bad2 : lnV (u1.1 g) p q = none → ∀ x7 x8 : Int32, kjY kPP (kQQ Y) (d + 1) 95 103 [some (.ref 53), some (.int x1), some (.int x2), some (.int x3), some (.int x4), some (.int x5), some (.int x6), some (.int x7), some (.int x8)] [] z (hdP u1 (lnF (u1.1 g) p e)) := by
        intro hn x7 x8
        refine kjZ_y rfl rfl 2 _ _ _ _ tz ?_
        refine And.intro rfl (And.intro (Or.inl rfl) ?_)
        exact ⟨hz, Or.inr (Or.inl ⟨by rw [hln, hn]; rfl, rfl⟩)⟩
      have esub : x4 - x6 = nI (q - s) := by rw [e4, e6]; exact nI_sub3 hsq
      refine kjZ_y rfl rfl 1 _ _ _ _ tz ?_
      refine (And.intro (Nat.le_of_ble_eq_true rfl) ?_)
      refine kjZ_y rfl rfl 5 _ _ _ _ tz ?_
      refine And.intro (fun c3 => ?_) (fun c3 => ?_)
      · have c3 : x4 - x6 < nI 1 := c3
        rw [esub, nlt (by omega) (by decide)] at c3
        exact bad (by rw [hV, if_pos (Or.inl c3)]) _ _
      have c3 : ¬ x4 - x6 < nI 1 := c3
      rw [esub, nlt (by omega) (by decide)] at c3
      refine kjZ_y rfl rfl 5 _ _ _ _ tz ?_
      refine And.intro (fun c4 => ?_) (fun c4 => ?_)
      rotate_left
      · have c4 : ¬ x4 - x6 ≤ (Int8.ofInt 6).toInt32 := c4
        rw [esub, show (Int8.ofInt 6).toInt32 = nI 6 by decide, nle (by omega) (by decide)] at c4
        exact bad (by rw [hV, if_pos (Or.inr (by omega))]) _ _
      have c4 : x4 - x6 ≤ (Int8.ofInt 6).toInt32 := c4
      rw [esub, show (Int8.ofInt 6).toInt32 = nI 6 by decide, nle (by omega) (by decide)] at c4
      rw [if_neg (by omega)] at hV
      refine kjZ_y rfl rfl 4 _ _ _ _ tz ?_
      refine (And.intro (Nat.le_of_ble_eq_true rfl) (And.intro (Nat.le_of_ble_eq_true rfl) ?_))
      refine k_hd_dig (d := d + 1) _ tz zf zd hM (by omega) x1 x2 x3 x4 x5 x6 e4 (q - s) s _ _ e6 (by omega) (fun v x8 hv => ?_) (fun x7 x8 h => ?_)
      · rw [zi] at hv
        have hv : ldg (u1.1 g) (q - s) s 0 = some v := hv
        rw [hv] at hV
        have fin : ∀ w : Int64, w = (if lnS (u1.1 g) p q = true then -v else v).toInt64 → kjY kPP (kQQ Y) (d + 1) 95 127 [some (.ref 53), some (.int x1), some (.int x2), some (.int x3), some (.int x4), some (.int x5), some (.int x6), some (.int v), some (.int x8)] [.long w, .ref 53] z (hdP u1 (lnF (u1.1 g) p e)) := by
          intro w ew
          refine kjZ_y rfl rfl 3 _ _ _ _ tz ?_
          refine (And.intro (tz.k (by decide) rfl) (And.intro rfl (fun tz' => And.intro rfl (And.intro (Or.inl rfl) ?_))))
          have hy : ∀ y, y = (z.1, mjLu z.2.1 53 9 w, z.2.2) → hdP u1 (lnF (u1.1 g) p e) (some (.int 0)) y := by
            intro y ey
            refine ⟨hz.tr (by rw [ey]; exact ⟨rfl, fun _ _ _ => rfl, fun h x c => by show mjLu z.2.1 53 9 w h x = _; rw [mjLu_at, if_neg c]⟩), Or.inr (Or.inr ⟨((if lnS (u1.1 g) p q = true then -v else v), q + 2), ?_, rfl, ?_, ?_⟩)⟩
            · rw [hln, hV]; rfl
            · rw [ey]; exact z5
            · rw [ey]; show mjLu z.2.1 53 9 w 53 9 = _; rw [mjLu_p]; exact ew
          exact hy _ rfl
        rcases hs with ⟨h1, h2, h3⟩ | ⟨h1, h2, h3⟩
        · refine kjZ_y rfl rfl 3 _ _ _ _ tz ?_
          refine And.intro (fun c5 => ?_) (fun c5 => ?_)
          · exact absurd (h2.symm.trans c5) (by decide)
          refine kjZ_y rfl rfl 4 _ _ _ _ tz ?_
          exact fin _ (by rw [if_pos h1])
        · refine kjZ_y rfl rfl 3 _ _ _ _ tz ?_
          refine And.intro (fun c5 => ?_) (fun c5 => ?_)
          rotate_left
          · exact absurd h2 c5
          refine kjZ_y rfl rfl 2 _ _ _ _ tz ?_
          exact fin _ (by rw [if_neg h1])
      · rw [zi] at h
        have h : ldg (u1.1 g) (q - s) s 0 = none := h
        exact bad2 (by rw [hV, h]; rfl) x7 x8
    have s62 : ∀ x5 : Int32, (lnS (u1.1 g) p q = true ∧ x5 = 1 ∨ (¬ lnS (u1.1 g) p q = true) ∧ x5 = 0) → kjY kPP (kQQ Y) (d + 1) 95 61 [some (.ref 53), some (.int x1), some (.int x2), some (.int x3), some (.int x4), none, none, none, none] [.int x5] z (hdP u1 (lnF (u1.1 g) p e)) := by
      intro x5 h5
      refine kjZ_y rfl rfl 1 _ _ _ _ tz ?_
      refine (And.intro (Nat.le_of_ble_eq_true rfl) ?_)
      rcases h5 with ⟨h1, h2⟩ | ⟨h1, h2⟩
      · refine kjZ_y rfl rfl 2 _ _ _ _ tz ?_
        refine And.intro (fun c5 => ?_) (fun c5 => ?_)
        · exact absurd (h2.symm.trans c5) (by decide)
        refine kjZ_y rfl rfl 4 _ _ _ _ tz ?_
        exact s71 x5 _ (p + 2) (by rw [e1]; exact nI_add p 2) (Or.inl ⟨h1, h2, rfl⟩)
      · refine kjZ_y rfl rfl 2 _ _ _ _ tz ?_
        refine And.intro (fun c5 => ?_) (fun c5 => ?_)
        rotate_left
        · exact absurd h2 c5
        refine kjZ_y rfl rfl 3 _ _ _ _ tz ?_
        exact s71 x5 _ (p + 1) ep1 (Or.inr ⟨h1, h2, rfl⟩)
    refine kjZ_y rfl rfl 8 _ _ _ _ tz ?_
    refine (And.intro (tz.k (by decide) rfl) (Exists.intro _ (And.intro zf (Or.inl (And.intro (kdk zd) (And.intro (kdv zd vp) (And.intro (fun c5 => ?_) (fun c5 => ?_))))))))
    · have c5 : ¬ z.1 g (x1 + Int32.ofInt 1).toNatClampNeg = (Int8.ofInt 45).toInt32 := c5
      rw [cp, zi] at c5
      refine kjZ_y rfl rfl 1 _ _ _ _ tz ?_
      exact s62 _ (Or.inr ⟨fun y => c5 ((of_decide_eq_true y).2.trans (by decide)), rfl⟩)
    · have c5 : z.1 g (x1 + Int32.ofInt 1).toNatClampNeg = (Int8.ofInt 45).toInt32 := Decidable.of_not_not c5
      rw [cp, zi] at c5
      have hq3 : p + 1 < q := by
        refine Nat.lt_of_le_of_ne hq1 (fun y => ?_)
        -- at the line's end there stands 13
        have hb : ¬ (q + 1 < e ∧ q + 1 < p + 16 ∧ ¬ (u1.1 g q = 13 ∧ u1.1 g (q + 1) = 10)) := by
          intro h9
          have h10 : lsc (u1.1 g) p e 16 (p + 1) = lsc (u1.1 g) p e 15 (p + 2) := by
            show (if _ then _ else _) = _
            rw [← y] at h9
            rw [if_pos h9]
          have h11 := lsc_ge (u1.1 g) p e 15 (p + 2)
          omega
        have hb2 : u1.1 g q = 13 ∧ u1.1 g (q + 1) = 10 := Decidable.byContradiction (fun z => hb ⟨hqe.1, hqe.2, z⟩)
        rw [← y, c5] at hb2
        exact absurd hb2.1 (by decide)
      refine kjZ_y rfl rfl 2 _ _ _ _ tz ?_
      exact s62 _ (Or.inl ⟨decide_eq_true ⟨hq3, c5.trans (by decide)⟩, rfl⟩)
  exact go _ ty1' rfl
end KHEAD
