/-! Request: a request in its long form. -/
section KWORDS
variable {Y : Nat → MethodName × ByteArray} {d : Nat} {σ : kS}
/-- what reading a request changes -/
def RWx (σ u : kS) : Prop := u.2.2 = σ.2.2 ∧ (∀ h x, ¬ (h = 53 ∧ (x = 4 ∨ x = 5)) → ¬ h = 54 → ¬ h = 55 → u.1 h x = σ.1 h x) ∧ (∀ h x, ¬ (h = 53 ∧ x = 9) → u.2.1 h x = σ.2.1 h x)
theorem RWx.rf : RWx σ σ := ⟨rfl, fun _ _ _ _ _ => rfl, fun _ _ _ => rfl⟩
theorem RWx.tr {u z : kS} (a : RWx σ u) (b : RWx u z) : RWx σ z := ⟨b.1.trans a.1, fun h x c c2 c3 => (b.2.1 h x c c2 c3).trans (a.2.1 h x c c2 c3), fun h x c => (b.2.2 h x c).trans (a.2.2 h x c)⟩
theorem HX.rw {u : kS} (a : HX σ u) : RWx σ u := ⟨a.1, fun h x c _ _ => a.2.1 h x (fun z => c ⟨z.1, Or.inr z.2⟩), a.2.2⟩
/-- the words of a request, where they stand -/
def WP (b : Nat → Int32) (e : Nat) (u : kS) (q : List (List Int32)) : Prop := ∀ i w, q[i]? = some w → ∃ a, u.1 54 i = nI a ∧ u.1 55 i = nI w.length ∧ a + w.length ≤ e ∧ wd b a w.length = w ∧ w.length ≤ 16384
def rwP (σ : kS) (b : Nat → Int32) (e : Nat) (S : Option (Option (Req × Nat))) : kK := fun r u => RWx σ u ∧ ((∃ q nx, S = some (some (q, nx)) ∧ r = some (.int 0) ∧ u.1 53 4 = nI q.length ∧ q.length ≤ 1024 ∧ u.1 53 5 = nI nx ∧ nx ≤ e ∧ WP b e u q) ∨ (u.1 53 4 = σ.1 53 4 ∧ ((S = none ∧ r = some (.int 1)) ∨ (S = some none ∧ ∃ c, r = some (.int (nI c)) ∧ 2 ≤ c ∧ c ≤ 5))))
theorem i32_64 (z : Int32) : z.toInt64.toInt = z.toInt := by
  rw [Int32.toInt_toInt64]
theorem i32_6432 (z : Int32) : z.toInt64.toInt32 = z := by rw [Int32.toInt32_toInt64]
theorem k_rw_l {g M e N : Nat} (fr : σ.2.2.1 53 3 = some g) (kg : σ.2.2.2.1 g = (21, M)) (hM : M ≤ 600000) (he : e ≤ M) (hN : N ≤ 1024) (x1 x2 x4 : Int32) (e2 : x2 = nI e) (e4 : x4 = nI N) (S : Option (Option (Req × Nat))) (ty0 : kTY σ) :
    ∀ (m i pos : Nat) (q0 : Req) (x3 x5 x6 : Int32) (u : kS), x5 = nI pos → x6 = nI i → i + m = N → q0.length = i → pos ≤ e → kTY u → RWx σ u → u.1 53 4 = σ.1 53 4 → WP (σ.1 g) e u q0 → S = mz (swdF (σ.1 g) e m pos) (fun r => some (some (q0 ++ r.1, r.2))) →
    kjY kPP (kQQ Y) (d + 2) 94 30 [some (.ref 53), some (.int x1), some (.int x2), some (.int x3), some (.int x4), some (.int x5), some (.int x6)] [] u (rwP σ (σ.1 g) e S) := by
  have n53 : ¬ g = 53 := fun z => by
    have h9 := ty0.k (h := 53) (c := 3) (by decide) rfl
    rw [← z, kg] at h9; exact absurd h9 (show ¬ (21 : Nat) = 3 by decide)
  have n54 : ¬ g = 54 := fun z => by
    have h9 := ty0.k (h := 54) (c := 20) (by decide) rfl
    rw [← z, kg] at h9; exact absurd h9 (show ¬ (21 : Nat) = 20 by decide)
  have n55 : ¬ g = 55 := fun z => by
    have h9 := ty0.k (h := 55) (c := 20) (by decide) rfl
    rw [← z, kg] at h9; exact absurd h9 (show ¬ (21 : Nat) = 20 by decide)
  have rowE : ∀ u, RWx σ u → u.2.2.1 53 3 = some g ∧ u.2.2.2.1 g = (21, M) ∧ u.1 g = σ.1 g := fun u h => ⟨by rw [show u.2.2.1 = σ.2.2.1 from congrArg (fun t => t.1) h.1]; exact fr, by rw [show u.2.2.2.1 = σ.2.2.2.1 from congrArg (fun t => t.2.1) h.1]; exact kg, funext fun x => h.2.1 g x (fun z => n53 z.1) n54 n55⟩
  intro m
  induction m with
  | zero =>
    intro i pos q0 x3 x5 x6 u e5 e6 hi hq hpe tu ru u4 hw hS
    have hS : S = some (some (q0 ++ [], pos)) := hS
    rw [List.append_nil] at hS
    refine kjZ_y rfl rfl 3 _ _ _ _ tu ?_
    refine And.intro (fun c => ?_) (fun c => ?_)
    rotate_left
    · refine absurd (show x4 ≤ x6 from ?_) c
      rw [e4, e6, nle (by omega) (by omega)]; omega
    refine kjZ_y rfl rfl 8 _ _ _ _ tu ?_
    refine (And.intro (tu.k (by decide) rfl) (And.intro (Or.inl rfl) (fun tu' => (And.intro (tu'.k (by decide) rfl) (And.intro (Or.inl rfl) (fun tu'' => And.intro rfl (And.intro (Or.inl rfl) ?_)))))))
    have fin : ∀ z, z = (mjIu (mjIu u.1 53 4 x4) 53 5 x5, u.2) → rwP σ (σ.1 g) e S (some (.int 0)) z := by
      intro z ez
      have eI : ∀ h x, z.1 h x = if h = 53 ∧ x = 5 then x5 else if h = 53 ∧ x = 4 then x4 else u.1 h x := fun h x => by
        rw [ez]; show mjIu (mjIu u.1 53 4 x4) 53 5 x5 h x = _
        rw [mjIu_at, mjIu_at]
      refine ⟨ru.tr ⟨by rw [ez], fun h x c c2 c3 => ?_, fun h x _ => by rw [ez]⟩, Or.inl ⟨q0, pos, hS, rfl, ?_, by omega, ?_, hpe, fun k w hk => ?_⟩⟩
      · rw [eI, if_neg (fun y => c ⟨y.1, Or.inr y.2⟩), if_neg (fun y => c ⟨y.1, Or.inl y.2⟩)]
      · rw [eI, if_neg (fun y => absurd y.2 (by decide)), if_pos ⟨rfl, rfl⟩, e4, hq, ← hi]; rfl
      · rw [eI, if_pos ⟨rfl, rfl⟩, e5]
      · obtain ⟨a, a1, a2, a3⟩ := hw k w hk
        exact ⟨a, by rw [eI, if_neg (fun y => absurd y.1 (by decide)), if_neg (fun y => absurd y.1 (by decide))]; exact a1, by rw [eI, if_neg (fun y => absurd y.1 (by decide)), if_neg (fun y => absurd y.1 (by decide))]; exact a2, a3⟩
    exact fin _ rfl
  | succ m ih =>
    intro i pos q0 x3 x5 x6 u e5 e6 hi hq hpe tu ru u4 hw hS
    obtain ⟨uf, ud, ui⟩ := rowE u ru
    have kk : (u.2.2.2.1 g).1 = 21 := by rw [ud]
    have hsw : swdF (σ.1 g) e (m + 1) pos = if e ≤ pos then none else if ¬ σ.1 g pos = 36 then some none else mz (lnF (σ.1 g) pos e) (fun z => if z.1 < 0 ∨ 16384 < z.1 then some none else if (z.2 + z.1.toNatClampNeg < e ∧ ¬ σ.1 g (z.2 + z.1.toNatClampNeg) = 13) ∨ (z.2 + z.1.toNatClampNeg + 1 < e ∧ ¬ σ.1 g (z.2 + z.1.toNatClampNeg + 1) = 10) then some none else if e < z.2 + z.1.toNatClampNeg + 2 then none else mz (swdF (σ.1 g) e m (z.2 + z.1.toNatClampNeg + 2)) (fun r => some (some (wd (σ.1 g) z.2 z.1.toNatClampNeg :: r.1, r.2)))) := rfl
    refine kjZ_y rfl rfl 3 _ _ _ _ tu ?_
    refine And.intro (fun c => ?_) (fun c => ?_)
    · refine absurd (show x4 ≤ x6 from c) ?_
      rw [e4, e6, nle (by omega) (by omega)]; omega
    refine kjZ_y rfl rfl 3 _ _ _ _ tu ?_
    refine And.intro (fun c1 => ?_) (fun c1 => ?_)
    rotate_left
    · have c1 : ¬ x5 < x2 := c1
      rw [e5, e2, nlt (by omega) (by omega)] at c1
      rw [if_pos (by omega)] at hsw
      refine kjZ_y rfl rfl 2 _ _ _ _ tu ?_
      refine And.intro rfl (And.intro (Or.inl rfl) ?_)
      exact ⟨ru, Or.inr ⟨u4, Or.inl ⟨by rw [hS, hsw]; rfl, rfl⟩⟩⟩
    have c1 : x5 < x2 := c1
    rw [e5, e2, nlt (by omega) (by omega)] at c1
    rw [if_neg (by omega)] at hsw
    have v5 : vp_in x5 M := by rw [e5]; exact vp_in_nI (by omega) (by omega)
    have c5 : x5.toNatClampNeg = pos := by rw [e5]; exact nI_clamp (by omega)
    refine kjZ_y rfl rfl 6 _ _ _ _ tu ?_
    refine (And.intro (tu.k (by decide) rfl) (Exists.intro _ (And.intro uf (Or.inl (And.intro (kdk ud) (And.intro (kdv ud v5) (And.intro (fun c2 => ?_) (fun c2 => ?_))))))))
    rotate_left
    · have c2 : ¬ u.1 g x5.toNatClampNeg = (Int8.ofInt 36).toInt32 := c2
      rw [c5, ui] at c2
      rw [if_pos (fun z => c2 (z.trans (by decide)))] at hsw
      refine kjZ_y rfl rfl 2 _ _ _ _ tu ?_
      refine And.intro rfl (And.intro (Or.inl rfl) ?_)
      exact ⟨ru, Or.inr ⟨u4, Or.inr ⟨by rw [hS, hsw]; rfl, 4, rfl, by decide, by decide⟩⟩⟩
    have c2 : u.1 g x5.toNatClampNeg = (Int8.ofInt 36).toInt32 := c2
    rw [c5, ui] at c2
    rw [if_neg (fun z => z (c2.trans (by decide)))] at hsw
    refine kjZ_y rfl rfl 4 _ _ _ _ tu ?_
    refine (And.intro (Nat.le_of_ble_eq_true rfl) (And.intro (Or.inl ⟨(Nat.le_of_ble_eq_true rfl), (tu.k (by decide) rfl)⟩) (And.intro (Nat.le_of_ble_eq_true rfl) (And.intro (Nat.le_of_ble_eq_true rfl) (kjY_mono tu (fun q_ u1 ty1 xu1 h_ => ?_) (k_readHead (d := d) tu uf ud hM he c1 _ _ e5 e2))))))
    obtain ⟨h1, q⟩ := h_
    intro _ _
    rw [ui] at q
    have r1 : RWx σ u1 := ru.tr h1.rw
    have u14 : u1.1 53 4 = σ.1 53 4 := (h1.2.1 53 4 (by decide)).trans u4
    have w1 : WP (σ.1 g) e u1 q0 := fun k w hk => by
      obtain ⟨a, a1, a2, a3⟩ := hw k w hk
      exact ⟨a, (h1.2.1 54 k (by omega)).trans a1, (h1.2.1 55 k (by omega)).trans a2, a3⟩
    have bad3 : S = some none → ∀ x3 : Int32, ¬ x3 = 1 → kjY kPP (kQQ Y) (d + 2) 94 63 [some (.ref 53), some (.int x1), some (.int x2), some (.int x3), some (.int x4), some (.int x5), some (.int x6)] [] u1 (rwP σ (σ.1 g) e S) := by
      intro hs x3 h3
      refine kjZ_y rfl rfl 3 _ _ _ _ ty1 ?_
      refine And.intro (fun c3 => ?_) (fun c3 => ?_)
      rotate_left
      · exact absurd (Decidable.of_not_not c3) h3
      refine kjZ_y rfl rfl 2 _ _ _ _ ty1 ?_
      refine And.intro rfl (And.intro (Or.inl rfl) ?_)
      exact ⟨r1, Or.inr ⟨u14, Or.inr ⟨hs, 3, rfl, by decide, by decide⟩⟩⟩
    rcases q with ⟨q1, rfl⟩ | ⟨q1, rfl⟩ | ⟨z, q1, rfl, q5, q9⟩
    · rw [q1] at hsw
      refine kjZ_y rfl rfl 1 _ _ _ _ ty1 ?_
      refine (And.intro (Nat.le_of_ble_eq_true rfl) ?_)
      refine kjZ_y rfl rfl 2 _ _ _ _ ty1 ?_
      refine And.intro (fun c3 => ?_) (fun c3 => ?_)
      rotate_left
      · exact absurd (show ¬ (1 : Int32) = 0 by decide) c3
      refine kjZ_y rfl rfl 3 _ _ _ _ ty1 ?_
      refine And.intro (fun c4 => ?_) (fun c4 => ?_)
      · exact absurd rfl c4
      refine kjZ_y rfl rfl 3 _ _ _ _ ty1 ?_
      refine And.intro rfl (And.intro (Or.inl rfl) ?_)
      exact ⟨r1, Or.inr ⟨u14, Or.inl ⟨by rw [hS, hsw]; rfl, rfl⟩⟩⟩
    · rw [q1] at hsw
      refine kjZ_y rfl rfl 1 _ _ _ _ ty1 ?_
      refine (And.intro (Nat.le_of_ble_eq_true rfl) ?_)
      refine kjZ_y rfl rfl 2 _ _ _ _ ty1 ?_
      refine And.intro (fun c3 => ?_) (fun c3 => ?_)
      rotate_left
      · exact absurd (show ¬ (7 : Int32) = 0 by decide) c3
      exact bad3 (by rw [hS, hsw]; rfl) _ (by decide)
    · have hzl := lnF_le q1
      rw [q1] at hsw
      have hsw : swdF (σ.1 g) e (m + 1) pos = if z.1 < 0 ∨ 16384 < z.1 then some none else if (z.2 + z.1.toNatClampNeg < e ∧ ¬ σ.1 g (z.2 + z.1.toNatClampNeg) = 13) ∨ (z.2 + z.1.toNatClampNeg + 1 < e ∧ ¬ σ.1 g (z.2 + z.1.toNatClampNeg + 1) = 10) then some none else if e < z.2 + z.1.toNatClampNeg + 2 then none else mz (swdF (σ.1 g) e m (z.2 + z.1.toNatClampNeg + 2)) (fun r => some (some (wd (σ.1 g) z.2 z.1.toNatClampNeg :: r.1, r.2))) := hsw
      refine kjZ_y rfl rfl 1 _ _ _ _ ty1 ?_
      refine (And.intro (Nat.le_of_ble_eq_true rfl) ?_)
      refine kjZ_y rfl rfl 2 _ _ _ _ ty1 ?_
      refine And.intro (fun c3 => ?_) (fun c3 => ?_)
      · exact absurd rfl c3
      refine kjZ_y rfl rfl 5 _ _ _ _ ty1 ?_
      refine (And.intro (ty1.k (by decide) rfl) (And.intro (fun c4 => ?_) (fun c4 => ?_)))
      · have c4 : u1.2.1 53 9 < 0 := (lg_cmp_lt _ _).mp c4
        rw [q9, Int64.lt_iff_toInt_lt, i32_64] at c4
        have c4 : z.1 < 0 := Int32.lt_iff_toInt_lt.mpr c4
        rw [if_pos (Or.inl c4)] at hsw
        exact bad3 (by rw [hS, hsw]; rfl) _ (by decide)
      have c4 : ¬ z.1 < 0 := fun y => c4 ((lg_cmp_lt _ _).mpr (by
        show u1.2.1 53 9 < 0
        rw [q9, Int64.lt_iff_toInt_lt, i32_64]; exact Int32.lt_iff_toInt_lt.mp y))
      refine kjZ_y rfl rfl 5 _ _ _ _ ty1 ?_
      refine (And.intro (ty1.k (by decide) rfl) (And.intro (fun c5b => ?_) (fun c5b => ?_)))
      rotate_left
      · have c5b : ¬ u1.2.1 53 9 ≤ 16384 := fun y => c5b ((lg_cmp_le _ _).mpr y)
        rw [q9, Int64.le_iff_toInt_le, i32_64] at c5b
        have h9 : 16384 < z.1 := by
          rw [Int32.lt_iff_toInt_lt]
          exact Int.lt_of_not_ge c5b
        rw [if_pos (Or.inr h9)] at hsw
        exact bad3 (by rw [hS, hsw]; rfl) _ (by decide)
      have c5c : ¬ 16384 < z.1 := by
        have c5b : u1.2.1 53 9 ≤ 16384 := (lg_cmp_le _ _).mp c5b
        rw [q9, Int64.le_iff_toInt_le, i32_64] at c5b
        rw [Int32.lt_iff_toInt_lt]
        exact Int.not_lt.mpr c5b
      rw [if_neg (fun y => y.elim c4 c5c)] at hsw
      obtain ⟨ez, hz31⟩ := i32_nn c4
      have hzl2 : z.1.toNatClampNeg ≤ 16384 := by
        rw [ez] at c5c
        have c5c : ¬ nI 16384 < nI z.1.toNatClampNeg := c5c
        rw [nlt (by decide) hz31] at c5c; omega
      generalize hln : z.1.toNatClampNeg = len at hsw ez hz31 hzl2
      have v6 : vp_in x6 1024 := by rw [e6]; exact vp_in_nI (by omega) (by decide)
      have c6 : x6.toNatClampNeg = i := by rw [e6]; exact nI_clamp (by omega)
      refine kjZ_y rfl rfl 13 _ _ _ _ ty1 ?_
      refine (And.intro (ty1.k (by decide) rfl) (And.intro (ty1.k (by decide) rfl) (And.intro (ty1.k (by decide) rfl) (And.intro (kdw ty1 (by decide) rfl v6) (fun ty1' => (And.intro (ty1'.k (by decide) rfl) (And.intro (ty1'.k (by decide) rfl) (And.intro (ty1'.k (by decide) rfl) (And.intro (kdw ty1' (by decide) rfl v6) (fun ty1'' => ?_))))))))))
      have go : ∀ y, kTY y → y = (mjIu (mjIu u1.1 54 x6.toNatClampNeg (u1.1 53 5)) 55 x6.toNatClampNeg (u1.2.1 53 9).toInt32, u1.2) → kjY kPP (kQQ Y) (d + 2) 94 83 [some (.ref 53), some (.int x1), some (.int x2), some (.int 0), some (.int x4), some (.int x5), some (.int x6)] [] y (rwP σ (σ.1 g) e S) := by
        intro y t9 ey
        rw [c6, q5, q9, i32_6432, ez] at ey
        have eI : ∀ h x, y.1 h x = if h = 55 ∧ x = i then nI len else if h = 54 ∧ x = i then nI z.2 else u1.1 h x := fun h x => by
          rw [ey]; show mjIu (mjIu u1.1 54 i _) 55 i _ h x = _
          rw [mjIu_at, mjIu_at]
        have ry : RWx σ y := r1.tr ⟨by rw [ey], fun h x _ a2 a3 => by rw [eI, if_neg (fun z => a3 z.1), if_neg (fun z => a2 z.1)], fun h x _ => by rw [ey]⟩
        have y4 : y.1 53 4 = σ.1 53 4 := by rw [eI, if_neg (fun z => absurd z.1 (by decide)), if_neg (fun z => absurd z.1 (by decide))]; exact u14
        have y5 : y.1 53 5 = nI z.2 := by rw [eI, if_neg (fun z => absurd z.1 (by decide)), if_neg (fun z => absurd z.1 (by decide))]; exact q5
        obtain ⟨yf, yd, yi⟩ := rowE y ry
        have ky : (y.2.2.2.1 g).1 = 21 := by rw [yd]
        have y55 : y.1 55 x6.toNatClampNeg = nI len := by rw [c6, eI, if_pos ⟨rfl, rfl⟩]
        have e5' : y.1 53 5 + y.1 55 x6.toNatClampNeg + Int32.ofInt 2 = nI (z.2 + len + 2) := by
          rw [y5, y55, nI_add]; exact nI_add (z.2 + len) 2
        refine kjZ_y rfl rfl 10 _ _ _ _ t9 ?_
        refine (And.intro (t9.k (by decide) rfl) (And.intro (t9.k (by decide) rfl) (Or.inl (And.intro (t9.k (by decide) rfl) (And.intro (kdw t9 (by decide) rfl v6) (And.intro (Nat.le_of_ble_eq_true rfl) ?_))))))
        have go2 : ∀ x5' : Int32, x5' = nI (z.2 + len + 2) → kjY kPP (kQQ Y) (d + 2) 94 93 [some (.ref 53), some (.int x1), some (.int x2), some (.int 0), some (.int x4), some (.int x5'), some (.int x6)] [] y (rwP σ (σ.1 g) e S) := by
          intro x5' e5'
          have m2 : x5' - Int32.ofInt 2 = nI (z.2 + len) := by rw [e5']; exact nI_sub3 (show 2 ≤ z.2 + len + 2 by omega)
          have m1 : x5' - Int32.ofInt 1 = nI (z.2 + len + 1) := by rw [e5']; exact nI_sub3 (show 1 ≤ z.2 + len + 2 by omega)
          have s119 : S = some none → kjY kPP (kQQ Y) (d + 2) 94 119 [some (.ref 53), some (.int x1), some (.int x2), some (.int 0), some (.int x4), some (.int x5'), some (.int x6)] [] y (rwP σ (σ.1 g) e S) := by
            intro hs
            refine kjZ_y rfl rfl 2 _ _ _ _ t9 ?_
            refine And.intro rfl (And.intro (Or.inl rfl) ?_)
            exact ⟨ry, Or.inr ⟨y4, Or.inr ⟨hs, 5, rfl, by decide, by decide⟩⟩⟩
          have s121 : (¬ ((z.2 + len < e ∧ ¬ σ.1 g (z.2 + len) = 13) ∨ (z.2 + len + 1 < e ∧ ¬ σ.1 g (z.2 + len + 1) = 10))) → kjY kPP (kQQ Y) (d + 2) 94 121 [some (.ref 53), some (.int x1), some (.int x2), some (.int 0), some (.int x4), some (.int x5'), some (.int x6)] [] y (rwP σ (σ.1 g) e S) := by
            intro hn
            rw [if_neg hn] at hsw
            refine kjZ_y rfl rfl 3 _ _ _ _ t9 ?_
            refine And.intro (fun c7 => ?_) (fun c7 => ?_)
            rotate_left
            · have c7 : ¬ x5' ≤ x2 := c7
              rw [e5', e2, nle (by omega) (by omega)] at c7
              rw [if_pos (by omega)] at hsw
              refine kjZ_y rfl rfl 2 _ _ _ _ t9 ?_
              refine And.intro rfl (And.intro (Or.inl rfl) ?_)
              exact ⟨ry, Or.inr ⟨y4, Or.inl ⟨by rw [hS, hsw]; rfl, rfl⟩⟩⟩
            have c7 : x5' ≤ x2 := c7
            rw [e5', e2, nle (by omega) (by omega)] at c7
            rw [if_neg (by omega)] at hsw
            refine kjZ_y rfl rfl 2 _ _ _ _ t9 ?_
            refine ih (i + 1) (z.2 + len + 2) (q0 ++ [wd (σ.1 g) z.2 len]) _ _ _ y e5' (by rw [e6]; exact nI_1 i) (by omega) (by rw [List.length_append, hq]; rfl) c7 t9 ry y4 (fun k w hk => ?_) ?_
            · by_cases hki : k < i
              · rw [List.getElem?_append_left (by omega)] at hk
                obtain ⟨a, a1, a2, a3⟩ := w1 k w hk
                exact ⟨a, by rw [eI, if_neg (fun z => absurd z.2 (by omega)), if_neg (fun z => absurd z.2 (by omega))]; exact a1, by rw [eI, if_neg (fun z => absurd z.2 (by omega)), if_neg (fun z => absurd z.2 (by omega))]; exact a2, a3⟩
              · have hk2 := (List.getElem?_eq_some_iff.mp hk).1
                rw [List.length_append, hq] at hk2
                have hk3 : k < i + 1 := hk2
                have hki2 : k = i := by omega
                subst hki2
                rw [List.getElem?_append_right (by omega), hq, Nat.sub_self] at hk
                have hk : some (wd (σ.1 g) z.2 len) = some w := hk
                obtain rfl := Option.some.inj hk
                refine ⟨z.2, ?_, ?_, ?_, ?_, ?_⟩
                · rw [eI, if_neg (fun z => absurd z.1 (by decide)), if_pos ⟨rfl, rfl⟩]
                · rw [eI, if_pos ⟨rfl, rfl⟩, wd_len]
                · rw [wd_len]; omega
                · rw [wd_len]
                · rw [wd_len]; exact hzl2
            · rw [hS, hsw]
              cases swdF (σ.1 g) e m (z.2 + len + 2) with
              | none => rfl
              | some o =>
                cases o with
                | none => rfl
                | some r =>
                  show some (some (q0 ++ wd (σ.1 g) z.2 len :: r.1, r.2)) = some (some (q0 ++ [wd (σ.1 g) z.2 len] ++ r.1, r.2))
                  rw [List.append_assoc]; rfl
          have s106 : (¬ (z.2 + len < e ∧ ¬ σ.1 g (z.2 + len) = 13)) → kjY kPP (kQQ Y) (d + 2) 94 106 [some (.ref 53), some (.int x1), some (.int x2), some (.int 0), some (.int x4), some (.int x5'), some (.int x6)] [] y (rwP σ (σ.1 g) e S) := by
            intro hn
            refine kjZ_y rfl rfl 5 _ _ _ _ t9 ?_
            refine And.intro (fun c7 => ?_) (fun c7 => ?_)
            · have c7 : x2 ≤ x5' - Int32.ofInt 1 := c7
              rw [m1, e2, nle (by omega) (by omega)] at c7
              exact s121 (fun y => y.elim hn (fun y => by omega))
            have c7 : ¬ x2 ≤ x5' - Int32.ofInt 1 := c7
            rw [m1, e2, nle (by omega) (by omega)] at c7
            have v7 : vp_in (x5' - Int32.ofInt 1) M := by rw [m1]; exact vp_in_nI (by omega) (by omega)
            have c9 : (x5' - Int32.ofInt 1).toNatClampNeg = z.2 + len + 1 := by rw [m1]; exact nI_clamp (by omega)
            refine kjZ_y rfl rfl 8 _ _ _ _ t9 ?_
            refine (And.intro (t9.k (by decide) rfl) (Exists.intro _ (And.intro yf (Or.inl (And.intro (kdk yd) (And.intro (kdv yd v7) (And.intro (fun c8 => ?_) (fun c8 => ?_))))))))
            · have c8 : y.1 g (x5' - Int32.ofInt 1).toNatClampNeg = (Int8.ofInt 10).toInt32 := c8
              rw [c9, yi] at c8
              exact s121 (fun y => y.elim hn (fun y => y.2 (c8.trans (by decide))))
            · have c8 : ¬ y.1 g (x5' - Int32.ofInt 1).toNatClampNeg = (Int8.ofInt 10).toInt32 := c8
              rw [c9, yi] at c8
              rw [if_pos (Or.inr ⟨by omega, fun y => c8 (y.trans (by decide))⟩)] at hsw
              exact s119 (by rw [hS, hsw]; rfl)
          refine kjZ_y rfl rfl 5 _ _ _ _ t9 ?_
          refine And.intro (fun c7 => ?_) (fun c7 => ?_)
          · have c7 : x2 ≤ x5' - Int32.ofInt 2 := c7
            rw [m2, e2, nle (by omega) (by omega)] at c7
            exact s106 (fun y => by omega)
          have c7 : ¬ x2 ≤ x5' - Int32.ofInt 2 := c7
          rw [m2, e2, nle (by omega) (by omega)] at c7
          have v7 : vp_in (x5' - Int32.ofInt 2) M := by rw [m2]; exact vp_in_nI (by omega) (by omega)
          have c9 : (x5' - Int32.ofInt 2).toNatClampNeg = z.2 + len := by rw [m2]; exact nI_clamp (by omega)
          refine kjZ_y rfl rfl 8 _ _ _ _ t9 ?_
          refine (And.intro (t9.k (by decide) rfl) (Exists.intro _ (And.intro yf (Or.inl (And.intro (kdk yd) (And.intro (kdv yd v7) (And.intro (fun c8 => ?_) (fun c8 => ?_))))))))
          · have c8 : ¬ y.1 g (x5' - Int32.ofInt 2).toNatClampNeg = (Int8.ofInt 13).toInt32 := c8
            rw [c9, yi] at c8
            rw [if_pos (Or.inl ⟨by omega, fun y => c8 (y.trans (by decide))⟩)] at hsw
            exact s119 (by rw [hS, hsw]; rfl)
          · have c8 : y.1 g (x5' - Int32.ofInt 2).toNatClampNeg = (Int8.ofInt 13).toInt32 := Decidable.of_not_not c8
            rw [c9, yi] at c8
            exact s106 (fun y => y.2 (c8.trans (by decide)))
        exact go2 _ e5'
      exact go _ ty1'' rfl
theorem k_readWords (ty : kTY σ) {g M p e : Nat} (fr : σ.2.2.1 53 3 = some g) (kg : σ.2.2.2.1 g = (21, M)) (hM : M ≤ 600000) (he : e ≤ M) (hp : p < e) (x1 x2 : Int32) (e1 : x1 = nI p) (e2 : x2 = nI e) :
    kjY kPP (kQQ Y) (d + 2) 94 0 (mjL0 7 [.ref 53, .int x1, .int x2]) [] σ (rwP σ (σ.1 g) e (starF (σ.1 g) p e)) := by
  refine kjZ_y rfl rfl 4 _ _ _ _ ty ?_
  refine (And.intro (Nat.le_of_ble_eq_true rfl) (And.intro (Or.inl ⟨(Nat.le_of_ble_eq_true rfl), (ty.k (by decide) rfl)⟩) (And.intro (Nat.le_of_ble_eq_true rfl) (And.intro (Nat.le_of_ble_eq_true rfl) (kjY_mono ty (fun q_ u1 ty1 xu1 h_ => ?_) (k_readHead (d := d) ty fr kg hM he hp _ _ e1 e2))))))
  obtain ⟨h1, q⟩ := h_
  intro _ _
  have r1 := h1.rw
  have u14 : u1.1 53 4 = σ.1 53 4 := h1.2.1 53 4 (by decide)
  have bad2 : starF (σ.1 g) p e = some none → ∀ x3 : Int32, ¬ x3 = 1 → kjY kPP (kQQ Y) (d + 2) 94 12 [some (.ref 53), some (.int x1), some (.int x2), some (.int x3), none, none, none] [] u1 (rwP σ (σ.1 g) e (starF (σ.1 g) p e)) := by
    intro hs x3 h3
    refine kjZ_y rfl rfl 3 _ _ _ _ ty1 ?_
    refine And.intro (fun c3 => ?_) (fun c3 => ?_)
    rotate_left
    · exact absurd (Decidable.of_not_not c3) h3
    refine kjZ_y rfl rfl 2 _ _ _ _ ty1 ?_
    refine And.intro rfl (And.intro (Or.inl rfl) ?_)
    exact ⟨r1, Or.inr ⟨u14, Or.inr ⟨hs, 2, rfl, by decide, by decide⟩⟩⟩
  rcases q with ⟨q1, rfl⟩ | ⟨q1, rfl⟩ | ⟨z, q1, rfl, q5, q9⟩
  · have hS : starF (σ.1 g) p e = none := by unfold starF; rw [q1]; rfl
    refine kjZ_y rfl rfl 1 _ _ _ _ ty1 ?_
    refine (And.intro (Nat.le_of_ble_eq_true rfl) ?_)
    refine kjZ_y rfl rfl 2 _ _ _ _ ty1 ?_
    refine And.intro (fun c3 => ?_) (fun c3 => ?_)
    rotate_left
    · exact absurd (show ¬ (1 : Int32) = 0 by decide) c3
    refine kjZ_y rfl rfl 3 _ _ _ _ ty1 ?_
    refine And.intro (fun c4 => ?_) (fun c4 => ?_)
    · exact absurd rfl c4
    refine kjZ_y rfl rfl 3 _ _ _ _ ty1 ?_
    refine And.intro rfl (And.intro (Or.inl rfl) ?_)
    exact ⟨r1, Or.inr ⟨u14, Or.inl ⟨hS, rfl⟩⟩⟩
  · have hS : starF (σ.1 g) p e = some none := by unfold starF; rw [q1]; rfl
    refine kjZ_y rfl rfl 1 _ _ _ _ ty1 ?_
    refine (And.intro (Nat.le_of_ble_eq_true rfl) ?_)
    refine kjZ_y rfl rfl 2 _ _ _ _ ty1 ?_
    refine And.intro (fun c3 => ?_) (fun c3 => ?_)
    rotate_left
    · exact absurd (show ¬ (7 : Int32) = 0 by decide) c3
    exact bad2 hS _ (by decide)
  · have hzl := lnF_le q1
    have hS : starF (σ.1 g) p e = if 1024 < z.1 then some none else swdF (σ.1 g) e (if z.1 < 0 then 0 else z.1.toNatClampNeg) z.2 := by unfold starF; rw [q1]; rfl
    refine kjZ_y rfl rfl 1 _ _ _ _ ty1 ?_
    refine (And.intro (Nat.le_of_ble_eq_true rfl) ?_)
    refine kjZ_y rfl rfl 2 _ _ _ _ ty1 ?_
    refine And.intro (fun c3 => ?_) (fun c3 => ?_)
    · exact absurd rfl c3
    refine kjZ_y rfl rfl 5 _ _ _ _ ty1 ?_
    refine (And.intro (ty1.k (by decide) rfl) (And.intro (fun c5b => ?_) (fun c5b => ?_)))
    rotate_left
    · have c5b : ¬ u1.2.1 53 9 ≤ 1024 := fun y => c5b ((lg_cmp_le _ _).mpr y)
      rw [q9, Int64.le_iff_toInt_le, i32_64] at c5b
      have h9 : 1024 < z.1 := by
        rw [Int32.lt_iff_toInt_lt]
        exact Int.lt_of_not_ge c5b
      rw [if_pos h9] at hS
      exact bad2 hS _ (by decide)
    have c5c : ¬ 1024 < z.1 := by
      have c5b : u1.2.1 53 9 ≤ 1024 := (lg_cmp_le _ _).mp c5b
      rw [q9, Int64.le_iff_toInt_le, i32_64] at c5b
      rw [Int32.lt_iff_toInt_lt]
      exact Int.not_lt.mpr c5b
    rw [if_neg c5c] at hS
    refine kjZ_y rfl rfl 4 _ _ _ _ ty1 ?_
    refine (And.intro (ty1.k (by decide) rfl) (And.intro (Nat.le_of_ble_eq_true rfl) (And.intro (Nat.le_of_ble_eq_true rfl) (And.intro (Nat.le_of_ble_eq_true rfl) (kjY_mono ty1 (fun q_ u2 ty2 xu2 h_ => ?_) (k_maxL ty1 _ _))))))
    obtain ⟨rfl, rfl⟩ := h_
    intro _ _
    have en : (if u2.2.1 53 9 < (Int64.ofNat 0) then Int64.ofNat 0 else u2.2.1 53 9).toInt32 = nI (if z.1 < 0 then 0 else z.1.toNatClampNeg) ∧ (if z.1 < 0 then 0 else z.1.toNatClampNeg) ≤ 1024 := by
      rw [q9]
      by_cases c : z.1 < 0
      · have h9 : z.1.toInt64 < Int64.ofNat 0 := by rw [Int64.lt_iff_toInt_lt, i32_64]; exact Int32.lt_iff_toInt_lt.mp c
        rw [if_pos c, if_pos h9]; exact ⟨by decide, by decide⟩
      · have h9 : ¬ z.1.toInt64 < Int64.ofNat 0 := fun y => c (by rw [Int64.lt_iff_toInt_lt, i32_64] at y; exact Int32.lt_iff_toInt_lt.mpr y)
        obtain ⟨ez, hz31⟩ := i32_nn c
        rw [if_neg c, if_neg h9, i32_6432]
        refine ⟨ez, ?_⟩
        rw [ez] at c5c
        have c5c : ¬ nI 1024 < nI z.1.toNatClampNeg := c5c
        rw [nlt (by decide) hz31] at c5c; omega
    obtain ⟨en, hn9⟩ := en
    generalize (if z.1 < 0 then 0 else z.1.toNatClampNeg) = N at hS en hn9
    refine kjZ_y rfl rfl 7 _ _ _ _ ty2 ?_
    refine (And.intro (Nat.le_of_ble_eq_true rfl) (And.intro (ty2.k (by decide) rfl) (And.intro (Nat.le_of_ble_eq_true rfl) (And.intro (Nat.le_of_ble_eq_true rfl) ?_))))
    have go : ∀ x4 x5 : Int32, x4 = nI N → x5 = nI z.2 → kjY kPP (kQQ Y) (d + 2) 94 30 [some (.ref 53), some (.int x1), some (.int x2), some (.int 0), some (.int x4), some (.int x5), some (.int (Int32.ofInt 0))] [] u2 (rwP σ (σ.1 g) e (starF (σ.1 g) p e)) := by
      intro x4 x5 e4 e5
      refine k_rw_l (d := d) fr kg hM he hn9 x1 x2 x4 e2 e4 _ ty N 0 z.2 [] _ _ _ u2 e5 rfl (Nat.zero_add _) rfl hzl.2 ty2 r1 u14 (fun i w hw => by cases hw) ?_
      rw [hS]
      cases swdF (σ.1 g) e N z.2 with
      | none => rfl
      | some o =>
        cases o with
        | none => rfl
        | some r => rfl
    exact go _ _ en q5
end KWORDS
