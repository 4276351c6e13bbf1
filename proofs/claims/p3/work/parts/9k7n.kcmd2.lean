/-! Command: how many words it takes; a command by its name. -/
def txC (j : Nat) : Nat := (kCmd j).2.2.2.2.1
theorem txC_lt : ∀ j, j < 105 → txC j < 185 := by decide +kernel
theorem txC_srt : ∀ j, j < 104 → cmpW (tb (txC j)) (tb (txC (j + 1))) < 0 := by decide +kernel
theorem txC_lt2 : ∀ (n i : Nat), i + n + 1 < 105 → cmpW (tb (txC i)) (tb (txC (i + n + 1))) < 0 := by
  intro n
  induction n with
  | zero => intro i h; exact txC_srt i (by omega)
  | succ n ih =>
    intro i h
    exact cmpW_trans _ _ _ (ih i (by omega)) (txC_srt (i + n + 1) (by omega))
/-- how many words a command takes -/
def tkP (j : Nat) (x : Int32) : Prop := (¬ x < (kCmd j).1) ∧ (¬ (kCmd j).2.1 < x) ∧ ((¬ x &&& 1 = 0) → (kCmd j).2.2.2.1 &&& 4 = 0) ∧ (x &&& 1 = 0 → (kCmd j).2.2.2.1 &&& 8 = 0)
section KCMD2
variable {Y : Nat → MethodName × ByteArray} {d : Nat} {σ : kS}
theorem k_takes (ty : kTY σ) {j : Nat} (hj : j < 105) (x : Int32) : kjY kPP (kQQ Y) (d + 1) 89 0 (mjL0 3 [.ref (1000000 + j), .int x]) [] σ (fun r u => u = σ ∧ ((r = some (.int 1) ∧ tkP j x) ∨ (r = some (.int 0) ∧ ¬ tkP j x))) := by
  have h1 : kOf 1001 (1000000 + j) (.int (kCmd j).1) := Or.inl ⟨j, hj, rfl, Or.inl ⟨rfl, rfl⟩⟩
  have h2 : kOf 1002 (1000000 + j) (.int (kCmd j).2.1) := Or.inl ⟨j, hj, rfl, Or.inr (Or.inl ⟨rfl, rfl⟩)⟩
  have kcm : kCm (1000000 + j) := ⟨j, hj, rfl⟩
  have s8 : ∀ x2 : Int32, ((x2 = 0 ∧ x &&& 1 = 0) ∨ (x2 = 1 ∧ ¬ x &&& 1 = 0)) → kjY kPP (kQQ Y) (d + 1) 89 8 [some (.ref (1000000 + j)), some (.int x), some (.int x2)] [] σ (fun r u => u = σ ∧ ((r = some (.int 1) ∧ tkP j x) ∨ (r = some (.int 0) ∧ ¬ tkP j x))) := by
    intro x2 hx
    have no : (¬ tkP j x) → kjY kPP (kQQ Y) (d + 1) 89 30 [some (.ref (1000000 + j)), some (.int x), some (.int x2)] [] σ (fun r u => u = σ ∧ ((r = some (.int 1) ∧ tkP j x) ∨ (r = some (.int 0) ∧ ¬ tkP j x))) := by
      intro h
      refine kjZ_y rfl rfl 2 _ _ _ _ ty ?_
      refine And.intro rfl (And.intro (Or.inr (Or.inl ⟨rfl, Or.inl rfl⟩)) ?_)
      exact ⟨rfl, Or.inr ⟨rfl, h⟩⟩
    have yes : tkP j x → kjY kPP (kQQ Y) (d + 1) 89 28 [some (.ref (1000000 + j)), some (.int x), some (.int x2)] [] σ (fun r u => u = σ ∧ ((r = some (.int 1) ∧ tkP j x) ∨ (r = some (.int 0) ∧ ¬ tkP j x))) := by
      intro h
      refine kjZ_y rfl rfl 3 _ _ _ _ ty ?_
      refine And.intro rfl (And.intro (Or.inr (Or.inl ⟨rfl, Or.inr rfl⟩)) ?_)
      exact ⟨rfl, Or.inl ⟨rfl, h⟩⟩
    refine kjZ_y rfl rfl 4 _ _ _ _ ty ?_
    refine (Exists.intro _ (And.intro h1 (And.intro (fun c => ?_) (fun c => ?_))))
    · exact no (fun z => z.1 c)
    refine kjZ_y rfl rfl 4 _ _ _ _ ty ?_
    refine (Exists.intro _ (And.intro h2 (And.intro (fun c2 => ?_) (fun c2 => ?_))))
    · exact no (fun z => z.2.1 c2)
    rcases hx with ⟨hx, hx2⟩ | ⟨hx, hx2⟩
    · refine kjZ_y rfl rfl 2 _ _ _ _ ty ?_
      refine And.intro (fun c3 => ?_) (fun c3 => ?_)
      rotate_left
      · exact absurd hx c3
      refine kjZ_y rfl rfl 2 _ _ _ _ ty ?_
      refine And.intro (fun c4 => ?_) (fun c4 => ?_)
      · exact absurd hx c4
      refine kjZ_y rfl rfl 3 _ _ _ _ ty ?_
      refine (And.intro (Nat.le_of_ble_eq_true rfl) (And.intro (Or.inr (Or.inl ⟨rfl, by assumption⟩)) (And.intro (Nat.le_of_ble_eq_true rfl) (And.intro (Nat.le_of_ble_eq_true rfl) (kjY_mono ty (fun q_ u1 ty1 xu1 h_ => ?_) (k_has ty hj _))))))
      obtain ⟨rfl, q⟩ := h_
      intro _ _
      rcases q with ⟨rfl, q⟩ | ⟨rfl, q⟩
      · refine kjZ_y rfl rfl 1 _ _ _ _ ty1 ?_
        refine And.intro (fun c5 => ?_) (fun c5 => ?_)
        rotate_left
        · exact absurd (show ¬ (1 : Int32) = 0 by decide) c5
        exact no (fun z => q (z.2.2.2 hx2))
      · refine kjZ_y rfl rfl 1 _ _ _ _ ty1 ?_
        refine And.intro (fun c5 => ?_) (fun c5 => ?_)
        · exact absurd rfl c5
        exact yes ⟨c, c2, fun z => absurd hx2 z, fun _ => q⟩
    · refine kjZ_y rfl rfl 2 _ _ _ _ ty ?_
      refine And.intro (fun c3 => ?_) (fun c3 => ?_)
      · exact absurd (hx.symm.trans c3) (by decide)
      refine kjZ_y rfl rfl 3 _ _ _ _ ty ?_
      refine (And.intro (Nat.le_of_ble_eq_true rfl) (And.intro (Or.inr (Or.inl ⟨rfl, by assumption⟩)) (And.intro (Nat.le_of_ble_eq_true rfl) (And.intro (Nat.le_of_ble_eq_true rfl) (kjY_mono ty (fun q_ u1 ty1 xu1 h_ => ?_) (k_has ty hj _))))))
      obtain ⟨rfl, q⟩ := h_
      intro _ _
      rcases q with ⟨rfl, q⟩ | ⟨rfl, q⟩
      · refine kjZ_y rfl rfl 1 _ _ _ _ ty1 ?_
        refine And.intro (fun c5 => ?_) (fun c5 => ?_)
        rotate_left
        · exact absurd (show ¬ (1 : Int32) = 0 by decide) c5
        exact no (fun z => q (z.2.2.1 hx2))
      · refine kjZ_y rfl rfl 1 _ _ _ _ ty1 ?_
        refine And.intro (fun c5 => ?_) (fun c5 => ?_)
        · exact absurd rfl c5
        refine kjZ_y rfl rfl 2 _ _ _ _ ty1 ?_
        refine And.intro (fun c4 => ?_) (fun c4 => ?_)
        rotate_left
        · refine absurd (show ¬ x2 = 0 from ?_) c4
          rw [hx]; decide
        exact yes ⟨c, c2, fun _ => q, fun z => absurd z hx2⟩
  refine kjZ_y rfl rfl 4 _ _ _ _ ty ?_
  refine And.intro (fun c => ?_) (fun c => ?_)
  · refine kjZ_y rfl rfl 2 _ _ _ _ ty ?_
    refine (And.intro (Nat.le_of_ble_eq_true rfl) ?_)
    exact s8 _ (Or.inl ⟨rfl, c⟩)
  · refine kjZ_y rfl rfl 3 _ _ _ _ ty ?_
    refine (And.intro (Nat.le_of_ble_eq_true rfl) ?_)
    exact s8 _ (Or.inr ⟨rfl, c⟩)
theorem cmpW_asym {a b : List Int32} (h : cmpW a b < 0) : ¬ cmpW b a < 0 := fun z => by
  have := cmpW_trans _ _ _ h z
  rw [cmpW_self] at this; exact absurd this (by decide)
theorem row_up (ty : kTY σ) {h M : Nat} (kh : σ.2.2.2.1 h = (21, M)) (a n : Nat) : ∀ x ∈ (wd (σ.1 h) a n).map up, x.toInt8.toInt32 = x := by
  intro x hx
  obtain ⟨y, hy, rfl⟩ := List.mem_map.mp hx
  unfold wd at hy
  obtain ⟨k, -, rfl⟩ := List.mem_map.mp hy
  exact (up_b8 (ty.2.1 h _ (by rw [kh]))).1
theorem tb_eq {j : Nat} (hj : j < 105) {w : List Int32} (hw : ∀ x ∈ w, x.toInt8.toInt32 = x) : cmpW (tb (txC j)) w = 0 ↔ w = tb (txC j) := by
  refine ⟨fun z => (cmpW_eq _ _ (fun x hx => ((tb_ok _ (txC_lt j hj)).2 x hx).1) hw z).symm, fun z => by rw [z]; exact cmpW_self _⟩
theorem k_named_l (ty : kTY σ) {h M a n : Nat} (kh : σ.2.2.2.1 h = (21, M)) (hM : M ≤ 600000) (ha : a + n ≤ M) (x1 x2 : Int32) (e1 : x1 = nI a) (e2 : x2 = nI n) :
    ∀ (f lo hi : Nat) (x3 x4 : Int32) (o5 o6 : Option Value), x3 = nI lo → x4 = nI hi → hi - lo < f → lo ≤ hi → hi ≤ 105 → (∀ i, i < lo → cmpW (tb (txC i)) ((wd (σ.1 h) a n).map up) < 0) → (∀ i, hi ≤ i → i < 105 → 0 < cmpW (tb (txC i)) ((wd (σ.1 h) a n).map up)) →
    kjY kPP (kQQ Y) (d + 6) 90 5 [some (.ref h), some (.int x1), some (.int x2), some (.int x3), some (.int x4), o5, o6] [] σ (fun r u => u = σ ∧ ((∃ j, j < 105 ∧ r = some (.ref (1000000 + j)) ∧ cmpW (tb (txC j)) ((wd (σ.1 h) a n).map up) = 0) ∨ (r = some .null ∧ ∀ j, j < 105 → ¬ cmpW (tb (txC j)) ((wd (σ.1 h) a n).map up) = 0))) := by
  have kk : (σ.2.2.2.1 h).1 = 21 := by rw [kh]
  intro f
  induction f with
  | zero => intro lo hi x3 x4 o5 o6 _ _ hf; omega
  | succ f ih =>
    intro lo hi x3 x4 o5 o6 e3 e4 hf h1 h2 hl hh
    refine kjZ_y rfl rfl 3 _ _ _ _ ty ?_
    refine And.intro (fun c => ?_) (fun c => ?_)
    · have c : x4 ≤ x3 := c
      rw [e3, e4, nle (by omega) (by omega)] at c
      refine kjZ_y rfl rfl 2 _ _ _ _ ty ?_
      refine And.intro rfl (And.intro (Nat.le_of_ble_eq_true rfl) ?_)
      refine ⟨rfl, Or.inr ⟨rfl, fun j hj => ?_⟩⟩
      by_cases z : j < lo
      · have := hl j z; omega
      · have := hh j (by omega) hj; omega
    have c : ¬ x4 ≤ x3 := c
    rw [e3, e4, nle (by omega) (by omega)] at c
    have em : ((x3 + x4).toUInt32 >>> ((Int32.ofInt 1).toUInt32 &&& Int32.toUInt32 31)).toInt32 = nI ((lo + hi) / 2) := by rw [e3, e4, nI_add]; exact ushr1 (by omega)
    have hml : (lo + hi) / 2 < 105 := by omega
    generalize hm : (lo + hi) / 2 = m at em hml
    have vm : vp_in (nI m) 105 := vp_in_nI hml (by decide)
    have cm : (nI m).toNatClampNeg = m := nI_clamp (by omega)
    have ho : kOf 1005 (1000000 + (nI m).toNatClampNeg) (.ref (2000000 + txC m)) := by rw [cm]; exact Or.inl ⟨m, hml, rfl, Or.inr (Or.inr (Or.inr (Or.inr ⟨rfl, rfl⟩)))⟩
    have kt : kSt (2000000 + txC m) := ⟨txC m, txC_lt m hml, rfl⟩
    have kcm : kCm (1000000 + (nI m).toNatClampNeg) := by rw [cm]; exact ⟨m, hml, rfl⟩
    have go : ∀ x5 : Int32, x5 = nI m → kjY kPP (kQQ Y) (d + 6) 90 14 [some (.ref h), some (.int x1), some (.int x2), some (.int x3), some (.int x4), some (.int x5), o6] [] σ (fun r u => u = σ ∧ ((∃ j, j < 105 ∧ r = some (.ref (1000000 + j)) ∧ cmpW (tb (txC j)) ((wd (σ.1 h) a n).map up) = 0) ∨ (r = some .null ∧ ∀ j, j < 105 → ¬ cmpW (tb (txC j)) ((wd (σ.1 h) a n).map up) = 0))) := by
      intro x5 e5
      subst e5
      refine kjZ_y rfl rfl 8 _ _ _ _ ty ?_
      refine (Or.inr (And.intro rfl (And.intro vm (Exists.intro _ (And.intro ho (And.intro (Nat.le_of_ble_eq_true rfl) (And.intro (Nat.le_of_ble_eq_true rfl) (And.intro (Nat.le_of_ble_eq_true rfl) (kjY_mono ty (fun q_ u1 ty1 xu1 h_ => ?_) (k_cmpT (d := d) ty (txC_lt m hml) kh hM ha _ _ e1 e2))))))))))
      obtain ⟨rfl, y, rfl, q⟩ := h_
      intro _ _
      refine kjZ_y rfl rfl 1 _ _ _ _ ty1 ?_
      refine (And.intro (Nat.le_of_ble_eq_true rfl) ?_)
      refine kjZ_y rfl rfl 2 _ _ _ _ ty1 ?_
      refine And.intro (fun c2 => ?_) (fun c2 => ?_)
      · refine kjZ_y rfl rfl 2 _ _ _ _ ty1 ?_
        refine And.intro (fun c3 => ?_) (fun c3 => ?_)
        · have c3 : (0 : Int) ≤ y.toInt := Int32.le_iff_toInt_le.mp c3
          have c2 : ¬ y.toInt = 0 := fun z => c2 (Int32.toInt_inj.mp z)
          refine kjZ_y rfl rfl 3 _ _ _ _ ty1 ?_
          refine (And.intro (Nat.le_of_ble_eq_true rfl) ?_)
          refine ih lo m _ _ _ _ e3 rfl (by omega) (by omega) (by omega) hl (fun i a1 a2 => ?_)
          by_cases z : i = m
          · rw [z]; omega
          · obtain ⟨k9, rfl⟩ : ∃ k9, i = m + k9 + 1 := ⟨i - m - 1, by omega⟩
            have t1 := txC_lt2 k9 m (by omega)
            have t2 : cmpW (tb (txC (m + k9 + 1))) ((wd (u1.1 h) a n).map up) ≤ 0 → False := fun y9 => by
              rcases Int.lt_or_eq_of_le y9 with y9 | y9
              · have := cmpW_trans _ _ _ t1 y9; omega
              · rw [← (tb_eq (by omega) (row_up ty1 kh a n)).mp y9] at t1; omega
            exact Int.lt_of_not_ge t2
        · have c3 : ¬ (0 : Int) ≤ y.toInt := fun z => c3 (Int32.le_iff_toInt_le.mpr z)
          refine kjZ_y rfl rfl 6 _ _ _ _ ty1 ?_
          refine (And.intro (Nat.le_of_ble_eq_true rfl) ?_)
          refine ih (m + 1) hi _ _ _ _ (nI_1 m) e4 (by omega) (by omega) h2 (fun i a1 => ?_) hh
          by_cases z : i = m
          · rw [z]; omega
          · obtain ⟨k9, rfl⟩ : ∃ k9, m = i + k9 + 1 := ⟨m - i - 1, by omega⟩
            exact cmpW_trans _ _ _ (txC_lt2 k9 i (by omega)) (by omega)
      · have c2 : y = 0 := Decidable.of_not_not c2
        refine kjZ_y rfl rfl 4 _ _ _ _ ty1 ?_
        refine (Or.inr (And.intro rfl (And.intro vm (And.intro rfl (And.intro (Nat.le_of_ble_eq_true rfl) ?_)))))
        refine ⟨rfl, Or.inl ⟨m, hml, by rw [cm], ?_⟩⟩
        rw [← q, c2]; rfl
    refine kjZ_y rfl rfl 6 _ _ _ _ ty ?_
    refine (And.intro (Nat.le_of_ble_eq_true rfl) ?_)
    exact go _ em
theorem k_named0 (ty : kTY σ) {h M a n : Nat} (kh : σ.2.2.2.1 h = (21, M)) (hM : M ≤ 600000) (ha : a + n ≤ M) (x1 x2 : Int32) (e1 : x1 = nI a) (e2 : x2 = nI n) :
    kjY kPP (kQQ Y) (d + 6) 90 0 (mjL0 7 [.ref h, .int x1, .int x2]) [] σ (fun r u => u = σ ∧ ((∃ j, j < 105 ∧ r = some (.ref (1000000 + j)) ∧ cmpW (tb (txC j)) ((wd (σ.1 h) a n).map up) = 0) ∨ (r = some .null ∧ ∀ j, j < 105 → ¬ cmpW (tb (txC j)) ((wd (σ.1 h) a n).map up) = 0))) := by
  have kk : (σ.2.2.2.1 h).1 = 21 := by rw [kh]
  refine kjZ_y rfl rfl 5 _ _ _ _ ty ?_
  refine (And.intro (Nat.le_of_ble_eq_true rfl) (Or.inr (Exists.intro _ (Exists.intro _ (Exists.intro _ (And.intro (Or.inl ⟨rfl, rfl, rfl, rfl⟩) (And.intro (Nat.le_of_ble_eq_true rfl) ?_)))))))
  exact k_named_l ty kh hM ha x1 x2 e1 e2 106 0 105 _ _ _ _ rfl rfl (by omega) (by omega) (Nat.le_refl _) (fun i z => absurd z (Nat.not_lt_zero _)) (fun i a b => absurd b (by omega))
theorem k_named (ty : kTY σ) {h M a n : Nat} (kh : σ.2.2.2.1 h = (21, M)) (hM : M ≤ 600000) (ha : a + n ≤ M) (x1 x2 : Int32) (e1 : x1 = nI a) (e2 : x2 = nI n) :
    kjY kPP (kQQ Y) (d + 6) 90 0 (mjL0 7 [.ref h, .int x1, .int x2]) [] σ (fun r u => u = σ ∧ ((∃ j, j < 105 ∧ r = some (.ref (1000000 + j)) ∧ (wd (σ.1 h) a n).map up = tb (txC j)) ∨ (r = some .null ∧ ∀ j, j < 105 → ¬ (wd (σ.1 h) a n).map up = tb (txC j)))) := by
  refine kjY_mono ty (fun r u _ _ q => ?_) (k_named0 (d := d) ty kh hM ha x1 x2 e1 e2)
  obtain ⟨q0, q⟩ := q
  refine ⟨q0, ?_⟩
  rcases q with ⟨j, h1, h2, h3⟩ | ⟨h1, h2⟩
  · exact Or.inl ⟨j, h1, h2, (tb_eq h1 (row_up ty kh a n)).mp h3⟩
  · exact Or.inr ⟨h1, fun j hj z => h2 j hj ((tb_eq hj (row_up ty kh a n)).mpr z)⟩
end KCMD2
