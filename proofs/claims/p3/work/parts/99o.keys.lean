/-! KEYS: patterns. -/
section KEYS
variable {Y : Nat → MethodName × ByteArray} {d : Nat}
set_option maxRecDepth 100000 in
theorem c_fset_loop (K : mjK) {σ : mjS} (ty : mjTY σ) (x1 x2 x3 x5 : Int32) (e : Nat) (he : e ≤ 131200) (e2 : x2 = nI e) (lo : Nat) (hK : ∀ p x4 x6 x7 l8 l9, lo ≤ p → p ≤ e → x4 = nI p → (x6 = 0 ∨ x6 = 1) → mjY mjPP (mjQQ Y) d 94 113 [some (.ref 0), some (.int x1), some (.int x2), some (.int x3), some (.int x4), some (.int x5), some (.int x6), some (.int x7), l8, l9] [] σ K) : ∀ (j p : Nat) (x4 x6 x7 : Int32) (l8 l9 : Option Value), e - p < j → p ≤ e → lo ≤ p → x4 = nI p → (x6 = 0 ∨ x6 = 1) →
    mjY mjPP (mjQQ Y) d 94 22 [some (.ref 0), some (.int x1), some (.int x2), some (.int x3), some (.int x4), some (.int x5), some (.int x6), some (.int x7), l8, l9] [] σ K := by
  intro j
  induction j with
  | zero => intro p x4 x6 x7 l8 l9 h; omega
  | succ j ih =>
    intro p x4 x6 x7 l8 l9 hj hp hlo e4 h6
    -- the end of a round
    have s104 : ∀ (q : Nat) (x4 x8 x9 : Int32), p < q → q ≤ e → x4 = nI q → mjY mjPP (mjQQ Y) d 94 104 [some (.ref 0), some (.int x1), some (.int x2), some (.int x3), some (.int x4), some (.int x5), some (.int x6), some (.int x7), some (.int x8), some (.int x9)] [] σ K := by
      intro q x4 x8 x9 h1 h2 e4
      refine mjZ_y rfl rfl 3 _ _ _ _ ty ?_
      refine And.intro (fun a => ?_) (fun a => ?_)
      · refine mjZ_y rfl rfl 1 _ _ _ _ ty ?_
        exact ih q _ _ _ _ _ (by omega) h2 (by omega) e4 h6
      · refine mjZ_y rfl rfl 3 _ _ _ _ ty ?_
        refine And.intro (fun b => ?_) (fun b => ?_)
        · refine mjZ_y rfl rfl 1 _ _ _ _ ty ?_
          exact ih q _ _ _ _ _ (by omega) h2 (by omega) e4 h6
        · refine mjZ_y rfl rfl 3 _ _ _ _ ty ?_
          refine (And.intro (Nat.le_of_ble_eq_true rfl) ?_)
          exact ih q _ _ _ _ _ (by omega) h2 (by omega) e4 (Or.inr rfl)
    have s103 : ∀ (q : Nat) (x4 x8 x9 : Int32), p ≤ q → q < e → x4 = nI q → mjY mjPP (mjQQ Y) d 94 103 [some (.ref 0), some (.int x1), some (.int x2), some (.int x3), some (.int x4), some (.int x5), some (.int x6), some (.int x7), some (.int x8), some (.int x9)] [] σ K := by
      intro q x4 x8 x9 h1 h2 e4
      refine mjZ_y rfl rfl 1 _ _ _ _ ty ?_
      exact s104 (q + 1) _ _ _ (by omega) (by omega) (by rw [e4]; exact nI_1 q)
    have lt1 : ∀ (q : Nat) (x : Int32), q ≤ e → x = nI q → ((¬ x2 ≤ x + Int32.ofInt 1) ↔ q + 1 < e) := by
      intro q x hq ex
      have ex1 : x + Int32.ofInt 1 = nI (q + 1) := by rw [ex]; exact nI_1 q
      rw [ex1, e2]
      constructor
      · intro z; exact Nat.lt_of_not_le (fun c => z (nI_le c (by omega)))
      · intro z; exact nI_ge z (by omega)
    have s57 : ∀ (q : Nat) (x4 x8 : Int32), p ≤ q → q < e → x4 = nI q → mjY mjPP (mjQQ Y) d 94 57 [some (.ref 0), some (.int x1), some (.int x2), some (.int x3), some (.int x4), some (.int x5), some (.int x6), some (.int x7), some (.int x8), l9] [] σ K := by
      intro q x4 x8 h1 h2 e4
      refine mjZ_y rfl rfl 3 _ _ _ _ ty ?_
      refine (And.intro (Nat.le_of_ble_eq_true rfl) ?_)
      have e41 : x4 + Int32.ofInt 1 = nI (q + 1) := by rw [e4]; exact nI_1 q
      generalize x4 + Int32.ofInt 1 = y4 at e41
      refine mjZ_y rfl rfl 5 _ _ _ _ ty ?_
      refine And.intro (fun a => ?_) (fun a => ?_)
      · exact s104 (q + 1) _ _ _ (by omega) (by omega) e41
      · have a := (lt1 (q + 1) y4 (by omega) e41).mp a
        have v4 : vp_in y4 131200 := by rw [e41]; exact vp_in_nI (by omega) (by decide)
        have e42 : y4 + Int32.ofInt 1 = nI (q + 2) := by rw [e41]; exact nI_1 (q + 1)
        have v5 : vp_in (y4 + Int32.ofInt 1) 131200 := by rw [e42]; exact vp_in_nI (by omega) (by decide)
        refine mjZ_y rfl rfl 6 _ _ _ _ ty ?_
        refine (And.intro rfl (And.intro (Or.inl rfl) (And.intro v4 (And.intro (fun b => ?_) (fun b => ?_)))))
        · exact s104 (q + 1) _ _ _ (by omega) (by omega) e41
        · refine mjZ_y rfl rfl 8 _ _ _ _ ty ?_
          refine (And.intro rfl (And.intro (Or.inl rfl) (And.intro v5 (And.intro (fun c => ?_) (fun c => ?_)))))
          · exact s104 (q + 1) _ _ _ (by omega) (by omega) e41
          · refine mjZ_y rfl rfl 11 _ _ _ _ ty ?_
            refine (And.intro rfl (And.intro (Or.inl rfl) (And.intro v5 (And.intro (Nat.le_of_ble_eq_true rfl) (And.intro (fun f => ?_) (fun f => ?_))))))
            · exact s103 (q + 2) _ _ _ (by omega) (by omega) e42
            · refine mjZ_y rfl rfl 5 _ _ _ _ ty ?_
              refine And.intro (fun g => ?_) (fun g => ?_)
              · exact s103 (q + 2) _ _ _ (by omega) (by omega) e42
              · have g := (lt1 (q + 2) _ (by omega) e42).mp g
                have e43 : y4 + Int32.ofInt 1 + Int32.ofInt 1 = nI (q + 3) := by rw [e42]; exact nI_1 (q + 2)
                have v6 : vp_in (y4 + Int32.ofInt 1 + Int32.ofInt 1) 131200 := by rw [e43]; exact vp_in_nI (by omega) (by decide)
                refine mjZ_y rfl rfl 8 _ _ _ _ ty ?_
                refine (And.intro rfl (And.intro (Or.inl rfl) (And.intro v6 (And.intro (Nat.le_of_ble_eq_true rfl) ?_))))
                exact s103 (q + 3) _ _ _ (by omega) (by omega) e43
    refine mjZ_y rfl rfl 2 _ _ _ _ ty ?_
    refine And.intro (fun a => ?_) (fun a => ?_)
    · exact hK p _ _ _ _ _ hlo hp e4 h6
    · refine mjZ_y rfl rfl 3 _ _ _ _ ty ?_
      refine And.intro (fun b => ?_) (fun b => ?_)
      · exact hK p _ _ _ _ _ hlo hp e4 h6
      · have b : p < e := Nat.lt_of_not_le (fun c => b (show x2 ≤ x4 by rw [e2, e4]; exact nI_le c (by omega)))
        have v4 : vp_in x4 131200 := by rw [e4]; exact vp_in_nI (by omega) (by decide)
        refine mjZ_y rfl rfl 10 _ _ _ _ ty ?_
        refine (And.intro rfl (And.intro (Or.inl rfl) (And.intro v4 (And.intro (Nat.le_of_ble_eq_true rfl) (And.intro (fun c => ?_) (fun c => ?_))))))
        · refine mjZ_y rfl rfl 3 _ _ _ _ ty ?_
          refine And.intro (fun f => ?_) (fun f => ?_)
          · exact s57 p _ _ (Nat.le_refl _) b e4
          · refine mjZ_y rfl rfl 5 _ _ _ _ ty ?_
            refine And.intro (fun g => ?_) (fun g => ?_)
            · exact s57 p _ _ (Nat.le_refl _) b e4
            · have g := (lt1 p x4 hp e4).mp g
              have e41 : x4 + Int32.ofInt 1 = nI (p + 1) := by rw [e4]; exact nI_1 p
              have v5 : vp_in (x4 + Int32.ofInt 1) 131200 := by rw [e41]; exact vp_in_nI (by omega) (by decide)
              refine mjZ_y rfl rfl 8 _ _ _ _ ty ?_
              refine (And.intro rfl (And.intro (Or.inl rfl) (And.intro v5 (And.intro (Nat.le_of_ble_eq_true rfl) ?_))))
              exact s57 (p + 1) _ _ (by omega) (by omega) e41
        · refine mjZ_y rfl rfl 4 _ _ _ _ ty ?_
          refine (And.intro (Nat.le_of_ble_eq_true rfl) ?_)
          exact ih (p + 1) _ _ _ _ _ (by omega) (by omega) (by omega) (by rw [e4]; exact nI_1 p) h6
set_option maxRecDepth 100000 in
theorem c_fitsSet {σ : mjS} (ty : mjTY σ) (p e : Nat) (hp : p ≤ e) (he : e ≤ 131200) {x1 x2 x3 : Int32} (e1 : x1 = nI p) (e2 : x2 = nI e) : mjY mjPP (mjQQ Y) d 94 0 (mjL0 10 [.ref 0, .int x1, .int x2, .int x3]) [] σ (fun r u => ∃ z q, r = some (.int z) ∧ (z = 0 ∨ z = 1) ∧ Fr [f_behindSet] [] σ u ∧ u.1 f_behindSet = nI q ∧ p ≤ q ∧ q ≤ e) := by
  have fin : ∀ (q : Nat) (x4 x5 x6 x7 : Int32) (l8 l9 : Option Value), p ≤ q → q ≤ e → x4 = nI q → (x6 = 0 ∨ x6 = 1) → mjY mjPP (mjQQ Y) d 94 113 [some (.ref 0), some (.int x1), some (.int x2), some (.int x3), some (.int x4), some (.int x5), some (.int x6), some (.int x7), l8, l9] [] σ (fun r u => ∃ z q, r = some (.int z) ∧ (z = 0 ∨ z = 1) ∧ Fr [f_behindSet] [] σ u ∧ u.1 f_behindSet = nI q ∧ p ≤ q ∧ q ≤ e) := by
    intro q x4 x5 x6 x7 l8 l9 h1 h2 e4 h6
    refine mjZ_y rfl rfl 6 _ _ _ _ ty ?_
    refine (And.intro rfl (And.intro (Or.inl rfl) (fun ty' => And.intro (fun a => ?_) (fun a => ?_))))
    · refine mjZ_y rfl rfl 2 _ _ _ _ ty' ?_
      refine And.intro rfl (And.intro (Or.inr ⟨rfl, Or.inl rfl⟩) ?_)
      exact ⟨0, q, rfl, Or.inl rfl, Fr.i (by decide), e4, h1, h2⟩
    · refine mjZ_y rfl rfl 3 _ _ _ _ ty' ?_
      refine And.intro rfl (And.intro (Or.inr ⟨rfl, Or.inr rfl⟩) ?_)
      exact ⟨1, q, rfl, Or.inr rfl, Fr.i (by decide), e4, h1, h2⟩
  have s14 : ∀ x5 : Int32, (x5 = 1 → p < e) → mjY mjPP (mjQQ Y) d 94 15 [some (.ref 0), some (.int x1), some (.int x2), some (.int x3), some (.int x1), some (.int x5), none, none, none, none] [] σ (fun r u => ∃ z q, r = some (.int z) ∧ (z = 0 ∨ z = 1) ∧ Fr [f_behindSet] [] σ u ∧ u.1 f_behindSet = nI q ∧ p ≤ q ∧ q ≤ e) ∨ ¬ (x5 = 0 ∨ x5 = 1) := by
    intro x5 h5
    by_cases c5 : x5 = 0 ∨ x5 = 1
    · refine Or.inl ?_
      refine mjZ_y rfl rfl 2 _ _ _ _ ty ?_
      refine And.intro (fun a => ?_) (fun a => ?_)
      · refine mjZ_y rfl rfl 4 _ _ _ _ ty ?_
        refine (And.intro (Nat.le_of_ble_eq_true rfl) (And.intro (Nat.le_of_ble_eq_true rfl) ?_))
        exact c_fset_loop _ ty x1 x2 x3 x5 e he e2 p (fun q x4 x6 x7 l8 l9 h1 h2 h4 h6 => fin q x4 x5 x6 x7 l8 l9 h1 h2 h4 h6) (e - p + 1) p _ _ _ _ _ (by omega) hp (Nat.le_refl _) e1 (Or.inl rfl)
      · have a : p < e := h5 (c5.elim (fun z => absurd z a) id)
        refine mjZ_y rfl rfl 5 _ _ _ _ ty ?_
        refine (And.intro (Nat.le_of_ble_eq_true rfl) (And.intro (Nat.le_of_ble_eq_true rfl) ?_))
        exact c_fset_loop _ ty x1 x2 x3 x5 e he e2 p (fun q x4 x6 x7 l8 l9 h1 h2 h4 h6 => fin q x4 x5 x6 x7 l8 l9 h1 h2 h4 h6) (e - p + 1) (p + 1) _ _ _ _ _ (by omega) (by omega) (by omega) (by rw [e1]; exact nI_1 p) (Or.inl rfl)
    · exact Or.inr c5
  have no : mjY mjPP (mjQQ Y) d 94 13 [some (.ref 0), some (.int x1), some (.int x2), some (.int x3), some (.int x1), none, none, none, none, none] [] σ (fun r u => ∃ z q, r = some (.int z) ∧ (z = 0 ∨ z = 1) ∧ Fr [f_behindSet] [] σ u ∧ u.1 f_behindSet = nI q ∧ p ≤ q ∧ q ≤ e) := by
    refine mjZ_y rfl rfl 2 _ _ _ _ ty ?_
    refine (And.intro (Nat.le_of_ble_eq_true rfl) ?_)
    exact (s14 _ (fun z => absurd (show (0 : Int32) = 1 from z) (by decide))).elim id (fun z => absurd (Or.inl rfl) z)
  refine mjZ_y rfl rfl 5 _ _ _ _ ty ?_
  refine (And.intro (Nat.le_of_ble_eq_true rfl) (And.intro (fun a => ?_) (fun a => ?_)))
  · exact no
  · have a : p < e := Nat.lt_of_not_le (fun c => a (show x2 ≤ x1 by rw [e2, e1]; exact nI_le c (by omega)))
    have v4 : vp_in x1 131200 := by rw [e1]; exact vp_in_nI (by omega) (by decide)
    refine mjZ_y rfl rfl 6 _ _ _ _ ty ?_
    refine (And.intro rfl (And.intro (Or.inl rfl) (And.intro v4 (And.intro (fun b => ?_) (fun b => ?_)))))
    · exact no
    · refine mjZ_y rfl rfl 3 _ _ _ _ ty ?_
      refine (And.intro (Nat.le_of_ble_eq_true rfl) ?_)
      exact (s14 _ (fun _ => a)).elim id (fun z => absurd (Or.inr rfl) z)
/-- the state of fits: where in the pattern, where in the word, the last star and the place that it has come to -/
def FT (p0 e n p i : Nat) (x7 : Int32) (s a : Nat) : Prop := p ≤ e ∧ i ≤ n ∧ a ≤ n ∧ s ≤ p ∧ s ≤ e ∧ ((x7 = -1 ∧ s = 0) ∨ x7 = nI s)
set_option maxRecDepth 100000 in
theorem c_fits_loop (K : mjK) (x1 x2 x3 x4 : Int32) (p0 e at0 n : Nat) (he : e ≤ 131200) (hat : at0 + n ≤ 300000) (e2 : x2 = nI e) (e3 : x3 = nI at0) (e4 : x4 = nI n) : ∀ (A B C p i s a : Nat) (σ : mjS) (x5 x6 x7 x8 : Int32) (l9 l10 l11 : Option Value), e + 1 - s < A → n - a < B → e - p < C → FT p0 e n p i x7 s a → x5 = nI p → x6 = nI i → x8 = nI a → mjTY σ → (∀ u z, Fr [f_behindSet] [] σ u → (z = 0 ∨ z = 1) → K (some (.int z)) u) →
    mjY mjPP (mjQQ Y) (d + 1) 95 8 [some (.ref 0), some (.int x1), some (.int x2), some (.int x3), some (.int x4), some (.int x5), some (.int x6), some (.int x7), some (.int x8), l9, l10, l11] [] σ K := by
  intro A
  induction A with
  | zero => intro B C p i s a σ x5 x6 x7 x8 l9 l10 l11 h; omega
  | succ A ihA =>
    intro B
    induction B with
    | zero => intro C p i s a σ x5 x6 x7 x8 l9 l10 l11 _ h; omega
    | succ B ihB =>
      intro C
      induction C with
      | zero => intro p i s a σ x5 x6 x7 x8 l9 l10 l11 _ _ h; omega
      | succ C ihC =>
        intro p i s a σ x5 x6 x7 x8 l9 l10 l11 hA hB hC hF e5 e6 e8 ty hK
        obtain ⟨f1, f2, f3, f4, f5, f6⟩ := hF
        -- nothing fits here
        have fail : ∀ (u : mjS) (x5 : Int32) (l10 l11 : Option Value), mjTY u → Fr [f_behindSet] [] σ u → mjY mjPP (mjQQ Y) (d + 1) 95 107 [some (.ref 0), some (.int x1), some (.int x2), some (.int x3), some (.int x4), some (.int x5), some (.int x6), some (.int x7), some (.int x8), some (.int 0), l10, l11] [] u K := by
          intro u x5 l10 l11 tu fu
          have no : mjY mjPP (mjQQ Y) (d + 1) 95 112 [some (.ref 0), some (.int x1), some (.int x2), some (.int x3), some (.int x4), some (.int x5), some (.int x6), some (.int x7), some (.int x8), some (.int 0), l10, l11] [] u K := by
            refine mjZ_y rfl rfl 2 _ _ _ _ tu ?_
            refine And.intro rfl (And.intro (Or.inr ⟨rfl, Or.inl rfl⟩) ?_)
            exact hK u 0 fu (Or.inl rfl)
          refine mjZ_y rfl rfl 2 _ _ _ _ tu ?_
          refine And.intro (fun b => ?_) (fun b => ?_)
          · exact no
          · have h7 : x7 = nI s := f6.elim (fun z => absurd (lt_m1 z.1) b) id
            refine mjZ_y rfl rfl 3 _ _ _ _ tu ?_
            refine And.intro (fun c => ?_) (fun c => ?_)
            · have c : a < n := Nat.lt_of_not_le (fun z => absurd (show x8 < x4 from c) (by rw [e8, e4]; exact Int32.not_lt.mpr (nI_le z (by omega))))
              refine mjZ_y rfl rfl 6 _ _ _ _ tu ?_
              refine (And.intro (Nat.le_of_ble_eq_true rfl) (And.intro (Nat.le_of_ble_eq_true rfl) ?_))
              exact ihB (e + 1) s (a + 1) s (a + 1) u _ _ _ _ _ _ _ hA (by omega) (by omega) ⟨f5, by omega, by omega, Nat.le_refl _, f5, Or.inr h7⟩ h7 (by rw [e8]; exact nI_1 a) (by rw [e8]; exact nI_1 a) tu (fun v z fv hz => hK v z (fu.tr fv) hz)
            · exact no
        have s103 : ∀ (u : mjS) (q : Nat) (x5 x9 : Int32) (l10 l11 : Option Value), mjTY u → Fr [f_behindSet] [] σ u → (x9 = 0 ∨ (x9 = 1 ∧ p < q ∧ q ≤ e ∧ i < n ∧ x5 = nI q)) → mjY mjPP (mjQQ Y) (d + 1) 95 103 [some (.ref 0), some (.int x1), some (.int x2), some (.int x3), some (.int x4), some (.int x5), some (.int x6), some (.int x7), some (.int x8), some (.int x9), l10, l11] [] u K := by
          intro u q x5 x9 l10 l11 tu fu hx
          refine mjZ_y rfl rfl 2 _ _ _ _ tu ?_
          refine And.intro (fun b => ?_) (fun b => ?_)
          · have b : x9 = 0 := b
            rw [b]
            exact fail u x5 l10 l11 tu fu
          · rcases hx with hx | ⟨-, g1, g2, g3, g5⟩
            · exact absurd hx b
            · refine mjZ_y rfl rfl 2 _ _ _ _ tu ?_
              exact ihC q (i + 1) s a u _ _ _ _ _ _ _ hA hB (by omega) ⟨g2, by omega, f3, by omega, f5, f6⟩ g5 (by rw [e6]; exact nI_1 i) e8 tu (fun v z fv hz => hK v z (fu.tr fv) hz)
        have v5 : p < e → vp_in x5 131200 := fun h => by rw [e5]; exact vp_in_nI (by omega) (by decide)
        have lt5 : (¬ x2 ≤ x5) → p < e := fun z => Nat.lt_of_not_le (fun c => z (by rw [e2, e5]; exact nI_le c (by omega)))
        -- no star here
        have s27 : mjY mjPP (mjQQ Y) (d + 1) 95 27 [some (.ref 0), some (.int x1), some (.int x2), some (.int x3), some (.int x4), some (.int x5), some (.int x6), some (.int x7), some (.int x8), some (.int 0), l10, l11] [] σ K := by
          have s35 : mjY mjPP (mjQQ Y) (d + 1) 95 35 [some (.ref 0), some (.int x1), some (.int x2), some (.int x3), some (.int x4), some (.int x5), some (.int x6), some (.int x7), some (.int x8), some (.int 0), l10, l11] [] σ K := by
            refine mjZ_y rfl rfl 3 _ _ _ _ ty ?_
            refine And.intro (fun b => ?_) (fun b => ?_)
            · exact s103 σ 0 x5 0 l10 l11 ty Fr.rf (Or.inl rfl)
            · have b := lt5 b
              refine mjZ_y rfl rfl 3 _ _ _ _ ty ?_
              refine And.intro (fun c => ?_) (fun c => ?_)
              · exact s103 σ 0 x5 0 l10 l11 ty Fr.rf (Or.inl rfl)
              · have c : i < n := Nat.lt_of_not_le (fun z => c (show x4 ≤ x6 by rw [e4, e6]; exact nI_le z (by omega)))
                have eh : x3 + x6 = nI (at0 + i) := by rw [e3, e6, nI_add]
                have vh : vp_in (x3 + x6) 300000 := by rw [eh]; exact vp_in_nI (by omega) (by decide)
                refine mjZ_y rfl rfl 19 _ _ _ _ ty ?_
                refine (And.intro rfl (And.intro (Or.inl rfl) (And.intro (v5 b) (And.intro (Nat.le_of_ble_eq_true rfl) (And.intro rfl (And.intro (Or.inl rfl) (And.intro vh (And.intro (Nat.le_of_ble_eq_true rfl) (And.intro (fun f => ?_) (fun f => ?_))))))))))
                · refine mjZ_y rfl rfl 3 _ _ _ _ ty ?_
                  refine And.intro (fun g => ?_) (fun g => ?_)
                  · -- a byte, or one behind a sign
                    have s95 : ∀ (q : Nat) (x5 x10 x11 : Int32), p ≤ q → q < e → x5 = nI q → mjY mjPP (mjQQ Y) (d + 1) 95 95 [some (.ref 0), some (.int x1), some (.int x2), some (.int x3), some (.int x4), some (.int x5), some (.int x6), some (.int x7), some (.int x8), some (.int 0), some (.int x10), some (.int x11)] [] σ K := by
                      intro q x5 x10 x11 g1 g2 g5
                      refine mjZ_y rfl rfl 3 _ _ _ _ ty ?_
                      refine And.intro (fun k => ?_) (fun k => ?_)
                      · refine mjZ_y rfl rfl 3 _ _ _ _ ty ?_
                        refine (And.intro (Nat.le_of_ble_eq_true rfl) ?_)
                        exact s103 σ 0 _ _ _ _ ty Fr.rf (Or.inl rfl)
                      · refine mjZ_y rfl rfl 4 _ _ _ _ ty ?_
                        refine (And.intro (Nat.le_of_ble_eq_true rfl) ?_)
                        exact s103 σ (q + 1) _ _ _ _ ty Fr.rf (Or.inr ⟨rfl, by omega, by omega, c, by rw [g5]; exact nI_1 q⟩)
                    refine mjZ_y rfl rfl 3 _ _ _ _ ty ?_
                    refine And.intro (fun k => ?_) (fun k => ?_)
                    · exact s95 p _ _ _ (Nat.le_refl _) b e5
                    · have e51 : x5 + Int32.ofInt 1 = nI (p + 1) := by rw [e5]; exact nI_1 p
                      refine mjZ_y rfl rfl 5 _ _ _ _ ty ?_
                      refine And.intro (fun m => ?_) (fun m => ?_)
                      · exact s95 p _ _ _ (Nat.le_refl _) b e5
                      · have m : p + 1 < e := Nat.lt_of_not_le (fun z => m (show x2 ≤ x5 + Int32.ofInt 1 by rw [e51, e2]; exact nI_le z (by omega)))
                        have v51 : vp_in (x5 + Int32.ofInt 1) 131200 := by rw [e51]; exact vp_in_nI (by omega) (by decide)
                        refine mjZ_y rfl rfl 8 _ _ _ _ ty ?_
                        refine (And.intro rfl (And.intro (Or.inl rfl) (And.intro v51 (And.intro (Nat.le_of_ble_eq_true rfl) ?_))))
                        exact s95 (p + 1) _ _ _ (by omega) m e51
                  · have e51 : x5 + Int32.ofInt 1 = nI (p + 1) := by rw [e5]; exact nI_1 p
                    refine mjZ_y rfl rfl 7 _ _ _ _ ty ?_
                    refine (And.intro (Nat.le_of_ble_eq_true rfl) (And.intro rfl (And.intro (Nat.le_of_ble_eq_true rfl) (And.intro (Nat.le_of_ble_eq_true rfl) (mjY_mono ty (fun q_ u1 ty1 h_ => ?_) (c_fitsSet ty (p + 1) e (by omega) he e51 e2))))))
                    obtain ⟨z, q, rfl, hz, fz, eq, q1, q2⟩ := h_
                    intro _
                    refine mjZ_y rfl rfl 5 _ _ _ _ ty1 ?_
                    refine (And.intro (Nat.le_of_ble_eq_true rfl) (And.intro rfl (And.intro (Nat.le_of_ble_eq_true rfl) ?_)))
                    refine s103 u1 q _ _ _ _ ty1 fz (hz.elim Or.inl (fun h => Or.inr ⟨h, by omega, q2, c, eq⟩))
                · refine mjZ_y rfl rfl 4 _ _ _ _ ty ?_
                  refine (And.intro (Nat.le_of_ble_eq_true rfl) ?_)
                  exact s103 σ (p + 1) _ _ _ _ ty Fr.rf (Or.inr ⟨rfl, by omega, by omega, c, by rw [e5]; exact nI_1 p⟩)
          refine mjZ_y rfl rfl 3 _ _ _ _ ty ?_
          refine And.intro (fun b => ?_) (fun b => ?_)
          · exact s35
          · refine mjZ_y rfl rfl 3 _ _ _ _ ty ?_
            refine And.intro (fun c => ?_) (fun c => ?_)
            · exact s35
            · refine mjZ_y rfl rfl 2 _ _ _ _ ty ?_
              refine And.intro rfl (And.intro (Or.inr ⟨rfl, Or.inr rfl⟩) ?_)
              exact hK σ 1 Fr.rf (Or.inr rfl)
        refine mjZ_y rfl rfl 5 _ _ _ _ ty ?_
        refine (And.intro (Nat.le_of_ble_eq_true rfl) (And.intro (fun b => ?_) (fun b => ?_)))
        · exact s27
        · have b := lt5 b
          refine mjZ_y rfl rfl 6 _ _ _ _ ty ?_
          refine (And.intro rfl (And.intro (Or.inl rfl) (And.intro (v5 b) (And.intro (fun c => ?_) (fun c => ?_)))))
          · exact s27
          · refine mjZ_y rfl rfl 8 _ _ _ _ ty ?_
            refine (And.intro (Nat.le_of_ble_eq_true rfl) (And.intro (Nat.le_of_ble_eq_true rfl) ?_))
            exact ihA (n + 1) (e + 1) (p + 1) i (p + 1) i σ _ _ _ _ _ _ _ (by omega) (by omega) (by omega) ⟨by omega, f2, f2, Nat.le_refl _, by omega, Or.inr (by rw [e5]; exact nI_1 p)⟩ (by rw [e5]; exact nI_1 p) e6 e6 ty hK
set_option maxRecDepth 100000 in
theorem c_fits {σ : mjS} (ty : mjTY σ) (p e at0 n : Nat) (hp : p ≤ e) (he : e ≤ 131200) (hat : at0 + n ≤ 300000) {x1 x2 x3 x4 : Int32} (e1 : x1 = nI p) (e2 : x2 = nI e) (e3 : x3 = nI at0) (e4 : x4 = nI n) : mjY mjPP (mjQQ Y) (d + 1) 95 0 (mjL0 12 [.ref 0, .int x1, .int x2, .int x3, .int x4]) [] σ (fun r u => ∃ z, r = some (.int z) ∧ Fr [f_behindSet] [] σ u) := by
  refine mjZ_y rfl rfl 8 _ _ _ _ ty ?_
  refine (And.intro (Nat.le_of_ble_eq_true rfl) (And.intro (Nat.le_of_ble_eq_true rfl) (And.intro (Nat.le_of_ble_eq_true rfl) (And.intro (Nat.le_of_ble_eq_true rfl) ?_))))
  exact c_fits_loop _ x1 x2 x3 x4 p e at0 n he hat e2 e3 e4 (e + 2) (n + 1) (e + 1) p 0 0 0 σ _ _ _ _ _ _ _ (by omega) (by omega) (by omega) ⟨hp, Nat.zero_le _, Nat.zero_le _, Nat.zero_le _, Nat.zero_le _, Or.inl ⟨rfl, rfl⟩⟩ e1 rfl rfl ty (fun u z fu _ => ⟨z, rfl, fu⟩)
theorem W_ord {σ : mjS} {ws : List (List Int32)} {ks : List KR} {l : List Int32} (h : Wd σ ws ks l) : σ.1 f_keys = nI ks.length ∧ ks.length ≤ 4700 ∧ ∀ (i : Nat) (x : KR), ks[i]? = some x → σ.2.2.1 r_order i = nI x.1 := by
  obtain ⟨⟨hs, fk, fe, k⟩, -⟩ := h
  have := ks_len k
  exact ⟨k.2.2.1, by omega, k.2.2.2.1⟩
set_option maxRecDepth 100000 in
theorem c_keys_1 (K : mjK) {ws : List (List Int32)} {ks : List KR} {l : List Int32} {w : List Int32} (h1 : ws[1]? = some w) : ∀ (m q : Nat) (σ : mjS) (x1 x2 : Int32), q + m = ks.length → x2 = nI q → mjTY σ → Wd σ ws ks l → (∀ u x1 x2, mjTY u → Fr cF cH σ u → Wd u ws ks l → mjY mjPP (mjQQ Y) (d + 2) 96 41 [some (.ref 0), some (.int x1), some (.int x2), none] [] u K) →
    mjY mjPP (mjQQ Y) (d + 2) 96 4 [some (.ref 0), some (.int x1), some (.int x2), none] [] σ K := by
  intro m
  induction m with
  | zero =>
    intro q σ x1 x2 hq e2 ty h hK
    obtain ⟨ek, hl, ho⟩ := W_ord h
    refine mjZ_y rfl rfl 4 _ _ _ _ ty ?_
    refine (And.intro rfl (And.intro (fun b => ?_) (fun b => ?_)))
    · exact hK σ _ _ ty Fr.rf h
    · exact absurd (show σ.1 f_keys ≤ x2 by rw [ek, e2]; exact nI_le (by omega) (by omega)) b
  | succ m ih =>
    intro q σ x1 x2 hq e2 ty h hK
    obtain ⟨ek, hl, ho⟩ := W_ord h
    have hx : ks[q]? = some ks[q] := List.getElem?_eq_getElem (by omega)
    have eo := ho q _ hx
    obtain ⟨hs, hh, ko⟩ := h.kok (List.mem_of_getElem? hx)
    generalize ks[q] = y at hx eo ko
    have kid := ko.1
    have v2 : vp_in x2 4700 := by rw [e2]; exact vp_in_nI (by omega) (by decide)
    have c2 : x2.toNatClampNeg = q := by rw [e2]; exact nI_clamp (by omega)
    have ex : σ.2.2.1 r_order x2.toNatClampNeg = nI y.1 := by rw [c2]; exact eo
    have vx : vp_in (σ.2.2.1 r_order x2.toNatClampNeg) 4700 := by rw [ex]; exact vp_in_nI kid (by decide)
    obtain ⟨v1, a, ea, el, ha, -⟩ := h.2.1.clamp h1 (x := Int32.ofInt 1) rfl
    obtain ⟨b0, eb, ebl, hb, -⟩ := ko.2.1.clamp hh (by omega) ex
    refine mjZ_y rfl rfl 4 _ _ _ _ ty ?_
    refine (And.intro rfl (And.intro (fun b => ?_) (fun b => ?_)))
    · exact absurd (show σ.1 f_keys ≤ x2 from b) (by rw [ek, e2]; exact nI_ge (by omega) (by omega))
    · refine mjZ_y rfl rfl 29 _ _ _ _ ty ?_
      refine (And.intro rfl (And.intro rfl (And.intro v1 (And.intro rfl (And.intro rfl (And.intro v1 (And.intro rfl (And.intro rfl (And.intro v1 (And.intro rfl (And.intro rfl (And.intro rfl (And.intro v2 (And.intro rfl (And.intro vx (And.intro rfl (And.intro rfl (And.intro rfl (And.intro v2 (And.intro rfl (And.intro vx (And.intro (Nat.le_of_ble_eq_true rfl) (And.intro rfl (And.intro (Nat.le_of_ble_eq_true rfl) (And.intro (Nat.le_of_ble_eq_true rfl) (mjY_mono ty (fun q_ u1 ty1 h_ => ?_) (c_fits ty a (a + w.length) b0 y.2.1.length (by omega) (by omega) hb ea (show σ.2.2.1 r_aAt (Int32.ofInt 1).toNatClampNeg + σ.2.2.1 r_aLen (Int32.ofInt 1).toNatClampNeg = nI (a + w.length) by rw [ea, el, nI_add]) eb ebl)))))))))))))))))))))))))))
      obtain ⟨z, rfl, f1⟩ := h_
      intro _
      have h2 := h.fr f1 (by decide) (by decide)
      have f1c : Fr cF cH σ u1 := f1.up (by decide) (by decide)
      refine mjZ_y rfl rfl 1 _ _ _ _ ty1 ?_
      refine And.intro (fun c => ?_) (fun c => ?_)
      · refine mjZ_y rfl rfl 2 _ _ _ _ ty1 ?_
        exact ih (q + 1) u1 _ _ (by omega) (by rw [e2]; exact nI_1 q) ty1 h2 (fun u x1 x2 tu fu hu => hK u x1 x2 tu (f1c.tr fu) hu)
      · refine mjZ_y rfl rfl 3 _ _ _ _ ty1 ?_
        exact ih (q + 1) u1 _ _ (by omega) (by rw [e2]; exact nI_1 q) ty1 h2 (fun u x1 x2 tu fu hu => hK u x1 x2 tu (f1c.tr fu) hu)
set_option maxRecDepth 100000 in
theorem c_keys_2 (K : mjK) {ws : List (List Int32)} {ks : List KR} {l : List Int32} {w : List Int32} (h1 : ws[1]? = some w) (x1 : Int32) : ∀ (m q : Nat) (σ : mjS) (x2 : Int32) (l3 : Option Value), q + m = ks.length → x2 = nI q → mjTY σ → Wd σ ws ks l → (∀ u, Fr cF cH σ u → Wd u ws ks l → K none u) →
    mjY mjPP (mjQQ Y) (d + 3) 96 46 [some (.ref 0), some (.int x1), some (.int x2), l3] [] σ K := by
  intro m
  induction m with
  | zero =>
    intro q σ x2 l3 hq e2 ty h hK
    obtain ⟨ek, hl, ho⟩ := W_ord h
    refine mjZ_y rfl rfl 4 _ _ _ _ ty ?_
    refine (And.intro rfl (And.intro (fun b => ?_) (fun b => ?_)))
    · refine mjZ_y rfl rfl 1 _ _ _ _ ty ?_
      refine And.intro rfl (And.intro rfl ?_)
      exact hK σ Fr.rf h
    · exact absurd (show σ.1 f_keys ≤ x2 by rw [ek, e2]; exact nI_le (by omega) (by omega)) b
  | succ m ih =>
    intro q σ x2 l3 hq e2 ty h hK
    obtain ⟨ek, hl, ho⟩ := W_ord h
    have hx : ks[q]? = some ks[q] := List.getElem?_eq_getElem (by omega)
    have eo := ho q _ hx
    obtain ⟨hs, hh, ko⟩ := h.kok (List.mem_of_getElem? hx)
    have hmem := List.mem_of_getElem? hx
    generalize ks[q] = y at hx eo ko hmem
    have kid := ko.1
    have v2 : vp_in x2 4700 := by rw [e2]; exact vp_in_nI (by omega) (by decide)
    have c2 : x2.toNatClampNeg = q := by rw [e2]; exact nI_clamp (by omega)
    have ex : σ.2.2.1 (mjHn 11) x2.toNatClampNeg = nI y.1 := by rw [c2]; exact eo
    obtain ⟨v1, a, ea, el, ha, -⟩ := h.2.1.clamp h1 (x := Int32.ofInt 1) rfl
    refine mjZ_y rfl rfl 4 _ _ _ _ ty ?_
    refine (And.intro rfl (And.intro (fun b => ?_) (fun b => ?_)))
    · exact absurd (show σ.1 f_keys ≤ x2 from b) (by rw [ek, e2]; exact nI_ge (by omega) (by omega))
    · refine mjZ_y rfl rfl 5 _ _ _ _ ty ?_
      refine (And.intro rfl (And.intro rfl (And.intro v2 (And.intro (Nat.le_of_ble_eq_true rfl) ?_))))
      generalize σ.2.2.1 (mjHn 11) x2.toNatClampNeg = x3 at ex
      have v3 : vp_in x3 4700 := by rw [ex]; exact vp_in_nI kid (by decide)
      obtain ⟨b0, eb, ebl, hb, -⟩ := ko.2.1.clamp hh (by omega) ex
      refine mjZ_y rfl rfl 23 _ _ _ _ ty ?_
      refine (And.intro rfl (And.intro rfl (And.intro v1 (And.intro rfl (And.intro rfl (And.intro v1 (And.intro rfl (And.intro rfl (And.intro v1 (And.intro rfl (And.intro rfl (And.intro v3 (And.intro rfl (And.intro rfl (And.intro v3 (And.intro (Nat.le_of_ble_eq_true rfl) (And.intro rfl (And.intro (Nat.le_of_ble_eq_true rfl) (And.intro (Nat.le_of_ble_eq_true rfl) (mjY_mono ty (fun q_ u1 ty1 h_ => ?_) (c_fits ty a (a + w.length) b0 y.2.1.length (by omega) (by omega) hb ea (show σ.2.2.1 r_aAt (Int32.ofInt 1).toNatClampNeg + σ.2.2.1 r_aLen (Int32.ofInt 1).toNatClampNeg = nI (a + w.length) by rw [ea, el, nI_add]) eb ebl)))))))))))))))))))))
      obtain ⟨z, rfl, f1⟩ := h_
      intro _
      have h2 := h.fr f1 (by decide) (by decide)
      have f1c : Fr cF cH σ u1 := f1.up (by decide) (by decide)
      refine mjZ_y rfl rfl 1 _ _ _ _ ty1 ?_
      refine And.intro (fun c => ?_) (fun c => ?_)
      · refine mjZ_y rfl rfl 2 _ _ _ _ ty1 ?_
        exact ih (q + 1) u1 _ _ (by omega) (by rw [e2]; exact nI_1 q) ty1 h2 (fun u fu hu => hK u (f1c.tr fu) hu)
      · obtain ⟨hs2, hh2, ko2⟩ := h2.kok hmem
        refine mjZ_y rfl rfl 12 _ _ _ _ ty1 ?_
        refine (And.intro rfl (And.intro rfl (And.intro rfl (And.intro v3 (And.intro rfl (And.intro rfl (And.intro v3 (And.intro (Nat.le_of_ble_eq_true rfl) (And.intro rfl (And.intro (Nat.le_of_ble_eq_true rfl) (And.intro (Nat.le_of_ble_eq_true rfl) (mjY_mono ty1 (fun q_ u3 ty3 h_ => ?_) (w_wordR h2 ty1 ko2.2.1 hh2 (by omega) ex)))))))))))))
        obtain ⟨rfl, h3, f3⟩ := h_
        intro _
        refine mjZ_y rfl rfl 2 _ _ _ _ ty3 ?_
        exact ih (q + 1) u3 _ _ (by omega) (by rw [e2]; exact nI_1 q) ty3 h3 (fun u fu hu => hK u ((f1c.tr f3.c).tr fu) hu)
set_option maxRecDepth 100000 in
theorem r_keys {σ : mjS} {ws : List (List Int32)} {ks : List KR} {l : List Int32} (h : Wd σ ws ks l) (ty : mjTY σ) {w : List Int32} (h1 : ws[1]? = some w) : mjY mjPP (mjQQ Y) (d + 6) 96 0 (mjL0 4 [.ref 0]) [] σ (cmdK σ ws ks l 27 none) := by
  refine mjZ_y rfl rfl 4 _ _ _ _ ty ?_
  refine (And.intro (Nat.le_of_ble_eq_true rfl) (And.intro (Nat.le_of_ble_eq_true rfl) ?_))
  refine c_keys_1 _ h1 ks.length 0 σ _ _ (Nat.zero_add _) rfl ty h (fun u x1 x2 tu fu hu => ?_)
  refine mjZ_y rfl rfl 3 _ _ _ _ tu ?_
  refine (And.intro (Nat.le_of_ble_eq_true rfl) (And.intro rfl (And.intro (Nat.le_of_ble_eq_true rfl) (And.intro (Nat.le_of_ble_eq_true rfl) (mjY_mono tu (fun q_ u2 ty2 h_ => ?_) (w_row hu tu _))))))
  obtain ⟨rfl, h2, f2⟩ := h_
  intro _
  refine mjZ_y rfl rfl 2 _ _ _ _ ty2 ?_
  refine (And.intro (Nat.le_of_ble_eq_true rfl) ?_)
  exact c_keys_2 _ h1 x1 ks.length 0 u2 _ _ (Nat.zero_add _) rfl ty2 h2 (fun v fv hv => ⟨rfl, (fu.tr f2.c).tr fv, ks, hv, rfl⟩)
end KEYS
