/-! The rows of send: what waited, what came, what waits again. -/
section SENDL
variable {Y : Nat → MethodName × ByteArray} {d : Nat}
theorem nI_mul65600 (c i : Nat) : Int32.ofInt 65600 * nI c + nI i = nI (65600 * c + i) := by
  rw [show Int32.ofInt 65600 = nI 65600 from by decide, pk_mul, nI_add]
set_option maxRecDepth 100000 in
theorem c_send_1 (K : mjK) {c n : Nat} (h4 : c < 4) (hn : n ≤ 65536) (x1 x2 x3 x4 : Int32) (e3 : x3 = nI c) (e4 : x4 = nI n) : ∀ (j k : Nat) (σ : mjS) (x5 : Int32), x5 = nI k → k + j = n → mjTY σ → (∀ u x5, mjTY u → Fr [] [r_line0] σ u → mjY mjPP (mjQQ Y) d 173 50 [some (.ref 0), some (.int x1), some (.int x2), some (.int x3), some (.int x4), some (.int x5), none, none, none] [] u K) →
    mjY mjPP (mjQQ Y) d 173 33 [some (.ref 0), some (.int x1), some (.int x2), some (.int x3), some (.int x4), some (.int x5), none, none, none] [] σ K := by
  intro j
  induction j with
  | zero =>
    intro k σ x5 e5 hk ty hK
    refine mjZ_y rfl rfl 3 _ _ _ _ ty ?_
    refine And.intro (fun q => ?_) (fun q => ?_)
    · exact hK σ _ ty Fr.rf
    · exact absurd (show x4 ≤ x5 by rw [e4, e5]; exact nI_le (by omega) (by omega)) q
  | succ j ih =>
    intro k σ x5 e5 hk ty hK
    refine mjZ_y rfl rfl 3 _ _ _ _ ty ?_
    refine And.intro (fun q => ?_) (fun q => ?_)
    · exact absurd (show x4 ≤ x5 from q) (by rw [e4, e5]; exact nI_ge (by omega) (by omega))
    have ei : Int32.ofInt 65600 * x3 + x5 = nI (65600 * c + k) := by rw [e3, e5, nI_mul65600]
    refine mjZ_y rfl rfl 14 _ _ _ _ ty ?_
    refine (And.intro rfl (And.intro rfl (And.intro (Or.inl rfl) (And.intro (show vp_in (Int32.ofInt 65600 * x3 + x5) 262400 by rw [ei]; exact vp_in_nI (by omega) (by decide)) (And.intro (Or.inl ⟨rfl, ty.2.1 31 _ rfl⟩) (And.intro (show vp_in x5 131200 by rw [e5]; exact vp_in_nI (by omega) (by decide)) (fun ty' => ?_)))))))
    exact ih (k + 1) _ _ (by rw [e5]; exact nI_1 k) (by omega) ty' (fun u x5 tu fu => hK u x5 tu ((Fr.a (by decide)).tr fu))
set_option maxRecDepth 100000 in
theorem c_send_2 (K : mjK) {s n : Nat} (hs : s ≤ 65536) (hn : n ≤ 65540) (x1 x2 x3 x4 : Int32) (e2 : x2 = nI n) (e4 : x4 = nI s) : ∀ (j k : Nat) (σ : mjS) (x5 : Int32), x5 = nI k → k + j = n → mjTY σ → (∀ u x5, mjTY u → Fr [] [r_line0] σ u → mjY mjPP (mjQQ Y) d 173 67 [some (.ref 0), some (.int x1), some (.int x2), some (.int x3), some (.int x4), some (.int x5), none, none, none] [] u K) →
    mjY mjPP (mjQQ Y) d 173 52 [some (.ref 0), some (.int x1), some (.int x2), some (.int x3), some (.int x4), some (.int x5), none, none, none] [] σ K := by
  intro j
  induction j with
  | zero =>
    intro k σ x5 e5 hk ty hK
    refine mjZ_y rfl rfl 3 _ _ _ _ ty ?_
    refine And.intro (fun q => ?_) (fun q => ?_)
    · exact hK σ _ ty Fr.rf
    · exact absurd (show x2 ≤ x5 by rw [e2, e5]; exact nI_le (by omega) (by omega)) q
  | succ j ih =>
    intro k σ x5 e5 hk ty hK
    refine mjZ_y rfl rfl 3 _ _ _ _ ty ?_
    refine And.intro (fun q => ?_) (fun q => ?_)
    · exact absurd (show x2 ≤ x5 from q) (by rw [e2, e5]; exact nI_ge (by omega) (by omega))
    have ei : x4 + x5 = nI (s + k) := by rw [e4, e5, nI_add]
    refine mjZ_y rfl rfl 12 _ _ _ _ ty ?_
    refine (And.intro rfl (And.intro rfl (And.intro (Or.inl rfl) (And.intro (show vp_in x5 65540 by rw [e5]; exact vp_in_nI (by omega) (by decide)) (And.intro (Or.inl ⟨rfl, ty.2.1 59 _ rfl⟩) (And.intro (show vp_in (x4 + x5) 131200 by rw [ei]; exact vp_in_nI (by omega) (by decide)) (fun ty' => ?_)))))))
    exact ih (k + 1) _ _ (by rw [e5]; exact nI_1 k) (by omega) ty' (fun u x5 tu fu => hK u x5 tu ((Fr.a (by decide)).tr fu))
set_option maxRecDepth 100000 in
theorem c_send_3 (K : mjK) {c p s : Nat} (h4 : c < 4) (hp : p ≤ s) (hs : s ≤ 131200) (hr : s ≤ p + 65536) (x1 x2 x3 x4 x5 x6 x7 : Int32) (e3 : x3 = nI c) (e4 : x4 = nI s) (e5 : x5 = nI p) : ∀ (j k : Nat) (σ : mjS) (x8 : Int32), x8 = nI (p + k) → p + k + j = s → mjTY σ → (∀ u x8, mjTY u → Fr [] [r_input] σ u → mjY mjPP (mjQQ Y) d 173 175 [some (.ref 0), some (.int x1), some (.int x2), some (.int x3), some (.int x4), some (.int x5), some (.int x6), some (.int x7), some (.int x8)] [] u K) →
    mjY mjPP (mjQQ Y) d 173 156 [some (.ref 0), some (.int x1), some (.int x2), some (.int x3), some (.int x4), some (.int x5), some (.int x6), some (.int x7), some (.int x8)] [] σ K := by
  intro j
  induction j with
  | zero =>
    intro k σ x8 e8 hk ty hK
    refine mjZ_y rfl rfl 3 _ _ _ _ ty ?_
    refine And.intro (fun q => ?_) (fun q => ?_)
    · exact hK σ _ ty Fr.rf
    · exact absurd (show x4 ≤ x8 by rw [e4, e8]; exact nI_le (by omega) (by omega)) q
  | succ j ih =>
    intro k σ x8 e8 hk ty hK
    refine mjZ_y rfl rfl 3 _ _ _ _ ty ?_
    refine And.intro (fun q => ?_) (fun q => ?_)
    · exact absurd (show x4 ≤ x8 from q) (by rw [e4, e8]; exact nI_ge (by omega) (by omega))
    have ei : Int32.ofInt 65600 * x3 + x8 - x5 = nI (65600 * c + k) := by
      rw [e3, e8, nI_mul65600, e5, nI_sub3 (by omega)]
      exact congrArg nI (by omega)
    refine mjZ_y rfl rfl 16 _ _ _ _ ty ?_
    refine (And.intro rfl (And.intro rfl (And.intro (Or.inl rfl) (And.intro (show vp_in x8 131200 by rw [e8]; exact vp_in_nI (by omega) (by decide)) (And.intro (Or.inl ⟨rfl, ty.2.1 60 _ rfl⟩) (And.intro (show vp_in (Int32.ofInt 65600 * x3 + x8 - x5) 262400 by rw [ei]; exact vp_in_nI (by omega) (by decide)) (fun ty' => ?_)))))))
    exact ih (k + 1) _ _ (by rw [e8]; exact nI_1 (p + k)) (by omega) ty' (fun u x8 tu fu => hK u x8 tu ((Fr.a (by decide)).tr fu))
end SENDL
