/-! Orders: a stretch of the line goes, whole. -/
section KORL2
variable {Y : Nat → MethodName × ByteArray} {d : Nat} {σ0 σ u : kS} {B ws nm nm' : List (List Int32)} {ks : List KC}
theorem kx_rmLine (ty : kTY σ) {P Q : List KC} {x : KC} (w : KWd σ0 B σ ws nm (P ++ x :: Q)) (hr : RSD (P ++ x :: Q)) (hso : x.2.2.2.2.2.2.1 = 4) (hZ : ZP x.2.2.2.2.2.2.2.2.2.2) {k : Nat} (hk : nm[k]? = some x.2.2.2.2.2.1) {a b : Nat} (hab : a < b) (hbl : b ≤ x.2.2.2.2.2.2.2.2.2.2.length) (x1 x3 x4 : Int32) (e1 : x1 = nI k) (e3 : x3 = nI a) (e4 : x4 = nI b) :
    kjY kPP (kQQ Y) (d + 4) 254 0 (mjL0 6 [.ref 75, .int x1, .ref x.1, .int x3, .int x4]) [] σ (fun r z => r = none ∧ cdS σ0 B σ ws nm (stlA (skA (P ++ x :: Q)) P.length (fun es => cutL es a (b - a))) z) := by
  have hs0 : ¬ x.2.2.2.2.2.2.1 = 0 := by rw [hso]; decide
  obtain ⟨z1, z2, kv⟩ := w.sz hs0
  obtain ⟨r1, r2⟩ := hr.two
  refine kjZ_y rfl rfl 2 _ _ _ _ ty ?_
  refine kjZ_y rfl rfl 3 _ _ _ _ ty ?_
  refine And.intro (fun c => ?_) (fun c => ?_)
  rotate_left
  · refine absurd (show x3 < x4 from ?_) c
    rw [e3, e4, nlt (by omega) (by omega)]; exact hab
  refine kjZ_y rfl rfl 2 _ _ _ _ ty ?_
  refine (And.intro (Nat.le_of_ble_eq_true rfl) ?_)
  refine k_rline_l (σ := σ) (d := d) _ (by omega) x1 x3 x4 e3 e4 x.1 _ (fun u x5 tu wu su => ?_) (b - a) a _ x σ (by omega) e3 ty w SCl.rf hso r2.1 hZ rfl (by omega) rfl
  have kvu : (u.2.2.2.1 x.1).1 = 11 := (wu.sz (x := mkK x (esF (fun es => cutL es a (b - a)) x.2.2.2.2.2)) hs0).2.2
  refine kjZ_y rfl rfl 5 _ _ _ _ tu ?_
  refine (And.intro (tu.k (by decide) rfl) (And.intro (Nat.le_of_ble_eq_true rfl) (And.intro (Or.inl ⟨(Nat.le_of_ble_eq_true rfl), (tu.k (by decide) rfl)⟩) (And.intro (Nat.le_of_ble_eq_true rfl) (And.intro (Nat.le_of_ble_eq_true rfl) (kjY_mono tu (fun q_ u5 ty5 xu5 h_ => ?_) (kx_settle (x := mkK x (esF (fun es => cutL es a (b - a)) x.2.2.2.2.2)) tu wu (k := k) hk _ e1)))))))
  obtain ⟨q9, q9b⟩ := h_
  intro _ _
  obtain ⟨st1, st2⟩ := stl_k (P := P) (Q := Q) (x := x) (fun es => cutL es a (b - a)) hs0
  obtain ⟨rfl, hz⟩ := cd_se (σ := σ) PRE.rf su.g ⟨q9, q9b⟩ (wkO_mk _ _) r1 st1 st2
  refine kjZ_y rfl rfl 1 _ _ _ _ ty5 ?_
  refine And.intro rfl (And.intro rfl ?_)
  exact ⟨rfl, hz⟩
end KORL2
