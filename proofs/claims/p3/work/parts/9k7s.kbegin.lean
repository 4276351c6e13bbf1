/-! Request: it begins; Bytes: four more; what is fed. -/
section KBEGIN
variable {Y : Nat → MethodName × ByteArray} {d : Nat} {σ : kS}
/-- the command of a request -/
def cmO (ws : List (List Int32)) (o : Option Nat) : Prop := (∃ j w, ws[0]? = some w ∧ j < 105 ∧ o = some (1000000 + j) ∧ w.map up = tb (txC j)) ∨ (o = none ∧ ∀ w, ws[0]? = some w → ∀ j, j < 105 → ¬ w.map up = tb (txC j))
theorem k_begin (ty : kTY σ) {ws : List (List Int32)} (hq : RQ σ ws) {b : Nat} (kb : (σ.2.2.2.1 b).1 = 0) : kjY kPP (kQQ Y) (d + 7) 97 0 (mjL0 2 [.ref 53, .ref b]) [] σ (fun r u => r = none ∧ ∃ o, u = (σ.1, σ.2.1, kFu (kFu σ.2.2.1 53 6 (some b)) 53 8 o, σ.2.2.2) ∧ cmO ws o) := by
  obtain ⟨g, M, ⟨h1, h2, h3⟩, -, ⟨h4, h1024⟩, h5⟩ := hq
  refine kjZ_y rfl rfl 3 _ _ _ _ ty ?_
  refine (And.intro (ty.k (by decide) rfl) (And.intro (Or.inl ⟨rfl, by assumption⟩) (fun ty' => ?_)))
  have go : ∀ z, kTY z → z = (σ.1, σ.2.1, kFu σ.2.2.1 53 6 (some b), σ.2.2.2) → kjY kPP (kQQ Y) (d + 7) 97 3 [some (.ref 53), some (.ref b)] [] z (fun r u => r = none ∧ ∃ o, u = (σ.1, σ.2.1, kFu (kFu σ.2.2.1 53 6 (some b)) 53 8 o, σ.2.2.2) ∧ cmO ws o) := by
    intro z tz ez
    have kz : (z.2.2.2.1 b).1 = 0 := by rw [ez]; exact kb
    have z4 : z.1 53 4 = nI ws.length := by rw [ez]; exact h4
    have zf : z.2.2.1 53 3 = some g := by
      have e9 : kFu σ.2.2.1 53 6 (some b) 53 3 = some g := by rw [kFu_at]; exact (if_neg (fun y => absurd y.2 (by decide))).trans h1
      rw [ez]; exact e9
    have zd : z.2.2.2.1 g = (21, M) := by rw [ez]; exact h2
    have zi : z.1 = σ.1 := by rw [ez]
    refine kjZ_y rfl rfl 4 _ _ _ _ tz ?_
    refine (And.intro (tz.k (by decide) rfl) (And.intro (fun c => ?_) (fun c => ?_)))
    · have c : z.1 53 4 ≤ nI 0 := c
      rw [z4, nle (by omega) (by decide)] at c
      have : ws = [] := List.length_eq_zero_iff.mp (by omega)
      refine kjZ_y rfl rfl 3 _ _ _ _ tz ?_
      refine (And.intro (tz.k (by decide) rfl) (And.intro (Or.inl rfl) (fun tz' => And.intro rfl (And.intro rfl ?_))))
      refine ⟨rfl, none, by rw [ez], Or.inr ⟨rfl, fun w hw => ?_⟩⟩
      rw [this] at hw; cases hw
    have c : ¬ z.1 53 4 ≤ nI 0 := c
    rw [z4, nle (by omega) (by decide)] at c
    have hw0 := List.getElem?_eq_getElem (show 0 < ws.length by omega)
    generalize ws[0] = w at hw0
    obtain ⟨a, a1, a2, a3, a4⟩ := h5 0 w hw0
    have v0 : vp_in (Int32.ofInt 0) 1024 := vp_in_nI (n := 0) (N := 1024) (by decide) (by decide)
    refine kjZ_y rfl rfl 11 _ _ _ _ tz ?_
    refine (And.intro (tz.k (by decide) rfl) (Exists.intro _ (And.intro zf (And.intro (tz.k (by decide) rfl) (Or.inl (And.intro (tz.k (by decide) rfl) (And.intro (kdw tz (by decide) rfl v0) (And.intro (tz.k (by decide) rfl) (Or.inl (And.intro (tz.k (by decide) rfl) (And.intro (kdw tz (by decide) rfl v0) (And.intro (Nat.le_of_ble_eq_true rfl) (And.intro (Nat.le_of_ble_eq_true rfl) (And.intro (Nat.le_of_ble_eq_true rfl) (kjY_mono tz (fun q_ u1 ty1 xu1 h_ => ?_) (k_named (d := d) tz zd h3 a3 _ _ (by rw [zi]; exact a1) (by rw [zi]; exact a2)))))))))))))))))
    obtain ⟨rfl, q⟩ := h_
    intro _ _
    rw [zi, a4] at q
    have ku : (u1.2.2.2.1 b).1 = 0 := kz
    rcases q with ⟨j, hj, rfl, q⟩ | ⟨rfl, q⟩
    · have kcm : kCm (1000000 + j) := ⟨j, hj, rfl⟩
      refine kjZ_y rfl rfl 3 _ _ _ _ ty1 ?_
      refine (And.intro (ty1.k (by decide) rfl) (And.intro (Or.inr (Or.inl ⟨rfl, kcm⟩)) (fun ty1' => And.intro rfl (And.intro rfl ?_))))
      exact ⟨rfl, some (1000000 + j), by rw [ez], Or.inl ⟨j, w, hw0, hj, rfl, q⟩⟩
    · refine kjZ_y rfl rfl 3 _ _ _ _ ty1 ?_
      refine (And.intro (ty1.k (by decide) rfl) (And.intro (Or.inl rfl) (fun ty1' => And.intro rfl (And.intro rfl ?_))))
      refine ⟨rfl, none, by rw [ez], Or.inr ⟨rfl, fun w' hw' => ?_⟩⟩
      rw [hw0] at hw'; cases hw'; exact q
  exact go _ ty' rfl
end KBEGIN
