/-! SET, whole. -/
section KSET5
variable {Y : Nat → MethodName × ByteArray} {d : Nat} {σ0 σ u : kS} {B ws nm nm' : List (List Int32)} {ks : List KC}
theorem OSI.fr {f : F4} {o : Option (Nat × List Int32)} (h : OSI σ ws f o) (s : SCl [(67, 3), (67, 4), (67, 5), (67, 6)] σ u) : OSI u ws f o := by
  unfold OSI at h ⊢
  rw [(s (67, 3) (by decide)).1, (s (67, 4) (by decide)).1, (s (67, 5) (by decide)).1, (s (67, 6) (by decide)).1]; exact h
def seZ (rp : Int32) (ks : List KC) (j : Nat) (v : List Int32) (f : F4) : Prop := (f.2.2.1 = 1 ∧ rfZ rp ks j v 0) ∨ (f.2.2.1 = 0 ∧ fuB rp ks j)
/-- SET, behind its words -/
def sgP (σ0 : kS) (B : List (List Int32)) (σ : kS) (ws nm : List (List Int32)) (ks : List KC) (v a : List Int32) (f : F4) (tm : Int64) : kK := fun r u => (goB f.1 f.2.1 (skA ks) v = false ∧ cdN σ0 B σ ws nm ks r u) ∨ (goB f.1 f.2.1 (skA ks) v = true ∧ ∃ tt, puP σ0 B σ ws nm ks v a (nI 2) f.2.2.2 tt r u ∧ ((kyI (skA ks) v = none ∧ tt = tm) ∨ ∃ P y Q, ks = P ++ y :: Q ∧ kyI (skA ks) v = some P.length ∧ tt = if f.2.2.2 = 1 then endE y.2.2.2.2.2 else tm))
theorem cdN.tr {σ1 : kS} {r : Option Value} (s : SCl scU σ σ1) (hp : PRE nm nm') (h : cdN σ0 B σ1 ws nm' ks r u) : cdN σ0 B σ ws nm ks r u := by
  obtain ⟨h1, nm9, p9, w9, s9, c9⟩ := h
  exact ⟨h1, nm9, hp.tr p9, w9, (s.sub scQU).tr s9, c9.trans (s (59, 18) (by decide)).1⟩
theorem kx_set69 (ty : kTY σ) (w : KWd σ0 B σ ws nm ks) (hr : RSD ks) (hB : BOK B ws) {v a : List Int32} (hv : ws[1]? = some v) (ha : ws[2]? = some a) (hal : a.length ≤ 16384) (hk1 : ks.length + 1 ≤ 2600) (hcap : xtA (skA ks) + 16384 ≤ 98304) {f : F4} {o : Option (Nat × List Int32)} (hO : OSI σ ws f o) (x1 x2 : Int32) {tm : Int64} (etm : σ.2.1 53 16 = tm) :
    kjY kPP (kQQ Y) (d + 8) 172 69 [some (.ref 67), some (.int x1), some (.int x2), none, none, none] [] σ (sgP σ0 B σ ws nm ks v a f tm) := by
  refine kjZ_y rfl rfl 6 _ _ _ _ ty ?_
  refine (And.intro (ty.k (by decide) rfl) (And.intro (ty.k (by decide) rfl) (And.intro (Nat.le_of_ble_eq_true rfl) (And.intro (Or.inl ⟨(Nat.le_of_ble_eq_true rfl), (ty.k (by decide) rfl)⟩) (And.intro (Nat.le_of_ble_eq_true rfl) (And.intro (Nat.le_of_ble_eq_true rfl) (kjY_mono ty (fun q_ u1 ty1 xu1 h_ => ?_) (kx_id ty w hB hv _ rfl))))))))
  obtain ⟨k, nm2, rfl, p2, p3, w2, s2⟩ := h_
  intro _ _
  refine kjZ_y rfl rfl 1 _ _ _ _ ty1 ?_
  refine (And.intro (Nat.le_of_ble_eq_true rfl) (And.intro (Or.inl ⟨(Nat.le_of_ble_eq_true rfl), (ty1.k (by decide) rfl)⟩) (And.intro (Nat.le_of_ble_eq_true rfl) (And.intro (Nat.le_of_ble_eq_true rfl) (kjY_mono ty1 (fun q_ u2 ty2 xu2 h_ => ?_) (kx_find ty1 w2 p2 _ rfl))))))
  obtain ⟨rfl, q3⟩ := h_
  intro _ _
  have hO2 := hO.fr (u := u2) (s2.sub (by decide +kernel))
  have et2 : u2.2.1 53 16 = tm := (s2 (53, 16) (by decide)).2.1.trans etm
  have sU := s2.sub scUA
  have h23 : (nI 2 : Int32) = 2 := rfl
  rcases q3 with ⟨rfl, q3⟩ | ⟨P, y, Q, rfl, f0, f1, f2⟩
  · have eg : goB f.1 f.2.1 (skA ks) v = decide (f.2.1 = 0) := by
      unfold goB; rw [q3]
      cases decide (f.1 = 0) <;> cases decide (f.2.1 = 0) <;> rfl
    have fin : ∀ x4 : Int32, (x4 = 1 ∧ f.2.1 = 0) ∨ (x4 = 0 ∧ ¬ f.2.1 = 0) → kjY kPP (kQQ Y) (d + 8) 172 96 [some (.ref 67), some (.int x1), some (.int x2), some .null, none, none] [.int x4] u2 (sgP σ0 B σ ws nm ks v a f tm) := by
      intro x4 hx
      refine kjY_mono ty2 (fun r z tz xz hz => ?_) (kx_set960 ty2 w2 hr hB hv ha hal hk1 hcap hO2 x1 x2 x4 (hx.elim (fun z => Or.inr z.1) (fun z => Or.inl z.1)))
      rcases hz with ⟨h1, h2⟩ | ⟨h1, h2⟩
      · refine Or.inl ⟨?_, h2.tr sU p3⟩
        rw [eg]
        rcases hx with z | z
        · rw [h1] at z; exact absurd z.1 (by decide)
        · exact decide_eq_false z.2
      · refine Or.inr ⟨?_, u2.2.1 53 16, h2.tr sU p3, Or.inl ⟨q3, et2⟩⟩
        rw [eg]
        rcases hx with z | z
        · exact decide_eq_true z.2
        · rw [h1] at z; exact absurd z.1 (by decide)
    have yes : f.2.1 = 0 → kjY kPP (kQQ Y) (d + 8) 172 93 [some (.ref 67), some (.int x1), some (.int x2), some .null, none, none] [] u2 (sgP σ0 B σ ws nm ks v a f tm) := by
      intro h
      refine kjZ_y rfl rfl 2 _ _ _ _ ty2 ?_
      exact fin _ (Or.inl ⟨rfl, h⟩)
    refine kjZ_y rfl rfl 4 _ _ _ _ ty2 ?_
    refine (And.intro (Nat.le_of_ble_eq_true rfl) (And.intro (ty2.k (by decide) rfl) (And.intro (fun c => ?_) (fun c => ?_))))
    · have c : u2.1 67 3 = 0 := c
      refine yes ?_
      rcases hO2.1 with h | h | h
      · exact h.2.1
      · exact h.2.1
      · rw [h.2.2] at c; exact absurd c (by decide)
    have c : ¬ u2.1 67 3 = 0 := c
    refine kjZ_y rfl rfl 4 _ _ _ _ ty2 ?_
    refine (And.intro (ty2.k (by decide) rfl) (And.intro (fun c2 => ?_) (fun c2 => ?_)))
    · have c2 : ¬ u2.1 67 3 = nI 1 := c2
      refine kjZ_y rfl rfl 6 _ _ _ _ ty2 ?_
      refine And.intro (fun c3 => ?_) (fun c3 => ?_)
      rotate_left
      · exact absurd (show ¬ nI 0 = nI 1 by decide) c3
      refine kjZ_y rfl rfl 1 _ _ _ _ ty2 ?_
      refine fin _ (Or.inr ⟨rfl, ?_⟩)
      rcases hO2.1 with h | h | h
      · exact absurd h.2.2 c
      · exact absurd h.2.2 c2
      · rw [h.2.1]; decide
    · have c2 : u2.1 67 3 = nI 1 := Decidable.of_not_not (fun z => c2 z)
      refine kjZ_y rfl rfl 7 _ _ _ _ ty2 ?_
      refine And.intro (fun c3 => ?_) (fun c3 => ?_)
      · exact absurd rfl c3
      refine yes ?_
      rcases hO2.1 with h | h | h
      · exact h.2.1
      · exact h.2.1
      · rw [h.2.2] at c2; exact absurd c2 (by decide)
  · subst f0
    have kv : (u2.2.2.2.1 y.1).1 = 11 := by
      obtain ⟨k2, -, -, hd, -⟩ := w2.val rfl
      rw [hd]
    have eg : goB f.1 f.2.1 (skA (P ++ y :: Q)) v = decide (f.1 = 0) := by
      unfold goB; rw [f2]
      cases decide (f.1 = 0) <;> cases decide (f.2.1 = 0) <;> rfl
    have fin : ∀ x4 : Int32, (x4 = 1 ∧ f.1 = 0) ∨ (x4 = 0 ∧ ¬ f.1 = 0) → kjY kPP (kQQ Y) (d + 8) 172 96 [some (.ref 67), some (.int x1), some (.int x2), some (.ref y.1), none, none] [.int x4] u2 (sgP σ0 B σ ws nm (P ++ y :: Q) v a f tm) := by
      intro x4 hx
      refine kjY_mono ty2 (fun r z tz xz hz => ?_) (kx_set96 ty2 w2 hr hB hv ha hal hk1 hcap hO2 x1 x2 x4 (hx.elim (fun z => Or.inr z.1) (fun z => Or.inl z.1)))
      rcases hz with ⟨h1, h2⟩ | ⟨h1, h2⟩
      · refine Or.inl ⟨?_, h2.tr sU p3⟩
        rw [eg]
        rcases hx with z | z
        · rw [h1] at z; exact absurd z.1 (by decide)
        · exact decide_eq_false z.2
      · refine Or.inr ⟨?_, _, h2.tr sU p3, Or.inr ⟨P, y, Q, rfl, f2, by rw [et2]⟩⟩
        rw [eg]
        rcases hx with z | z
        · exact decide_eq_true z.2
        · rw [h1] at z; exact absurd z.1 (by decide)
    have yes : f.1 = 0 → kjY kPP (kQQ Y) (d + 8) 172 93 [some (.ref 67), some (.int x1), some (.int x2), some (.ref y.1), none, none] [] u2 (sgP σ0 B σ ws nm (P ++ y :: Q) v a f tm) := by
      intro h
      refine kjZ_y rfl rfl 2 _ _ _ _ ty2 ?_
      exact fin _ (Or.inl ⟨rfl, h⟩)
    refine kjZ_y rfl rfl 4 _ _ _ _ ty2 ?_
    refine (And.intro (Nat.le_of_ble_eq_true rfl) (And.intro (ty2.k (by decide) rfl) (And.intro (fun c => ?_) (fun c => ?_))))
    · have c : u2.1 67 3 = 0 := c
      refine yes ?_
      rcases hO2.1 with h | h | h
      · exact h.1
      · rw [h.2.2] at c; exact absurd c (by decide)
      · exact h.1
    have c : ¬ u2.1 67 3 = 0 := c
    refine kjZ_y rfl rfl 4 _ _ _ _ ty2 ?_
    refine (And.intro (ty2.k (by decide) rfl) (And.intro (fun c2 => ?_) (fun c2 => ?_)))
    · have c2 : ¬ u2.1 67 3 = nI 1 := c2
      refine kjZ_y rfl rfl 5 _ _ _ _ ty2 ?_
      refine And.intro (fun c3 => ?_) (fun c3 => ?_)
      · exact absurd rfl c3
      refine yes ?_
      rcases hO2.1 with h | h | h
      · exact h.1
      · exact absurd h.2.2 c2
      · exact h.1
    · have c2 : u2.1 67 3 = nI 1 := Decidable.of_not_not (fun z => c2 z)
      refine kjZ_y rfl rfl 6 _ _ _ _ ty2 ?_
      refine And.intro (fun c3 => ?_) (fun c3 => ?_)
      rotate_left
      · exact absurd (show ¬ nI 1 = nI 0 by decide) c3
      refine kjZ_y rfl rfl 1 _ _ _ _ ty2 ?_
      refine fin _ (Or.inr ⟨rfl, ?_⟩)
      rcases hO2.1 with h | h | h
      · rw [h.2.2] at c2; exact absurd c2 (by decide)
      · rw [h.1]; decide
      · rw [h.2.2] at c2; exact absurd c2 (by decide)
end KSET5
