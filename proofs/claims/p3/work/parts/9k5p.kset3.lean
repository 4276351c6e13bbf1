/-! SETEX and PSETEX. -/
section KSET3
variable {Y : Nat → MethodName × ByteArray} {d : Nat} {σ0 σ u : kS} {B ws nm nm' : List (List Int32)} {ks : List KC}
/-- as it was -/
def cdN (σ0 : kS) (B : List (List Int32)) (σ : kS) (ws nm : List (List Int32)) (ks : List KC) : kK := fun r u => r = none ∧ ∃ nm', PRE nm nm' ∧ KWd σ0 B u ws nm' ks ∧ SCl scQ σ u ∧ u.1 59 18 = σ.1 59 18
def scU : List (Nat × Nat) := [(53, 8), (59, 16), (59, 17), (59, 18)]
theorem scUA : ∀ p ∈ scU, p ∈ scA := by decide +kernel
theorem scUB : ∀ p ∈ scU, p ∈ scB := by decide +kernel
theorem scUT : ∀ p ∈ scU, p ∈ scT := by decide +kernel
theorem scQU : ∀ p ∈ scQ, p ∈ scU := by decide +kernel
theorem cd_N (hp : PRE nm nm') (w : KWd σ0 B u ws nm' ks) (s : SCl scU σ u) : cdN σ0 B σ ws nm ks none u := ⟨rfl, nm', hp, w, s.sub scQU, (s (59, 18) (by decide)).1⟩
theorem ltC_1 (n now : Int64) (m : Nat) : ltC n now 1 m ↔ ¬ (n < 1 ∨ tmB n now m = false) := by
  unfold ltC tmB
  constructor
  · rintro ⟨h1, h2, h3, h4⟩ (z | z)
    · exact Int64.not_le.mpr z h2
    · rw [decide_eq_false_iff_not] at z; exact z ⟨h1, lan1 h2, h3, h4⟩
  · intro h
    have h2 : 1 ≤ n := Int64.not_lt.mp (fun z => h (Or.inl z))
    have h3 : ¬ decide (n ≤ LAT ∧ LAN ≤ n ∧ tmV n now m ≤ LAT ∧ LAN ≤ tmV n now m) = false := fun z => h (Or.inr z)
    rw [decide_eq_false_iff_not, Classical.not_not] at h3
    exact ⟨h3.1, h2, h3.2.2.1, h3.2.2.2⟩
theorem kx_setTimed (ty : kTY σ) (w : KWd σ0 B σ ws nm ks) (hr : RSD ks) (hB : BOK B ws) {j : Nat} (hj : CMD σ j) {v a2 a : List Int32} (hv : ws[1]? = some v) (h2 : ws[2]? = some a2) (ha : ws[3]? = some a) (hal : a.length ≤ 16384) (hk1 : ks.length + 1 ≤ 2600) (hcap : xtA (skA ks) + 16384 ≤ 98304) (s : Bool) (x1 : Int32) (e1 : x1 = if s = true then 1 else 0) :
    kjY kPP (kQQ Y) (d + 8) 175 0 (mjL0 2 [.ref 67, .int x1]) [] σ (fun r u => (((tiR true (tmM s true) (σ.2.1 59 16) a2 = none ∨ fuB (σ.1 59 17) ks j)) ∧ cdN σ0 B σ ws nm ks r u) ∨ ∃ t, tiR true (tmM s true) (σ.2.1 59 16) a2 = some t ∧ (¬ fuB (σ.1 59 17) ks j) ∧ puP σ0 B σ ws nm ks v a (nI 3) 0 t r u) := by
  refine kjZ_y rfl rfl 4 _ _ _ _ ty ?_
  refine (And.intro (ty.k (by decide) rfl) (And.intro (Nat.le_of_ble_eq_true rfl) (And.intro (Or.inl ⟨(Nat.le_of_ble_eq_true rfl), (ty.k (by decide) rfl)⟩) (And.intro (Nat.le_of_ble_eq_true rfl) (And.intro (Nat.le_of_ble_eq_true rfl) (kjY_mono ty (fun q_ u0 ty0 xu0 h_ => ?_) (kx_lacksInteger ty w h2 _ rfl)))))))
  obtain ⟨w0, s0, q⟩ := h_
  intro _ _
  have sU := s0.sub scUB
  rcases q with ⟨n, q1, rfl, e9⟩ | ⟨q1, rfl⟩
  rotate_left
  · refine kjZ_y rfl rfl 1 _ _ _ _ ty0 ?_
    refine And.intro (fun c => ?_) (fun c => ?_)
    rotate_left
    · exact absurd (show ¬ (1 : Int32) = 0 by decide) c
    refine kjZ_y rfl rfl 1 _ _ _ _ ty0 ?_
    refine And.intro rfl (And.intro rfl ?_)
    exact Or.inl ⟨Or.inl (by unfold tiR; rw [q1]; rfl), cd_N PRE.rf w0 sU⟩
  refine kjZ_y rfl rfl 1 _ _ _ _ ty0 ?_
  refine And.intro (fun c => ?_) (fun c => ?_)
  · exact absurd rfl c
  refine kjZ_y rfl rfl 6 _ _ _ _ ty0 ?_
  refine (And.intro (ty0.k (by decide) rfl) (And.intro (Nat.le_of_ble_eq_true rfl) (And.intro (Or.inl ⟨(Nat.le_of_ble_eq_true rfl), (ty0.k (by decide) rfl)⟩) (And.intro (Nat.le_of_ble_eq_true rfl) (And.intro (Nat.le_of_ble_eq_true rfl) (kjY_mono ty0 (fun q_ u1 ty1 xu1 h_ => ?_) (kx_lacksTime ty0 w0 s true _ _ _ e1 rfl)))))))
  obtain ⟨w1, s1, q⟩ := h_
  intro _ _
  rw [e9, (s0 (59, 16) (by decide)).2.1] at q
  have hlt := ltC_1 n (σ.2.1 59 16) (tmM s true)
  have eot : tiR true (tmM s true) (σ.2.1 59 16) a2 = if n < 1 ∨ tmB n (σ.2.1 59 16) (tmM s true) = false then none else some (tmV n (σ.2.1 59 16) (tmM s true)) := by
    unfold tiR; rw [q1]
    show (if (true = true ∧ n < 1) ∨ tmB n (σ.2.1 59 16) (tmM s true) = false then none else _) = _
    by_cases z : n < 1 ∨ tmB n (σ.2.1 59 16) (tmM s true) = false
    · rw [if_pos z, if_pos (z.elim (fun z => Or.inl ⟨rfl, z⟩) Or.inr)]
    · rw [if_neg z, if_neg (fun y => z (y.elim (fun y => Or.inl y.2) Or.inr))]
  have sU1 := sU.tr (s1.sub scUT)
  rcases q with ⟨rfl, q2, e16⟩ | ⟨rfl, q2⟩
  rotate_left
  · have q2 : ¬ ltC n (σ.2.1 59 16) 1 (tmM s true) := q2
    rw [hlt, Classical.not_not] at q2
    refine kjZ_y rfl rfl 1 _ _ _ _ ty1 ?_
    refine And.intro (fun c => ?_) (fun c => ?_)
    rotate_left
    · exact absurd (show ¬ (1 : Int32) = 0 by decide) c
    refine kjZ_y rfl rfl 1 _ _ _ _ ty1 ?_
    refine And.intro rfl (And.intro rfl ?_)
    exact Or.inl ⟨Or.inl (by rw [eot, if_pos q2]), cd_N PRE.rf w1 sU1⟩
  have q2 : ltC n (σ.2.1 59 16) 1 (tmM s true) := q2
  rw [hlt] at q2
  rw [if_neg q2] at eot
  generalize tmV n (σ.2.1 59 16) (tmM s true) = t at eot e16
  refine kjZ_y rfl rfl 1 _ _ _ _ ty1 ?_
  refine And.intro (fun c => ?_) (fun c => ?_)
  · exact absurd rfl c
  have hj1 : CMD u1 j := ⟨(sU1 (53, 8) (by decide)).2.2.trans hj.1, hj.2⟩
  refine kjZ_y rfl rfl 3 _ _ _ _ ty1 ?_
  refine (And.intro (ty1.k (by decide) rfl) (And.intro (Nat.le_of_ble_eq_true rfl) (And.intro (Or.inl ⟨(Nat.le_of_ble_eq_true rfl), (ty1.k (by decide) rfl)⟩) (And.intro (Nat.le_of_ble_eq_true rfl) (And.intro (Nat.le_of_ble_eq_true rfl) (kjY_mono ty1 (fun q_ u2 ty2 xu2 h_ => ?_) (kx_isFull ty1 w1 hj1)))))))
  obtain ⟨s2, w2, q⟩ := h_
  intro _ _
  rw [fuB_iff w1, (sU1 (59, 17) (by decide)).1] at q
  rcases q with ⟨rfl, q⟩ | ⟨rfl, q, rfl⟩
  · refine kjZ_y rfl rfl 1 _ _ _ _ ty2 ?_
    refine And.intro (fun c => ?_) (fun c => ?_)
    · exact absurd (show (1 : Int32) = 0 from c) (by decide)
    refine kjZ_y rfl rfl 1 _ _ _ _ ty2 ?_
    refine And.intro rfl (And.intro rfl ?_)
    exact Or.inl ⟨Or.inr q, cd_N PRE.rf w2 (sU1.tr (s2.sub scUA))⟩
  refine kjZ_y rfl rfl 1 _ _ _ _ ty2 ?_
  refine And.intro (fun c => ?_) (fun c => ?_)
  rotate_left
  · exact absurd rfl c
  refine kjZ_y rfl rfl 7 _ _ _ _ ty2 ?_
  refine (And.intro (ty2.k (by decide) rfl) (And.intro (ty2.k (by decide) rfl) (And.intro (Nat.le_of_ble_eq_true rfl) (And.intro (Or.inl ⟨(Nat.le_of_ble_eq_true rfl), (ty2.k (by decide) rfl)⟩) (And.intro (Nat.le_of_ble_eq_true rfl) (And.intro (Nat.le_of_ble_eq_true rfl) (kjY_mono ty2 (fun q_ u5 ty5 xu5 h_ => ?_) (kx_put ty2 w1 hr hB hv ha hal hk1 hcap _ (nI 3) 0 rfl (Or.inl rfl)))))))))
  have q5 := h_
  intro _ _
  have q5 : puP σ0 B u2 ws nm ks v a (nI 3) 0 (u2.2.1 53 16) _ u5 := q5
  rw [e16] at q5
  obtain ⟨rfl, nm9, ks9, w9, h9⟩ := q5.nx
  refine kjZ_y rfl rfl 3 _ _ _ _ ty5 ?_
  refine (And.intro (ty5.k (by decide) rfl) (And.intro (Nat.le_of_ble_eq_true rfl) (And.intro (Or.inl ⟨(Nat.le_of_ble_eq_true rfl), (ty5.k (by decide) rfl)⟩) (And.intro (Nat.le_of_ble_eq_true rfl) (And.intro (Nat.le_of_ble_eq_true rfl) (kjY_mono ty5 (fun q_ u6 ty6 xu6 h_ => ?_) (kx_accept ty5 w9)))))))
  obtain ⟨rfl, w6, s6⟩ := h_
  intro _ _
  refine kjZ_y rfl rfl 1 _ _ _ _ ty6 ?_
  refine And.intro rfl (And.intro rfl ?_)
  exact Or.inr ⟨t, eot, q, (h9 u6 w6 s6).tr sU1 PRE.rf⟩
end KSET3
