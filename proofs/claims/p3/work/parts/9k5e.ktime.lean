/-! FLUSHALL; times. -/
def scT : List (Nat × Nat) := [(53, 8), (53, 9), (53, 10), (53, 11), (53, 12), (53, 13), (53, 14), (53, 15), (59, 16), (59, 17), (59, 18), (67, 3), (67, 4), (67, 5), (67, 6), (75, 3), (75, 4), (75, 5), (75, 6), (75, 7), (75, 8)]
theorem scTA : ∀ p ∈ scT, p ∈ scA := by decide +kernel
def tmM (s f : Bool) : Nat := if s = true then (if f = true then 0 else 2) else (if f = true then 1 else 3)
theorem tmV_M (n now : Int64) (s f : Bool) : tmV n now (tmM s f) = (if s = true then 1000 * n else n) + (if f = true then now else 0) := by
  cases s <;> cases f
  · show n = n + 0; rw [Int64.add_zero]
  · rfl
  · show n * 1000 = 1000 * n + 0; rw [Int64.add_zero, Int64.mul_comm]
  · show n * 1000 + now = 1000 * n + now; rw [Int64.mul_comm]
theorem i32_te (p e q x : Int32) : p + (e + q) + (x - e) = p + (x + q) := by
  rw [Int32.sub_eq_add_neg, Int32.add_assoc, Int32.add_comm e q, Int32.add_assoc q e, Int32.add_comm x (-e), ← Int32.add_assoc e, Int32.add_right_neg, Int32.zero_add, Int32.add_comm q x]
section KTIME
variable {Y : Nat → MethodName × ByteArray} {d : Nat} {σ0 σ u : kS} {B ws nm nm' : List (List Int32)} {ks : List KC}
def ltC (n now least : Int64) (m : Nat) : Prop := n ≤ LAT ∧ least ≤ n ∧ tmV n now m ≤ LAT ∧ LAN ≤ tmV n now m
def ltP (σ0 : kS) (B : List (List Int32)) (σ : kS) (ws nm : List (List Int32)) (ks : List KC) (least : Int64) (m : Nat) : kK := fun r u => KWd σ0 B u ws nm ks ∧ SCl scT σ u ∧ ((r = some (.int 0) ∧ ltC (σ.2.1 53 9) (σ.2.1 59 16) least m ∧ u.2.1 53 16 = tmV (σ.2.1 53 9) (σ.2.1 59 16) m) ∨ (r = some (.int 1) ∧ ¬ ltC (σ.2.1 53 9) (σ.2.1 59 16) least m))
theorem kx_lacksTime (ty : kTY σ) (w : KWd σ0 B σ ws nm ks) (s f : Bool) (least : Int64) (x1 x2 : Int32) (e1 : x1 = if s = true then 1 else 0) (e2 : x2 = if f = true then 1 else 0) :
    kjY kPP (kQQ Y) (d + 1) 148 0 (mjL0 10 [.ref 59, .int x1, .int x2, .long least]) [] σ (ltP σ0 B σ ws nm ks least (tmM s f)) := by
  have eL : Int64.ofInt 9007199254740991 = LAT := by decide
  have eN : Int64.ofInt (-9007199254740991) = LAN := by decide
  have bad : ∀ l7 l8 l9, ¬ ltC (σ.2.1 53 9) (σ.2.1 59 16) least (tmM s f) → kjY kPP (kQQ Y) (d + 1) 148 45 [some (.ref 59), some (.int x1), some (.int x2), some (.long least), none, some (.long (σ.2.1 53 9)), none, l7, l8, l9] [] σ (ltP σ0 B σ ws nm ks least (tmM s f)) := by
    intro l7 l8 l9 h
    refine kjZ_y rfl rfl 4 _ _ _ _ ty ?_
    refine (And.intro (ty.k (by decide) rfl) (And.intro rfl (And.intro (Nat.le_of_ble_eq_true rfl) (And.intro (Or.inl ⟨(Nat.le_of_ble_eq_true rfl), (ty.k (by decide) rfl)⟩) (And.intro (Nat.le_of_ble_eq_true rfl) (And.intro (Nat.le_of_ble_eq_true rfl) (kjY_mono ty (fun q_ u1 ty1 xu1 h_ => ?_) (kx_refuse ty w (by decide)))))))))
    obtain ⟨rfl, w1, s1⟩ := h_
    intro _ _
    refine kjZ_y rfl rfl 2 _ _ _ _ ty1 ?_
    refine And.intro rfl (And.intro (Or.inr (Or.inl ⟨rfl, Or.inr rfl⟩)) ?_)
    exact ⟨w1, s1.sub scTA, Or.inr ⟨rfl, h⟩⟩
  have no : ¬ ltC (σ.2.1 53 9) (σ.2.1 59 16) least (tmM s f) → kjY kPP (kQQ Y) (d + 1) 148 14 [some (.ref 59), some (.int x1), some (.int x2), some (.long least), none, some (.long (σ.2.1 53 9)), none, none, none, none] [] σ (ltP σ0 B σ ws nm ks least (tmM s f)) := by
    intro h
    refine kjZ_y rfl rfl 4 _ _ _ _ ty ?_
    refine (And.intro (Nat.le_of_ble_eq_true rfl) (And.intro (fun c => ?_) (fun c => ?_)))
    rotate_left
    · exact absurd rfl c
    refine kjZ_y rfl rfl 4 _ _ _ _ ty ?_
    refine (And.intro (Nat.le_of_ble_eq_true rfl) (And.intro (fun c => ?_) (fun c => ?_)))
    rotate_left
    · exact absurd rfl c
    exact bad _ _ _ h
  refine kjZ_y rfl rfl 8 _ _ _ _ ty ?_
  refine (And.intro (ty.k (by decide) rfl) (And.intro (ty.k (by decide) rfl) (And.intro (Nat.le_of_ble_eq_true rfl) (And.intro (fun c => ?_) (fun c => ?_)))))
  · have c : Int64.ofInt 9007199254740991 < σ.2.1 53 9 := (lg_cmp_gt _ _).mp c
    rw [eL] at c
    exact no (fun z => Int64.not_le.mpr c z.1)
  have c : ¬ Int64.ofInt 9007199254740991 < σ.2.1 53 9 := fun z => c ((lg_cmp_gt _ _).mpr z)
  rw [eL] at c
  refine kjZ_y rfl rfl 4 _ _ _ _ ty ?_
  refine And.intro (fun c2 => ?_) (fun c2 => ?_)
  · have c2 : σ.2.1 53 9 < least := (lg_cmp_lt _ _).mp c2
    exact no (fun z => Int64.not_le.mpr c2 z.2.1)
  have c2 : ¬ σ.2.1 53 9 < least := fun z => c2 ((lg_cmp_lt _ _).mpr z)
  have go31 : ∀ t a : Int64, t + a = tmV (σ.2.1 53 9) (σ.2.1 59 16) (tmM s f) → kjY kPP (kQQ Y) (d + 1) 148 31 [some (.ref 59), some (.int x1), some (.int x2), some (.long least), none, some (.long (σ.2.1 53 9)), none, some (.int (Int32.ofInt 1)), none, none] [.long a, .long t] σ (ltP σ0 B σ ws nm ks least (tmM s f)) := by
    intro t a eta
    refine kjZ_y rfl rfl 5 _ _ _ _ ty ?_
    refine (And.intro (Nat.le_of_ble_eq_true rfl) (And.intro (fun c3 => ?_) (fun c3 => ?_)))
    · exact absurd (show (1 : Int32) = 0 from c3) (by decide)
    refine kjZ_y rfl rfl 4 _ _ _ _ ty ?_
    refine And.intro (fun c4 => ?_) (fun c4 => ?_)
    · have c4 : Int64.ofInt 9007199254740991 < t + a := (lg_cmp_gt _ _).mp c4
      rw [eL, eta] at c4
      exact bad _ _ _ (fun z => Int64.not_le.mpr c4 z.2.2.1)
    have c4 : ¬ Int64.ofInt 9007199254740991 < t + a := fun z => c4 ((lg_cmp_gt _ _).mpr z)
    rw [eL, eta] at c4
    refine kjZ_y rfl rfl 4 _ _ _ _ ty ?_
    refine And.intro (fun c5 => ?_) (fun c5 => ?_)
    · have c5 : Int64.ofInt (-9007199254740991) ≤ t + a := (lg_cmp_ge _ _).mp c5
      rw [eN, eta] at c5
      refine kjZ_y rfl rfl 4 _ _ _ _ ty ?_
      refine (And.intro (ty.k (by decide) rfl) (And.intro (ty.k (by decide) rfl) (And.intro rfl (fun ty' => ?_))))
      have go : ∀ z, kTY z → z = (σ.1, mjLu σ.2.1 53 16 (t + a), σ.2.2) → kjY kPP (kQQ Y) (d + 1) 148 55 [some (.ref 59), some (.int x1), some (.int x2), some (.long least), none, some (.long (σ.2.1 53 9)), none, some (.int (Int32.ofInt 1)), some (.long (t + a)), none] [] z (ltP σ0 B σ ws nm ks least (tmM s f)) := by
        intro z tz ez
        refine kjZ_y rfl rfl 2 _ _ _ _ tz ?_
        refine And.intro rfl (And.intro (Or.inr (Or.inl ⟨rfl, Or.inl rfl⟩)) ?_)
        refine ⟨by rw [ez]; exact w.pl ty (by decide), by rw [ez]; exact SCl.l (by decide +kernel), Or.inl ⟨rfl, ⟨Int64.not_lt.mp c, Int64.not_lt.mp c2, Int64.not_lt.mp c4, c5⟩, ?_⟩⟩
        rw [ez]; show mjLu σ.2.1 53 16 (t + a) 53 16 = _; rw [mjLu_p, eta]
      exact go _ ty' rfl
    · have c5 : ¬ Int64.ofInt (-9007199254740991) ≤ t + a := fun z => c5 ((lg_cmp_ge _ _).mpr z)
      rw [eN, eta] at c5
      exact bad _ _ _ (fun z => c5 z.2.2.2)
  have go25 : ∀ t : Int64, (t = if s = true then 1000 * σ.2.1 53 9 else σ.2.1 53 9) → kjY kPP (kQQ Y) (d + 1) 148 25 [some (.ref 59), some (.int x1), some (.int x2), some (.long least), none, some (.long (σ.2.1 53 9)), none, some (.int (Int32.ofInt 1)), none, none] [.long t] σ (ltP σ0 B σ ws nm ks least (tmM s f)) := by
    intro t et
    refine kjZ_y rfl rfl 2 _ _ _ _ ty ?_
    refine And.intro (fun c3 => ?_) (fun c3 => ?_)
    · have hf : ¬ f = true := fun z => by rw [if_pos z] at e2; exact absurd (e2.symm.trans c3) (by decide)
      refine kjZ_y rfl rfl 1 _ _ _ _ ty ?_
      exact go31 t _ (by rw [tmV_M, if_neg hf, et]; rfl)
    · have hf : f = true := by
        by_cases z : f = true
        · exact z
        · rw [if_neg z] at e2; exact absurd e2 c3
      refine kjZ_y rfl rfl 3 _ _ _ _ ty ?_
      refine (And.intro (ty.k (by decide) rfl) ?_)
      exact go31 t (σ.2.1 59 16) (by rw [tmV_M, if_pos hf, et])
  refine kjZ_y rfl rfl 5 _ _ _ _ ty ?_
  refine (And.intro (Nat.le_of_ble_eq_true rfl) (And.intro (fun c3 => ?_) (fun c3 => ?_)))
  · exact absurd (show (1 : Int32) = 0 from c3) (by decide)
  refine kjZ_y rfl rfl 2 _ _ _ _ ty ?_
  refine And.intro (fun c3 => ?_) (fun c3 => ?_)
  · have hs : ¬ s = true := fun z => by rw [if_pos z] at e1; exact absurd (e1.symm.trans c3) (by decide)
    refine kjZ_y rfl rfl 1 _ _ _ _ ty ?_
    exact go25 (σ.2.1 53 9) (by rw [if_neg hs])
  · have hs : s = true := by
      by_cases z : s = true
      · exact z
      · rw [if_neg z] at e1; exact absurd e1 c3
    refine kjZ_y rfl rfl 4 _ _ _ _ ty ?_
    exact go25 _ (by rw [if_pos hs]; rfl)
theorem kx_isPast (ty : kTY σ) (x : Int64) : kjY kPP (kQQ Y) d 149 0 (mjL0 3 [.ref 59, .long x]) [] σ (fun r u => u = σ ∧ ((r = some (.int 1) ∧ x ≤ σ.2.1 59 16 ∧ σ.1 59 17 = 0) ∨ (r = some (.int 0) ∧ ¬ (x ≤ σ.2.1 59 16 ∧ σ.1 59 17 = 0)))) := by
  refine kjZ_y rfl rfl 5 _ _ _ _ ty ?_
  refine (And.intro (ty.k (by decide) rfl) (And.intro (fun c => ?_) (fun c => ?_)))
  · have c : σ.2.1 59 16 < x := (lg_cmp_gt _ _).mp c
    refine kjZ_y rfl rfl 2 _ _ _ _ ty ?_
    refine And.intro rfl (And.intro (Or.inr (Or.inl ⟨rfl, Or.inl rfl⟩)) ?_)
    exact ⟨rfl, Or.inr ⟨rfl, fun z => Int64.not_le.mpr c z.1⟩⟩
  have c : ¬ σ.2.1 59 16 < x := fun z => c ((lg_cmp_gt _ _).mpr z)
  refine kjZ_y rfl rfl 3 _ _ _ _ ty ?_
  refine (And.intro (ty.k (by decide) rfl) (And.intro (fun c2 => ?_) (fun c2 => ?_)))
  · have c2 : ¬ σ.1 59 17 = 0 := c2
    refine kjZ_y rfl rfl 2 _ _ _ _ ty ?_
    refine And.intro rfl (And.intro (Or.inr (Or.inl ⟨rfl, Or.inl rfl⟩)) ?_)
    exact ⟨rfl, Or.inr ⟨rfl, fun z => c2 z.2⟩⟩
  · have c2 : σ.1 59 17 = 0 := Decidable.of_not_not (fun z => c2 z)
    refine kjZ_y rfl rfl 3 _ _ _ _ ty ?_
    refine And.intro rfl (And.intro (Or.inr (Or.inl ⟨rfl, Or.inr rfl⟩)) ?_)
    exact ⟨rfl, Or.inl ⟨rfl, Int64.not_lt.mp c, c2⟩⟩
/-- a key with another time -/
def teK (y : KC) (a : AK) : KC := (y.1, y.2.1, y.2.2.1, y.2.2.2.1, y.2.2.2.2.1, a)
theorem kx_ends (ty : kTY σ) {P Q : List KC} {y : KC} (w : KWd σ0 B σ ws nm (P ++ y :: Q)) (x : Int64) {a : AK} (h1 : a.1 = y.2.2.2.2.2.1 ∧ a.2.1 = y.2.2.2.2.2.2.1 ∧ a.2.2.2.2 = y.2.2.2.2.2.2.2.2.2) (h2 : endE a = x) : kjY kPP (kQQ Y) d 140 0 (mjL0 4 [.ref 59, .ref y.1, .long x]) [] σ (wP σ0 B σ ws nm (P ++ teK y a :: Q)) := by
  obtain ⟨fr, vs, k0, n0, e0, t0, cs0, hR, hV, a1, hav, hd, ht, s6, hn6, s4⟩ := w.op_
  have hnd := hR.nd
  refine kjY_mono ty (fun r u tu xu h => ?_) (k_setEnds ty w.2.1.1 w.2.1.2 hR a1 x)
  obtain ⟨hr, m1, m2, m3, m4⟩ := h
  obtain ⟨q1, q2⟩ := w.k0.sto ty m4 (by decide) (by decide) m2 m3
  obtain ⟨b1, b2, b3, b4, b5, b6⟩ := hav
  have b3 : e0 = endE y.2.2.2.2.2 := b3
  have hmp := ks_maps (P := P) (Q := Q) (x := y) (x' := teK y a) ⟨rfl, rfl⟩
  refine ⟨hr, q1.mk ⟨fr, _, ?_, hV.upd hnd (x' := teK y a) (r' := (y.1, k0, n0, y.2.2.2.1, y.2.2.2.2.1, x, t0, cs0)) ⟨rfl, rfl, rfl, h1.1⟩ ⟨rfl, rfl, rfl, ?_⟩⟩, q2⟩
  · rw [hmp.1, hmp.2]
    have ec : cSum (P ++ teK y a :: Q) = cSum (P ++ y :: Q) := by rw [cSum_app, cSum_app]; rfl
    have et : tSum (P ++ teK y a :: Q) = tSum (P ++ y :: Q) + (nvI x - nvI e0) := by
      rw [tSum_app, tSum_app]
      show _ + (nvI (endE a) + tSum Q) = _ + (nvI (endE y.2.2.2.2.2) + tSum Q) + _
      rw [h2, b3, i32_te]
    rw [ec, et]; exact m1
  · refine ⟨h1.2.1.trans b1, b2, h2.symm, ?_, ?_, ?_⟩
    · show t0 = a.2.2.2.2.1; rw [h1.2.2]; exact b4
    · show n0 = if k0 = 0 then a.2.2.2.2.1.length else a.2.2.2.2.2.length; rw [h1.2.2]; exact b5
    · show CSM nm k0 cs0 a.2.2.2.2.2; rw [h1.2.2]; exact b6
end KTIME
