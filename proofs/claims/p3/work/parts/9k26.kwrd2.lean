/-! Words: a word's length; a word is written; a word's head. -/
section KWRD2
variable {Y : Nat → MethodName × ByteArray} {d : Nat} {σ : kS}
theorem k_wlen (ty : kTY σ) {nm : List (List Int32)} (hw : WRD σ nm) (x : Int32) :
    kjY kPP (kQQ Y) d 79 0 (mjL0 2 [.ref 48, .int x]) [] σ (fun v u => u = σ ∧ ∃ y, v = some (.int y) ∧ ∀ i w, x = nI i → nm[i]? = some w → y = nI w.length) := by
  obtain ⟨rb, NB, rs, NS, rc, ⟨b1, b2, b3, b3'⟩, ⟨s1, s2, s3, s4, s5, s5'⟩, a1, a2, a3, a4, a5, a6, a7, a8⟩ := hw
  have hno : (∀ i, x = nI i → i < nm.length → False) → kjY kPP (kQQ Y) d 79 6 [some (.ref 48), some (.int x)] [] σ (fun v u => u = σ ∧ ∃ y, v = some (.int y) ∧ ∀ i w, x = nI i → nm[i]? = some w → y = nI w.length) := by
    intro q
    refine kjZ_y rfl rfl 3 _ _ _ _ ty ?_
    refine And.intro rfl (And.intro (Or.inl rfl) ?_)
    exact ⟨rfl, _, rfl, fun i w e1 e2 => (q i e1 (List.getElem?_eq_some_iff.mp e2).1).elim⟩
  refine kjZ_y rfl rfl 2 _ _ _ _ ty ?_
  refine And.intro (fun c => ?_) (fun c => ?_)
  · refine hno (fun j e1 e2 => ?_)
    rw [e1] at c; exact nI_n0 (by omega) c
  refine kjZ_y rfl rfl 4 _ _ _ _ ty ?_
  refine (And.intro (ty.k (by decide) rfl) (And.intro (fun c2 => ?_) (fun c2 => ?_)))
  rotate_left
  · refine hno (fun j e1 e2 => c2 (show x < σ.1 48 4 from ?_))
    rw [a2, e1]; exact nI_lt e2 (by omega)
  have c0 : 0 ≤ x := Int32.not_lt.mp c
  have c3 : x < nI nm.length := by
    have c4 : x < σ.1 48 4 := c2
    rw [a2] at c4; exact c4
  have c5 := Int32.lt_iff_toInt_lt.mp c3
  rw [nI_toInt (by omega)] at c5
  have c6 : 0 ≤ x.toInt := Int32.le_iff_toInt_le.mp c0
  have ek : x.toNatClampNeg < nm.length ∧ x = nI x.toNatClampNeg := by
    have e : (x.toNatClampNeg : Int) = x.toInt := by unfold Int32.toNatClampNeg; exact Int.toNat_of_nonneg c6
    refine ⟨by omega, Int32.toInt_inj.mp ?_⟩
    rw [nI_toInt (by omega)]; exact e.symm
  have v1 : vp_in x NS := by rw [ek.2]; exact vp_in_nI (by omega) (by omega)
  have v2 : vp_in (x + Int32.ofInt 1) NS := by rw [ek.2, show nI x.toNatClampNeg + Int32.ofInt 1 = nI (x.toNatClampNeg + 1) from nI_1 _]; exact vp_in_nI (by omega) (by omega)
  refine kjZ_y rfl rfl 12 _ _ _ _ ty ?_
  refine (And.intro (ty.k (by decide) rfl) (Exists.intro _ (And.intro s1 (Or.inl (And.intro (kdk s2) (And.intro (kdv s2 v2) (And.intro (ty.k (by decide) rfl) (Exists.intro _ (And.intro s1 (Or.inl (And.intro (kdk s2) (And.intro (kdv s2 v1) (And.intro rfl (And.intro (Or.inl rfl) ?_))))))))))))))
  refine ⟨rfl, _, rfl, fun i w e1 e2 => ?_⟩
  have hil : i < nm.length := (List.getElem?_eq_some_iff.mp e2).1
  have c1 : x.toNatClampNeg = i := by rw [e1]; exact nI_clamp (by omega)
  have c2 : (x + Int32.ofInt 1).toNatClampNeg = i + 1 := by rw [e1, show nI i + Int32.ofInt 1 = nI (i + 1) from nI_1 i]; exact nI_clamp (by omega)
  rw [c1, c2, a3 i (by omega), a3 (i + 1) (by omega), sl_take_s e2, pk_sub (by omega)]; congr 1; omega
/-- a word is written -/
theorem k_copyWord (ty : kTY σ) (ow : OWN σ) {nm : List (List Int32)} (hw : WRD σ nm) {b : Nat} (hb : b ∈ OWb) {l : List Int32} (h : kBY σ b l) {i : Nat} {w : List Int32} (hi : nm[i]? = some w) (x : Int32) (ex : x = nI i) (hq : opQ σ b l (wordL w).length) :
    kjY kPP (kQQ Y) (d + 5) 80 0 (mjL0 3 [.ref 48, .int x, .ref b]) [] σ (opP σ b l (wordL w)) := by
  obtain ⟨rb, NB, rs, NS, rc, ⟨b1, b2, b3, b3'⟩, ⟨s1, s2, s3, s4, s5, s5'⟩, a1, a2, a3, a4, a5, a6, a7, a8⟩ := hw
  have kb := ob_k ty hb
  have hil : i < nm.length := (List.getElem?_eq_some_iff.mp hi).1
  have v1 : vp_in x NS := by rw [ex]; exact vp_in_nI (by omega) (by omega)
  have v2 : vp_in (x + Int32.ofInt 1) NS := by rw [ex, show nI i + Int32.ofInt 1 = nI (i + 1) from nI_1 i]; exact vp_in_nI (by omega) (by omega)
  have c1 : x.toNatClampNeg = i := by rw [ex]; exact nI_clamp (by omega)
  have c2 : (x + Int32.ofInt 1).toNatClampNeg = i + 1 := by rw [ex, show nI i + Int32.ofInt 1 = nI (i + 1) from nI_1 i]; exact nI_clamp (by omega)
  have q1 := a3 i (by omega)
  have q3 := sl_take_s hi
  have q4 := sl_take_le nm (i + 1)
  have ed : σ.1 rs (x + Int32.ofInt 1).toNatClampNeg - σ.1 rs x.toNatClampNeg = nI w.length := by
    rw [c1, c2, q1, a3 (i + 1) (by omega), q3, pk_sub (by omega)]; congr 1; omega
  have es : σ.1 rs x.toNatClampNeg = nI (sl (nm.take i)) := by rw [c1, q1]
  have hg : ¬ σ.2.2.1 b 1 = some rb := fun z => by
    have e := ow (b, 1) (ow_b hb) (48, 0) (by decide) (by show σ.2.2.1 b 1 = σ.2.2.1 48 0; rw [z, b1])
    have e1 : b = 48 := congrArg Prod.fst e
    rw [e1] at hb; exact absurd hb (by decide)
  have e5 := a5 i w hi
  rw [← e5] at hq ⊢
  refine kjZ_y rfl rfl 2 _ _ _ _ ty ?_
  refine And.intro (fun c => ?_) (fun c => ?_)
  · exact absurd c (by rw [ex]; exact nI_n0 (by omega))
  refine kjZ_y rfl rfl 4 _ _ _ _ ty ?_
  refine (And.intro (ty.k (by decide) rfl) (And.intro (fun c3 => ?_) (fun c3 => ?_)))
  · refine absurd (show σ.1 48 4 ≤ x from c3) ?_
    rw [a2, ex]; exact nI_ge (by omega) (by omega)
  refine kjZ_y rfl rfl 19 _ _ _ _ ty ?_
  refine (And.intro (ty.k (by decide) rfl) (Exists.intro _ (And.intro b1 (And.intro (ty.k (by decide) rfl) (Exists.intro _ (And.intro s1 (Or.inl (And.intro (kdk s2) (And.intro (kdv s2 v1) (And.intro (ty.k (by decide) rfl) (Exists.intro _ (And.intro s1 (Or.inl (And.intro (kdk s2) (And.intro (kdv s2 v2) (And.intro (ty.k (by decide) rfl) (Exists.intro _ (And.intro s1 (Or.inl (And.intro (kdk s2) (And.intro (kdv s2 v1) (And.intro (Nat.le_of_ble_eq_true rfl) (And.intro (Or.inl ⟨(Nat.le_of_ble_eq_true rfl), (by assumption)⟩) (And.intro (Nat.le_of_ble_eq_true rfl) (And.intro (Nat.le_of_ble_eq_true rfl) (kjY_mono ty (fun q_ u1 ty1 xu1 h_ => ?_) (k_word ty ow hb h b2 (by omega) (by omega) hg _ _ es ed hq)))))))))))))))))))))))))))
  obtain ⟨rfl, q⟩ := h_
  intro _ _
  refine kjZ_y rfl rfl 1 _ _ _ _ ty1 ?_
  refine And.intro rfl (And.intro rfl ?_)
  exact ⟨rfl, q⟩
/-- the sum that gives a word's head -/
theorem k_mix_l (K : kK) (ty : kTY σ) {h M a n : Nat} (kh : σ.2.2.2.1 h = (21, M)) (hM : a + n ≤ M) (hMM : M ≤ 600000) (x2 x3 x4 : Int32) (e2 : x2 = nI a) (e4 : x4 = nI n) (hK : kjY kPP (kQQ Y) d 76 33 [some (.ref 48), some (.ref h), some (.int x2), some (.int x3), some (.int x4), some (.int (mixF (wd (σ.1 h) a n))), some (.int x4), none, none] [] σ K) : ∀ (f k : Nat) (x5 x6 : Int32), k + f = n → x6 = nI k → x5 = (wd (σ.1 h) a k).foldl (fun m x => 31 * m + x) (nI n) →
    kjY kPP (kQQ Y) d 76 18 [some (.ref 48), some (.ref h), some (.int x2), some (.int x3), some (.int x4), some (.int x5), some (.int x6), none, none] [] σ K := by
  intro f
  induction f with
  | zero =>
    intro k x5 x6 hk e6 e5
    have hkn : k = n := by omega
    refine kjZ_y rfl rfl 3 _ _ _ _ ty ?_
    refine And.intro (fun c => ?_) (fun c => ?_)
    · have e7 : x5 = mixF (wd (σ.1 h) a n) := by unfold mixF; rw [wd_len, e5, hkn]
      rw [e7, e6, hkn, ← e4]; exact hK
    · refine absurd (show x4 ≤ x6 from ?_) c
      rw [e4, e6]; exact nI_le (by omega) (by omega)
  | succ f ih =>
    intro k x5 x6 hk e6 e5
    have v2 : vp_in (x2 + x6) M := by rw [e2, e6, nI_add]; exact vp_in_nI (by omega) (by omega)
    have c2 : (x2 + x6).toNatClampNeg = a + k := by rw [e2, e6, nI_add]; exact nI_clamp (by omega)
    refine kjZ_y rfl rfl 3 _ _ _ _ ty ?_
    refine And.intro (fun c => ?_) (fun c => ?_)
    · refine absurd (show x4 ≤ x6 from c) ?_
      rw [e4, e6]; exact nI_ge (by omega) (by omega)
    · refine kjZ_y rfl rfl 12 _ _ _ _ ty ?_
      refine (Or.inl (And.intro (kdk kh) (And.intro (kdv kh v2) (And.intro (Nat.le_of_ble_eq_true rfl) ?_))))
      refine ih (k + 1) _ _ (by omega) (by rw [e6]; exact nI_1 k) ?_
      rw [wd_snoc, List.foldl_append, ← e5]
      show _ = 31 * x5 + σ.1 h (a + k)
      rw [c2]; rfl
end KWRD2
