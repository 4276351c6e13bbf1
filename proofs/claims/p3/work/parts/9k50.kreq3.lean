/-! Request: integers, spans, sums, over the world of a command. -/
def scB : List (Nat × Nat) := [(53, 8), (53, 10), (53, 11), (53, 12), (53, 13), (53, 14), (53, 15), (53, 16), (59, 16), (59, 17), (59, 18), (67, 3), (67, 4), (67, 5), (67, 6), (75, 3), (75, 4), (75, 5), (75, 6), (75, 7), (75, 8)]
def scC : List (Nat × Nat) := [(53, 8), (53, 11), (53, 12), (53, 13), (53, 14), (53, 15), (53, 16), (59, 16), (59, 17), (59, 18), (67, 3), (67, 4), (67, 5), (67, 6), (75, 3), (75, 4), (75, 5), (75, 6), (75, 7), (75, 8)]
def scD : List (Nat × Nat) := [(53, 8), (53, 9), (53, 10), (53, 13), (53, 14), (53, 15), (53, 16), (59, 16), (59, 17), (59, 18), (67, 3), (67, 4), (67, 5), (67, 6), (75, 3), (75, 4), (75, 5), (75, 6), (75, 7), (75, 8)]
theorem scBA : ∀ p ∈ scB, p ∈ scA := by decide +kernel
theorem scCB : ∀ p ∈ scC, p ∈ scB := by decide +kernel
theorem scDA : ∀ p ∈ scD, p ∈ scA := by decide +kernel
theorem scP : ∀ p ∈ scA, p.1 < 76 ∧ (kd0 p.1).1 < 20 := by decide +kernel
section KREQ3
variable {Y : Nat → MethodName × ByteArray} {d : Nat} {σ0 σ u : kS} {B ws nm : List (List Int32)} {ks : List KC}
theorem SCl.l {l : List (Nat × Nat)} {h x : Nat} {v : Int64} (hn : ¬ (h, x) ∈ l) : SCl l σ (σ.1, mjLu σ.2.1 h x v, σ.2.2) := fun p hp => ⟨rfl, by
  show mjLu σ.2.1 h x v p.1 p.2 = _
  rw [mjLu_at, if_neg (fun z => hn (by rw [← z.1, ← z.2]; exact hp))], rfl⟩
theorem SCl.i {l : List (Nat × Nat)} {h x : Nat} {v : Int32} (hn : ¬ (h, x) ∈ l) : SCl l σ (mjIu σ.1 h x v, σ.2) := fun p hp => ⟨by
  show mjIu σ.1 h x v p.1 p.2 = _
  rw [mjIu_at, if_neg (fun z => hn (by rw [← z.1, ← z.2]; exact hp))], rfl, rfl⟩
/-- an integer has been read, or what is wrong is told -/
def liP (σ0 : kS) (B : List (List Int32)) (σ : kS) (ws nm : List (List Int32)) (ks : List KC) (o : Option Int64) : kK := fun r u => KWd σ0 B u ws nm ks ∧ SCl scB σ u ∧ ((∃ z, o = some z ∧ r = some (.int 0) ∧ u.2.1 53 9 = z) ∨ (o = none ∧ r = some (.int 1)))
theorem kx_lacksInteger (ty : kTY σ) (w : KWd σ0 B σ ws nm ks) {i : Nat} {v : List Int32} (hv : ws[i]? = some v) (x : Int32) (ex : x = nI i) : kjY kPP (kQQ Y) (d + 1) 106 0 (mjL0 2 [.ref 53, .int x]) [] σ (liP σ0 B σ ws nm ks (intF v)) := by
  obtain ⟨g, M, a, h1, h2, h3, h4, h4', h5, h6, h7, h8⟩ := w.arg hv
  have vx : vp_in x 1024 := by rw [ex]; exact vp_in_nI (by omega) (by decide)
  have cx : x.toNatClampNeg = i := by rw [ex]; exact nI_clamp (by omega)
  refine kjZ_y rfl rfl 2 _ _ _ _ ty ?_
  refine And.intro (fun c => ?_) (fun c => ?_)
  · exact absurd (show x < 0 from c) (by rw [ex]; exact nI_n0 (by omega))
  refine kjZ_y rfl rfl 4 _ _ _ _ ty ?_
  refine (And.intro (ty.k (by decide) rfl) (And.intro (fun c2 => ?_) (fun c2 => ?_)))
  · refine absurd (show σ.1 53 4 ≤ x from c2) ?_
    rw [h3, ex, nle (by omega) (by omega)]; omega
  refine kjZ_y rfl rfl 12 _ _ _ _ ty ?_
  refine (And.intro (ty.k (by decide) rfl) (Exists.intro _ (And.intro h1.1 (And.intro (ty.k (by decide) rfl) (Or.inl (And.intro (ty.k (by decide) rfl) (And.intro (kdw ty (by decide) rfl vx) (And.intro (ty.k (by decide) rfl) (Or.inl (And.intro (ty.k (by decide) rfl) (And.intro (kdw ty (by decide) rfl vx) (And.intro (Nat.le_of_ble_eq_true rfl) (And.intro (Or.inl ⟨(Nat.le_of_ble_eq_true rfl), (ty.k (by decide) rfl)⟩) (And.intro (Nat.le_of_ble_eq_true rfl) (And.intro (Nat.le_of_ble_eq_true rfl) (kjY_mono ty (fun q_ u1 ty1 xu1 h_ => ?_) (k_parse ty h1.2.1 h1.2.2 h7 _ _ (by rw [cx]; exact h5) (by rw [cx]; exact h6))))))))))))))))))
  have q1 := h_
  intro _ _
  rw [h8] at q1
  cases e : intF v with
  | some z =>
    rw [e] at q1
    obtain ⟨rfl, eu⟩ := q1
    refine kjZ_y rfl rfl 1 _ _ _ _ ty1 ?_
    refine And.intro (fun c3 => ?_) (fun c3 => ?_)
    · exact absurd (show (1 : Int32) = 0 from c3) (by decide)
    refine kjZ_y rfl rfl 2 _ _ _ _ ty1 ?_
    refine And.intro rfl (And.intro (Or.inr (Or.inl ⟨rfl, Or.inl rfl⟩)) ?_)
    subst eu
    refine ⟨w.pl ty (by decide), SCl.l (by decide +kernel), Or.inl ⟨z, rfl, rfl, ?_⟩⟩
    show mjLu σ.2.1 53 9 z 53 9 = z
    rw [mjLu_p]
  | none =>
    rw [e] at q1
    obtain ⟨rfl, rfl⟩ := q1
    refine kjZ_y rfl rfl 1 _ _ _ _ ty1 ?_
    refine And.intro (fun c3 => ?_) (fun c3 => ?_)
    rotate_left
    · exact absurd rfl c3
    refine kjZ_y rfl rfl 3 _ _ _ _ ty1 ?_
    refine (And.intro rfl (And.intro (Nat.le_of_ble_eq_true rfl) (And.intro (Or.inl ⟨(Nat.le_of_ble_eq_true rfl), (ty1.k (by decide) rfl)⟩) (And.intro (Nat.le_of_ble_eq_true rfl) (And.intro (Nat.le_of_ble_eq_true rfl) (kjY_mono ty1 (fun q_ u2 ty2 xu2 h_ => ?_) (kx_refuse ty1 w (by decide))))))))
    obtain ⟨rfl, w2, s2⟩ := h_
    intro _ _
    refine kjZ_y rfl rfl 2 _ _ _ _ ty2 ?_
    refine And.intro rfl (And.intro (Or.inr (Or.inl ⟨rfl, Or.inr rfl⟩)) ?_)
    exact ⟨w2, s2.sub scBA, Or.inr ⟨rfl, rfl⟩⟩
/-- two integers -/
def lsP (σ0 : kS) (B : List (List Int32)) (σ : kS) (ws nm : List (List Int32)) (ks : List KC) (o : Option (Int64 × Int64)) : kK := fun r u => KWd σ0 B u ws nm ks ∧ SCl scC σ u ∧ ((∃ a b, o = some (a, b) ∧ r = some (.int 0) ∧ u.2.1 53 10 = a ∧ u.2.1 53 9 = b) ∨ (o = none ∧ r = some (.int 1)))
theorem kx_lacksSpan (ty : kTY σ) (w : KWd σ0 B σ ws nm ks) {i : Nat} {v v2 : List Int32} (hv : ws[i]? = some v) (hv2 : ws[i + 1]? = some v2) (x : Int32) (ex : x = nI i) : kjY kPP (kQQ Y) (d + 2) 107 0 (mjL0 2 [.ref 53, .int x]) [] σ (lsP σ0 B σ ws nm ks (twF v v2)) := by
  refine kjZ_y rfl rfl 3 _ _ _ _ ty ?_
  refine (And.intro (Nat.le_of_ble_eq_true rfl) (And.intro (Or.inl ⟨(Nat.le_of_ble_eq_true rfl), (ty.k (by decide) rfl)⟩) (And.intro (Nat.le_of_ble_eq_true rfl) (And.intro (Nat.le_of_ble_eq_true rfl) (kjY_mono ty (fun q_ u1 ty1 xu1 h_ => ?_) (kx_lacksInteger ty w hv x ex))))))
  obtain ⟨w1, s1, q1⟩ := h_
  intro _ _
  rcases q1 with ⟨z, e1, rfl, e2⟩ | ⟨e1, rfl⟩
  · refine kjZ_y rfl rfl 1 _ _ _ _ ty1 ?_
    refine And.intro (fun c => ?_) (fun c => ?_)
    rotate_left
    · exact absurd rfl c
    refine kjZ_y rfl rfl 4 _ _ _ _ ty1 ?_
    refine (And.intro (ty1.k (by decide) rfl) (And.intro (ty1.k (by decide) rfl) (And.intro rfl (fun ty1' => ?_))))
    have go : ∀ u2, kTY u2 → KWd σ0 B u2 ws nm ks → SCl scC σ u2 → u2.2.1 53 10 = z → kjY kPP (kQQ Y) (d + 2) 107 10 [some (.ref 53), some (.int x)] [] u2 (lsP σ0 B σ ws nm ks (twF v v2)) := by
      intro u2 ty2 w2 s2 e3
      refine kjZ_y rfl rfl 5 _ _ _ _ ty2 ?_
      refine (And.intro (Nat.le_of_ble_eq_true rfl) (And.intro (Or.inl ⟨(Nat.le_of_ble_eq_true rfl), (ty2.k (by decide) rfl)⟩) (And.intro (Nat.le_of_ble_eq_true rfl) (And.intro (Nat.le_of_ble_eq_true rfl) (kjY_mono ty2 (fun q_ u3 ty3 xu3 h_ => ?_) (kx_lacksInteger ty2 w2 hv2 _ (by rw [ex]; exact nI_1 i)))))))
      obtain ⟨w3, s3, q3⟩ := h_
      intro _ _
      have s13 : SCl scC σ u3 := s2.tr (s3.sub scCB)
      have e4 : u3.2.1 53 10 = z := ((s3 (53, 10) (by decide)).2.1).trans e3
      rcases q3 with ⟨z2, f1, rfl, f2⟩ | ⟨f1, rfl⟩
      · refine kjZ_y rfl rfl 1 _ _ _ _ ty3 ?_
        refine And.intro rfl (And.intro (Or.inr (Or.inl ⟨rfl, Or.inl rfl⟩)) ?_)
        exact ⟨w3, s13, Or.inl ⟨z, z2, by unfold twF; rw [e1, f1]; rfl, rfl, e4, f2⟩⟩
      · refine kjZ_y rfl rfl 1 _ _ _ _ ty3 ?_
        refine And.intro rfl (And.intro (Or.inr (Or.inl ⟨rfl, Or.inr rfl⟩)) ?_)
        exact ⟨w3, s13, Or.inr ⟨by unfold twF; rw [e1, f1]; rfl, rfl⟩⟩
    refine go _ ty1' (w1.pl ty1 (by decide)) ((s1.sub scCB).tr (SCl.l (by decide +kernel))) ?_
    show mjLu u1.2.1 53 10 (u1.2.1 53 9) 53 10 = z
    rw [mjLu_p]; exact e2
  · refine kjZ_y rfl rfl 1 _ _ _ _ ty1 ?_
    refine And.intro (fun c => ?_) (fun c => ?_)
    · exact absurd (show (1 : Int32) = 0 from c) (by decide)
    refine kjZ_y rfl rfl 2 _ _ _ _ ty1 ?_
    refine And.intro rfl (And.intro (Or.inr (Or.inl ⟨rfl, Or.inr rfl⟩)) ?_)
    exact ⟨w1, s1.sub scCB, Or.inr ⟨by unfold twF; rw [e1]; rfl, rfl⟩⟩
theorem k_maxL (ty : kTY σ) (a b : Int64) : kjY kPP (kQQ Y) d 302 0 (mjL0 4 [.long a, .long b]) [] σ (fun r u => u = σ ∧ r = some (.long (if a < b then b else a))) := by
  refine kjZ_y rfl rfl 4 _ _ _ _ ty ?_
  refine And.intro (fun c => ?_) (fun c => ?_)
  · refine kjZ_y rfl rfl 2 _ _ _ _ ty ?_
    refine And.intro rfl (And.intro rfl ?_)
    exact ⟨rfl, by rw [if_pos ((lg_cmp_lt _ _).mp c)]⟩
  · refine kjZ_y rfl rfl 3 _ _ _ _ ty ?_
    refine And.intro rfl (And.intro rfl ?_)
    exact ⟨rfl, by rw [if_neg (fun z => c ((lg_cmp_lt _ _).mpr z))]⟩
theorem k_minL (ty : kTY σ) (a b : Int64) : kjY kPP (kQQ Y) d 303 0 (mjL0 4 [.long a, .long b]) [] σ (fun r u => u = σ ∧ r = some (.long (if b < a then b else a))) := by
  refine kjZ_y rfl rfl 4 _ _ _ _ ty ?_
  refine And.intro (fun c => ?_) (fun c => ?_)
  · refine kjZ_y rfl rfl 2 _ _ _ _ ty ?_
    refine And.intro rfl (And.intro rfl ?_)
    exact ⟨rfl, by rw [if_pos ((lg_cmp_gt _ _).mp c)]⟩
  · refine kjZ_y rfl rfl 3 _ _ _ _ ty ?_
    refine And.intro rfl (And.intro rfl ?_)
    exact ⟨rfl, by rw [if_neg (fun z => c ((lg_cmp_gt _ _).mpr z))]⟩
theorem nI_64 {n : Nat} (h : n < 2 ^ 31) : (nI n).toInt64 = lN n := by
  apply Int64.toInt_inj.mp
  rw [Int32.toInt_toInt64, nI_toInt h, pk_lT (by omega)]
theorem lN_32 {n : Nat} (h : n < 2 ^ 31) : (lN n).toInt32 = nI n := by rw [← nI_64 h]; exact Int32.toInt32_toInt64 _
/-- the span is cut -/
theorem kx_cutSpan (ty : kTY σ) (w : KWd σ0 B σ ws nm ks) {n : Nat} (hn : n < 2 ^ 30) (x : Int32) (ex : x = nI n) : kjY kPP (kQQ Y) (d + 1) 108 0 (mjL0 6 [.ref 53, .int x]) [] σ (fun r u => r = none ∧ KWd σ0 B u ws nm ks ∧ SCl scD σ u ∧ ∃ lo hi, u.1 53 11 = nI lo ∧ u.1 53 12 = nI hi ∧ lo ≤ hi ∧ hi ≤ n ∧ (strF (σ.2.1 53 10) (σ.2.1 53 9) n = (lo, hi) ∨ (lo = hi ∧ strF (σ.2.1 53 10) (σ.2.1 53 9) n = (0, 0)))) := by
  have en : x.toInt64 = lN n := by rw [ex]; exact nI_64 (by omega)
  have hlN : (lN n).toInt = n := pk_lT (by omega)
  -- from the two ends on
  have fin : ∀ f t : Int64, f = sI (σ.2.1 53 10) (lN n) → t = sI (σ.2.1 53 9) (lN n) → kjY kPP (kQQ Y) (d + 1) 108 28 [some (.ref 53), some (.int x), some (.long f), none, some (.long t), none] [] σ (fun r u => r = none ∧ KWd σ0 B u ws nm ks ∧ SCl scD σ u ∧ ∃ lo hi, u.1 53 11 = nI lo ∧ u.1 53 12 = nI hi ∧ lo ≤ hi ∧ hi ≤ n ∧ (strF (σ.2.1 53 10) (σ.2.1 53 9) n = (lo, hi) ∨ (lo = hi ∧ strF (σ.2.1 53 10) (σ.2.1 53 9) n = (0, 0)))) := by
    intro f t ef et
    refine kjZ_y rfl rfl 4 _ _ _ _ ty ?_
    refine (And.intro (Nat.le_of_ble_eq_true rfl) (And.intro (Nat.le_of_ble_eq_true rfl) (And.intro (Nat.le_of_ble_eq_true rfl) (kjY_mono ty (fun q_ u1 ty1 xu1 h_ => ?_) (k_maxL ty _ _)))))
    obtain ⟨rfl, rfl⟩ := h_
    intro _ _
    refine kjZ_y rfl rfl 3 _ _ _ _ ty1 ?_
    refine (And.intro (Nat.le_of_ble_eq_true rfl) (And.intro (Nat.le_of_ble_eq_true rfl) (And.intro (Nat.le_of_ble_eq_true rfl) (kjY_mono ty1 (fun q_ u2 ty2 xu2 h_ => ?_) (k_minL ty1 _ _)))))
    obtain ⟨rfl, rfl⟩ := h_
    intro _ _
    have e1 : (if f < Int64.ofNat 0 then Int64.ofNat 0 else f) = sI2 (u2.2.1 53 10) (lN n) := by unfold sI2; rw [← ef]; rfl
    obtain ⟨lo, elo, hlo1, hlo2⟩ : ∃ lo, (if x.toInt64 < (if f < Int64.ofNat 0 then Int64.ofNat 0 else f) then x.toInt64 else (if f < Int64.ofNat 0 then Int64.ofNat 0 else f)) = lN lo ∧ lo ≤ n ∧ (lo < n → sI2 (u2.2.1 53 10) (lN n) = lN lo) ∧ (lo = n → ¬ sI2 (u2.2.1 53 10) (lN n) < lN n) := by
      rw [e1, en]
      have i0 : ¬ sI2 (u2.2.1 53 10) (lN n) < 0 := by
        unfold sI2
        by_cases z : sI (u2.2.1 53 10) (lN n) < 0
        · rw [if_pos z]; decide
        · rw [if_neg z]; exact z
      obtain ⟨q, hq, eq⟩ := pk_lOf i0
      by_cases z : lN n < sI2 (u2.2.1 53 10) (lN n)
      · rw [if_pos z]
        exact ⟨n, rfl, Nat.le_refl _, fun y => absurd y (Nat.lt_irrefl n), fun _ => Int64.not_lt.mpr (Int64.le_of_lt z)⟩
      · rw [if_neg z]
        have hqn : q ≤ n := by
          have z := Int64.le_iff_toInt_le.mp (Int64.not_lt.mp z)
          rw [eq, hlN, pk_lT (by omega)] at z; omega
        exact ⟨q, eq, hqn, fun _ => eq, fun y => by rw [eq, y]; exact fun z => Int64.lt_irrefl z⟩
    refine kjZ_y rfl rfl 2 _ _ _ _ ty2 ?_
    refine (And.intro (ty2.k (by decide) rfl) (And.intro (Or.inl rfl) (fun ty2' => ?_)))
    have go : ∀ u3, kTY u3 → u3 = (mjIu u2.1 53 11 (if x.toInt64 < (if f < Int64.ofNat 0 then Int64.ofNat 0 else f) then x.toInt64 else (if f < Int64.ofNat 0 then Int64.ofNat 0 else f)).toInt32, u2.2) → kjY kPP (kQQ Y) (d + 1) 108 37 [some (.ref 53), some (.int x), some (.long f), none, some (.long t), none] [] u3 (fun r u => r = none ∧ KWd σ0 B u ws nm ks ∧ SCl scD u2 u ∧ ∃ lo hi, u.1 53 11 = nI lo ∧ u.1 53 12 = nI hi ∧ lo ≤ hi ∧ hi ≤ n ∧ (strF (u2.2.1 53 10) (u2.2.1 53 9) n = (lo, hi) ∨ (lo = hi ∧ strF (u2.2.1 53 10) (u2.2.1 53 9) n = (0, 0)))) := by
      intro u3 ty3 eu3
      rw [elo, lN_32 (by omega)] at eu3
      have w3 : KWd σ0 B u3 ws nm ks := by rw [eu3]; exact w.pi ty2 (by decide)
      have s3 : SCl scD u2 u3 := by rw [eu3]; exact SCl.i (by decide +kernel)
      have f11 : u3.1 53 11 = nI lo := by rw [eu3]; show mjIu u2.1 53 11 (nI lo) 53 11 = _; exact mjIu_p
      refine kjZ_y rfl rfl 7 _ _ _ _ ty3 ?_
      refine (And.intro (Nat.le_of_ble_eq_true rfl) (And.intro (Nat.le_of_ble_eq_true rfl) (And.intro (Nat.le_of_ble_eq_true rfl) (kjY_mono ty3 (fun q_ u4 ty4 xu4 h_ => ?_) (k_minL ty3 _ _)))))
      obtain ⟨rfl, rfl⟩ := h_
      intro _ _
      refine kjZ_y rfl rfl 6 _ _ _ _ ty4 ?_
      refine (And.intro (ty4.k (by decide) rfl) (And.intro (Nat.le_of_ble_eq_true rfl) (And.intro (Nat.le_of_ble_eq_true rfl) (And.intro (Nat.le_of_ble_eq_true rfl) (kjY_mono ty4 (fun q_ u5 ty5 xu5 h_ => ?_) (k_maxL ty4 _ _))))))
      obtain ⟨rfl, rfl⟩ := h_
      intro _ _
      have e11 : (u5.1 53 11).toInt64 = lN lo := by rw [f11]; exact nI_64 (by omega)
      have e2 : (if x.toInt64 - Int64.ofNat 1 < t then x.toInt64 - Int64.ofNat 1 else t) = sJ2 (u2.2.1 53 9) (lN n) := by unfold sJ2; rw [← et, en]; rfl
      obtain ⟨hi, ehi, hh1, hh2, hh3⟩ : ∃ hi, (if (if x.toInt64 - Int64.ofNat 1 < t then x.toInt64 - Int64.ofNat 1 else t) + Int64.ofNat 1 < (u5.1 53 11).toInt64 then (u5.1 53 11).toInt64 else (if x.toInt64 - Int64.ofNat 1 < t then x.toInt64 - Int64.ofNat 1 else t) + Int64.ofNat 1) = lN hi ∧ lo ≤ hi ∧ hi ≤ n ∧ (strF (u2.2.1 53 10) (u2.2.1 53 9) n = (lo, hi) ∨ (lo = hi ∧ strF (u2.2.1 53 10) (u2.2.1 53 9) n = (0, 0))) := by
        rw [e2, e11]
        have hs1 : (lN n - 1).toInt = (n : Int) - 1 := by
          rw [Int64.toInt_sub, hlN, show ((1 : Int64)).toInt = 1 by decide]
          exact Int.bmod_eq_of_le (by omega) (by omega)
        have hj : (sJ2 (u2.2.1 53 9) (lN n)).toInt ≤ (n : Int) - 1 := by
          unfold sJ2
          by_cases z : lN n - 1 < sI (u2.2.1 53 9) (lN n)
          · rw [if_pos z, hs1]; exact Int.le_refl _
          · rw [if_neg z]; have := Int64.le_iff_toInt_le.mp (Int64.not_lt.mp z); rw [hs1] at this; exact this
        have hj2 := Int64.le_toInt (sJ2 (u2.2.1 53 9) (lN n))
        have es : (sJ2 (u2.2.1 53 9) (lN n) + Int64.ofNat 1).toInt = (sJ2 (u2.2.1 53 9) (lN n)).toInt + 1 := by
          rw [Int64.toInt_add, show (Int64.ofNat 1).toInt = 1 by decide]
          exact Int.bmod_eq_of_le (by omega) (by omega)
        have hlo : (lN lo).toInt = lo := pk_lT (by omega)
        rcases str_cases (u2.2.1 53 10) (u2.2.1 53 9) n (by omega) with ⟨k1, k2⟩ | ⟨p, q, k1, k2, k3, k4, k5, k6⟩
        · refine ⟨lo, ?_, Nat.le_refl _, hlo1, Or.inr ⟨rfl, k2⟩⟩
          have k1 := Int64.lt_iff_toInt_lt.mp k1
          by_cases y : lo < n
          · rw [hlo2.1 y, hlo] at k1
            by_cases z : sJ2 (u2.2.1 53 9) (lN n) + Int64.ofNat 1 < lN lo
            · rw [if_pos z]
            · rw [if_neg z]
              apply Int64.toInt_inj.mp
              have z := Int64.le_iff_toInt_le.mp (Int64.not_lt.mp z)
              rw [es, hlo] at z ⊢; omega
          · by_cases z : sJ2 (u2.2.1 53 9) (lN n) + Int64.ofNat 1 < lN lo
            · rw [if_pos z]
            · rw [if_neg z]
              apply Int64.toInt_inj.mp
              have z := Int64.le_iff_toInt_le.mp (Int64.not_lt.mp z)
              rw [es, hlo] at z ⊢; omega
        · have hpl : p = lo := by
            by_cases y : lo < n
            · have e := (k1.symm.trans (hlo2.1 y))
              have e := congrArg Int64.toInt e
              rw [pk_lT (by omega), hlo] at e; omega
            · exfalso
              have e := hlo2.2 (by omega)
              rw [k1, Int64.lt_iff_toInt_lt, hlN, pk_lT (by omega)] at e; omega
          refine ⟨q + 1, ?_, by omega, by omega, Or.inl (by rw [k5, hpl])⟩
          have hq : (lN q).toInt = q := pk_lT (by omega)
          rw [if_neg]
          · apply Int64.toInt_inj.mp
            rw [es, k2, hq, pk_lT (by omega)]; omega
          · rw [Int64.lt_iff_toInt_lt, es, k2, hq, hlo]; omega
      refine kjZ_y rfl rfl 2 _ _ _ _ ty5 ?_
      refine (And.intro (ty5.k (by decide) rfl) (And.intro (Or.inl rfl) (fun ty5' => ?_)))
      have go2 : ∀ u6, kTY u6 → u6 = (mjIu u5.1 53 12 (if (if x.toInt64 - Int64.ofNat 1 < t then x.toInt64 - Int64.ofNat 1 else t) + Int64.ofNat 1 < (u5.1 53 11).toInt64 then (u5.1 53 11).toInt64 else (if x.toInt64 - Int64.ofNat 1 < t then x.toInt64 - Int64.ofNat 1 else t) + Int64.ofNat 1).toInt32, u5.2) → kjY kPP (kQQ Y) (d + 1) 108 52 [some (.ref 53), some (.int x), some (.long f), none, some (.long t), none] [] u6 (fun r u => r = none ∧ KWd σ0 B u ws nm ks ∧ SCl scD u2 u ∧ ∃ lo hi, u.1 53 11 = nI lo ∧ u.1 53 12 = nI hi ∧ lo ≤ hi ∧ hi ≤ n ∧ (strF (u2.2.1 53 10) (u2.2.1 53 9) n = (lo, hi) ∨ (lo = hi ∧ strF (u2.2.1 53 10) (u2.2.1 53 9) n = (0, 0)))) := by
        intro u6 ty6 eu6
        rw [ehi, lN_32 (by omega)] at eu6
        refine kjZ_y rfl rfl 1 _ _ _ _ ty6 ?_
        refine And.intro rfl (And.intro rfl ?_)
        refine ⟨rfl, by rw [eu6]; exact w3.pi ty5 (by decide), s3.tr (by rw [eu6]; exact SCl.i (by decide +kernel)), lo, hi, ?_, ?_, hh1, hh2, hh3⟩
        · rw [eu6]; show mjIu u5.1 53 12 (nI hi) 53 11 = _; rw [mjIu_q (by decide)]; exact f11
        · rw [eu6]; show mjIu u5.1 53 12 (nI hi) 53 12 = _; exact mjIu_p
      exact go2 _ ty5' rfl
    exact go _ ty2' rfl
  have second : ∀ f : Int64, f = sI (σ.2.1 53 10) (lN n) → kjY kPP (kQQ Y) (d + 1) 108 14 [some (.ref 53), some (.int x), some (.long f), none, none, none] [] σ (fun r u => r = none ∧ KWd σ0 B u ws nm ks ∧ SCl scD σ u ∧ ∃ lo hi, u.1 53 11 = nI lo ∧ u.1 53 12 = nI hi ∧ lo ≤ hi ∧ hi ≤ n ∧ (strF (σ.2.1 53 10) (σ.2.1 53 9) n = (lo, hi) ∨ (lo = hi ∧ strF (σ.2.1 53 10) (σ.2.1 53 9) n = (0, 0)))) := by
    intro f ef
    refine kjZ_y rfl rfl 5 _ _ _ _ ty ?_
    refine (And.intro (ty.k (by decide) rfl) (And.intro (fun c => ?_) (fun c => ?_)))
    · have c : ¬ σ.2.1 53 9 < 0 := Int64.not_lt.mpr ((lg_cmp_ge _ _).mp c)
      refine kjZ_y rfl rfl 3 _ _ _ _ ty ?_
      refine (And.intro (ty.k (by decide) rfl) (And.intro (Nat.le_of_ble_eq_true rfl) ?_))
      refine fin f _ ef ?_
      unfold sI; rw [if_neg c]
    · have c : σ.2.1 53 9 < 0 := Int64.not_le.mp (fun z => c ((lg_cmp_ge _ _).mpr z))
      refine kjZ_y rfl rfl 7 _ _ _ _ ty ?_
      refine (And.intro (ty.k (by decide) rfl) (And.intro (Nat.le_of_ble_eq_true rfl) ?_))
      refine fin f _ ef ?_
      unfold sI; rw [if_pos c, ← en]
  refine kjZ_y rfl rfl 5 _ _ _ _ ty ?_
  refine (And.intro (ty.k (by decide) rfl) (And.intro (fun c => ?_) (fun c => ?_)))
  · have c : ¬ σ.2.1 53 10 < 0 := Int64.not_lt.mpr ((lg_cmp_ge _ _).mp c)
    refine kjZ_y rfl rfl 3 _ _ _ _ ty ?_
    refine (And.intro (ty.k (by decide) rfl) (And.intro (Nat.le_of_ble_eq_true rfl) ?_))
    refine second _ ?_
    unfold sI; rw [if_neg c]
  · have c : σ.2.1 53 10 < 0 := Int64.not_le.mp (fun z => c ((lg_cmp_ge _ _).mpr z))
    refine kjZ_y rfl rfl 7 _ _ _ _ ty ?_
    refine (And.intro (ty.k (by decide) rfl) (And.intro (Nat.le_of_ble_eq_true rfl) ?_))
    refine second _ ?_
    unfold sI; rw [if_pos c, ← en]
/-- a sum, or a difference; beyond 64 bits it is told -/
def ovW (less : Bool) (a b : Int64) : Int64 := if less = true then (a ^^^ b) &&& (a ^^^ (a - b)) else (a ^^^ (a + b)) &&& (b ^^^ (a + b))
def ovS (less : Bool) (a b : Int64) : Int64 := if less = true then a - b else a + b
theorem kx_overflows (ty : kTY σ) (w : KWd σ0 B σ ws nm ks) (b : Int64) (less : Bool) (x : Int32) (ex : x = if less = true then 1 else 0) : kjY kPP (kQQ Y) (d + 1) 111 0 (mjL0 8 [.ref 53, .long b, .int x]) [] σ (fun r u => KWd σ0 B u ws nm ks ∧ SCl scB σ u ∧ ((ovW less (σ.2.1 53 9) b < 0 ∧ r = some (.int 1)) ∨ ((¬ ovW less (σ.2.1 53 9) b < 0) ∧ r = some (.int 0) ∧ u.2.1 53 9 = ovS less (σ.2.1 53 9) b))) := by
  have fin : kjY kPP (kQQ Y) (d + 1) 111 33 [some (.ref 53), some (.long b), none, some (.int x), some (.long (ovS less (σ.2.1 53 9) b)), none, some (.long (ovW less (σ.2.1 53 9) b)), none] [] σ (fun r u => KWd σ0 B u ws nm ks ∧ SCl scB σ u ∧ ((ovW less (σ.2.1 53 9) b < 0 ∧ r = some (.int 1)) ∨ ((¬ ovW less (σ.2.1 53 9) b < 0) ∧ r = some (.int 0) ∧ u.2.1 53 9 = ovS less (σ.2.1 53 9) b))) := by
    refine kjZ_y rfl rfl 4 _ _ _ _ ty ?_
    refine And.intro (fun c => ?_) (fun c => ?_)
    · have c := Int64.not_lt.mpr ((lg_cmp_ge _ _).mp c)
      refine kjZ_y rfl rfl 5 _ _ _ _ ty ?_
      refine (And.intro (ty.k (by decide) rfl) (And.intro rfl (fun ty' => And.intro rfl (And.intro (Or.inr (Or.inl ⟨rfl, Or.inl rfl⟩)) ?_))))
      refine ⟨w.pl ty (by decide), SCl.l (by decide +kernel), Or.inr ⟨c, rfl, ?_⟩⟩
      show mjLu σ.2.1 53 9 (ovS less (σ.2.1 53 9) b) 53 9 = _
      exact mjLu_p
    · have c := Int64.not_le.mp (fun z => c ((lg_cmp_ge _ _).mpr z))
      refine kjZ_y rfl rfl 3 _ _ _ _ ty ?_
      refine (And.intro rfl (And.intro (Nat.le_of_ble_eq_true rfl) (And.intro (Or.inl ⟨(Nat.le_of_ble_eq_true rfl), (ty.k (by decide) rfl)⟩) (And.intro (Nat.le_of_ble_eq_true rfl) (And.intro (Nat.le_of_ble_eq_true rfl) (kjY_mono ty (fun q_ u2 ty2 xu2 h_ => ?_) (kx_refuse ty w (by decide))))))))
      obtain ⟨rfl, w2, s2⟩ := h_
      intro _ _
      refine kjZ_y rfl rfl 2 _ _ _ _ ty2 ?_
      refine And.intro rfl (And.intro (Or.inr (Or.inl ⟨rfl, Or.inr rfl⟩)) ?_)
      exact ⟨w2, s2.sub scBA, Or.inl ⟨c, rfl⟩⟩
  cases less with
  | true =>
    refine kjZ_y rfl rfl 2 _ _ _ _ ty ?_
    refine And.intro (fun c => ?_) (fun c => ?_)
    · exact absurd (show x = 0 from c) (by rw [ex]; decide)
    refine kjZ_y rfl rfl 8 _ _ _ _ ty ?_
    refine (And.intro (ty.k (by decide) rfl) (And.intro (Nat.le_of_ble_eq_true rfl) (And.intro (fun c2 => ?_) (fun c2 => ?_))))
    · exact absurd (show x = 0 from c2) (by rw [ex]; decide)
    refine kjZ_y rfl rfl 11 _ _ _ _ ty ?_
    refine (And.intro (ty.k (by decide) rfl) (And.intro (ty.k (by decide) rfl) (And.intro (Nat.le_of_ble_eq_true rfl) ?_)))
    exact fin
  | false =>
    have x0 : x = 0 := by rw [ex]; rfl
    refine kjZ_y rfl rfl 2 _ _ _ _ ty ?_
    refine And.intro (fun c => ?_) (fun c => ?_)
    · refine kjZ_y rfl rfl 7 _ _ _ _ ty ?_
      refine (And.intro (ty.k (by decide) rfl) (And.intro (Nat.le_of_ble_eq_true rfl) (And.intro (fun c2 => ?_) (fun c2 => ?_))))
      · refine kjZ_y rfl rfl 9 _ _ _ _ ty ?_
        refine (And.intro (ty.k (by decide) rfl) (And.intro (Nat.le_of_ble_eq_true rfl) ?_))
        exact fin
      · exact absurd x0 c2
    · exact absurd x0 c
end KREQ3
