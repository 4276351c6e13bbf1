/-! stretch, many, at; LTRIM and LSET. -/
section STR
variable {Y : Nat → MethodName × ByteArray} {d : Nat}
def sI (i n : Int64) : Int64 := if i < 0 then i + n else i
def sI2 (i n : Int64) : Int64 := if sI i n < 0 then 0 else sI i n
def sJ2 (j n : Int64) : Int64 := if n - 1 < sI j n then n - 1 else sI j n
def strF (i j : Int64) (N : Nat) : Nat × Nat := if sJ2 j (lN N) < sI2 i (lN N) then (0, 0) else ((sI2 i (lN N)).toInt.toNat, (sJ2 j (lN N)).toInt.toNat + 1)
theorem str_cases (i j : Int64) (N : Nat) (hN : N < 2 ^ 31) : (sJ2 j (lN N) < sI2 i (lN N) ∧ strF i j N = (0, 0)) ∨ ∃ a b : Nat, sI2 i (lN N) = lN a ∧ sJ2 j (lN N) = lN b ∧ a ≤ b ∧ b < N ∧ strF i j N = (a, b + 1) ∧ ¬ sJ2 j (lN N) < sI2 i (lN N) := by
  by_cases c : sJ2 j (lN N) < sI2 i (lN N)
  · exact Or.inl ⟨c, if_pos c⟩
  · refine Or.inr ?_
    have i0 : ¬ sI2 i (lN N) < 0 := by
      unfold sI2
      by_cases z : sI i (lN N) < 0
      · rw [if_pos z]; decide
      · rw [if_neg z]; exact z
    have ij := Int64.not_lt.mp c
    have j0 : ¬ sJ2 j (lN N) < 0 := fun z => i0 (Int64.lt_of_le_of_lt ij z)
    obtain ⟨a, ha, ea⟩ := pk_lOf i0
    obtain ⟨b, hb, eb⟩ := pk_lOf j0
    have jn : sJ2 j (lN N) ≤ lN N - 1 := by
      unfold sJ2
      by_cases z : lN N - 1 < sI j (lN N)
      · rw [if_pos z]; exact Int64.le_refl _
      · rw [if_neg z]; exact Int64.not_lt.mp z
    have N0 : N ≠ 0 := by
      intro z
      have zz : lN N - 1 < 0 := by rw [z]; decide
      exact j0 (Int64.lt_of_le_of_lt jn zz)
    have e1 : lN N - 1 = lN (N - 1) := lN_sub (b := 1) (by omega)
    rw [e1, eb] at jn
    have hbN := (pk_lLE hb (by omega)).mp jn
    rw [ea, eb] at ij
    have hab := (pk_lLE ha hb).mp ij
    refine ⟨a, b, ea, eb, hab, by omega, ?_, c⟩
    have e : strF i j N = ((sI2 i (lN N)).toInt.toNat, (sJ2 j (lN N)).toInt.toNat + 1) := if_neg c
    rw [e, ea, eb, pk_lT ha, pk_lT hb]; rfl
theorem strF_le (i j : Int64) (N : Nat) (hN : N < 2 ^ 31) : (strF i j N).1 ≤ (strF i j N).2 ∧ (strF i j N).2 ≤ N := by
  rcases str_cases i j N hN with ⟨-, e⟩ | ⟨a, b, -, -, h1, h2, e, -⟩
  · rw [e]; exact ⟨Nat.le_refl _, Nat.zero_le _⟩
  · rw [e]; exact ⟨by show a ≤ b + 1; omega, h2⟩
set_option maxRecDepth 100000 in
theorem c_stretch {σ : mjS} (ty : mjTY σ) (i j : Int64) (N : Nat) (hN : N < 2 ^ 31) {x5 : Int32} (e5 : x5 = nI N) : mjY mjPP (mjQQ Y) d 88 0 (mjL0 10 [.ref 0, .long i, .long j, .int x5]) [] σ (fun r u => r = none ∧ Fr [f_from, f_upTo] [] σ u ∧ u.1 f_from = nI (strF i j N).1 ∧ u.1 f_upTo = nI (strF i j N).2) := by
  have en : x5.toInt64 = lN N := by rw [e5]; exact nI_l hN
  have s40 : ∀ i2 j2, i2 = sI2 i (lN N) → j2 = sJ2 j (lN N) → mjY mjPP (mjQQ Y) d 88 40 [some (.ref 0), some (.long i), none, some (.long j), none, some (.int x5), some (.long i2), none, some (.long j2), none] [] σ (fun r u => r = none ∧ Fr [f_from, f_upTo] [] σ u ∧ u.1 f_from = nI (strF i j N).1 ∧ u.1 f_upTo = nI (strF i j N).2) := by
    intro i2 j2 ei ej
    refine mjZ_y rfl rfl 4 _ _ _ _ ty ?_
    refine And.intro (fun c => ?_) (fun c => ?_)
    · have c : ¬ sJ2 j (lN N) < sI2 i (lN N) := by rw [← ei, ← ej]; exact Int64.not_lt.mpr ((lg_cmp_le _ _).mp c)
      rcases str_cases i j N hN with ⟨z, -⟩ | ⟨a, b, ea, eb, h1, h2, e, -⟩
      · exact absurd z c
      · refine mjZ_y rfl rfl 11 _ _ _ _ ty ?_
        refine (And.intro rfl (And.intro (Or.inl rfl) (fun ty' => (And.intro rfl (And.intro (Or.inl rfl) (fun ty'' => And.intro rfl (And.intro rfl ?_)))))))
        refine ⟨rfl, (Fr.i (by decide)).tr (Fr.i (by decide)), ?_, ?_⟩
        · exact ((pk_un (f := upd σ.1 f_from i2.toInt32) (k := f_upTo) (j := f_from) (x := j2.toInt32 + Int32.ofInt 1) (by decide)).trans pk_us).trans (by rw [ei, ea, lN_i, e])
        · exact (pk_us (f := upd σ.1 f_from i2.toInt32) (k := f_upTo)).trans (by rw [ej, eb, lN_i, e]; exact nI_1 b)
    · have c : sJ2 j (lN N) < sI2 i (lN N) := by rw [← ei, ← ej]; exact Int64.not_le.mp (fun z => c ((lg_cmp_le _ _).mpr z))
      rcases str_cases i j N hN with ⟨-, e⟩ | ⟨a, b, -, -, -, -, -, z⟩
      · refine mjZ_y rfl rfl 7 _ _ _ _ ty ?_
        refine (And.intro rfl (And.intro (Or.inl rfl) (fun ty' => (And.intro rfl (And.intro (Or.inl rfl) (fun ty'' => And.intro rfl (And.intro rfl ?_)))))))
        refine ⟨rfl, (Fr.i (by decide)).tr (Fr.i (by decide)), ?_, ?_⟩
        · exact ((pk_un (f := upd σ.1 f_from (Int32.ofInt 0)) (k := f_upTo) (j := f_from) (x := Int32.ofInt 0) (by decide)).trans pk_us).trans (by rw [e]; rfl)
        · exact (pk_us (f := upd σ.1 f_from (Int32.ofInt 0)) (k := f_upTo)).trans (by rw [e]; rfl)
      · exact absurd c z
  have s28 : ∀ i2 j1, i2 = sI2 i (lN N) → j1 = sI j (lN N) → mjY mjPP (mjQQ Y) d 88 28 [some (.ref 0), some (.long i), none, some (.long j), none, some (.int x5), some (.long i2), none, some (.long j1), none] [] σ (fun r u => r = none ∧ Fr [f_from, f_upTo] [] σ u ∧ u.1 f_from = nI (strF i j N).1 ∧ u.1 f_upTo = nI (strF i j N).2) := by
    intro i2 j1 ei ej
    refine mjZ_y rfl rfl 7 _ _ _ _ ty ?_
    refine And.intro (fun c => ?_) (fun c => ?_)
    · have c : ¬ lN N - 1 < j1 := by rw [← en]; exact Int64.not_lt.mpr ((lg_cmp_le _ _).mp c)
      refine s40 _ _ ei ?_
      rw [ej] at c; unfold sJ2; rw [if_neg c]; exact ej
    · have c : lN N - 1 < j1 := by rw [← en]; exact Int64.not_le.mp (fun z => c ((lg_cmp_le _ _).mpr z))
      refine mjZ_y rfl rfl 5 _ _ _ _ ty ?_
      refine (And.intro (Nat.le_of_ble_eq_true rfl) ?_)
      refine s40 _ _ ei ?_
      rw [ej] at c; unfold sJ2; rw [if_pos c, ← en]; rfl
  have s22 : ∀ i1 j1, i1 = sI i (lN N) → j1 = sI j (lN N) → mjY mjPP (mjQQ Y) d 88 22 [some (.ref 0), some (.long i), none, some (.long j), none, some (.int x5), some (.long i1), none, some (.long j1), none] [] σ (fun r u => r = none ∧ Fr [f_from, f_upTo] [] σ u ∧ u.1 f_from = nI (strF i j N).1 ∧ u.1 f_upTo = nI (strF i j N).2) := by
    intro i1 j1 ei ej
    refine mjZ_y rfl rfl 4 _ _ _ _ ty ?_
    refine And.intro (fun c => ?_) (fun c => ?_)
    · have c : ¬ i1 < 0 := Int64.not_lt.mpr ((lg_cmp_ge _ _).mp c)
      refine s28 _ _ ?_ ej
      rw [ei] at c; unfold sI2; rw [if_neg c]; exact ei
    · have c : i1 < 0 := Int64.not_le.mp (fun z => c ((lg_cmp_ge _ _).mpr z))
      refine mjZ_y rfl rfl 2 _ _ _ _ ty ?_
      refine (And.intro (Nat.le_of_ble_eq_true rfl) ?_)
      refine s28 _ _ ?_ ej
      rw [ei] at c; unfold sI2; rw [if_pos c]; rfl
  have s13 : ∀ i1, i1 = sI i (lN N) → mjY mjPP (mjQQ Y) d 88 13 [some (.ref 0), some (.long i), none, some (.long j), none, some (.int x5), some (.long i1), none, some (.long j), none] [] σ (fun r u => r = none ∧ Fr [f_from, f_upTo] [] σ u ∧ u.1 f_from = nI (strF i j N).1 ∧ u.1 f_upTo = nI (strF i j N).2) := by
    intro i1 ei
    refine mjZ_y rfl rfl 4 _ _ _ _ ty ?_
    refine And.intro (fun c => ?_) (fun c => ?_)
    · have c : ¬ j < 0 := Int64.not_lt.mpr ((lg_cmp_ge _ _).mp c)
      exact s22 _ _ ei (if_neg c).symm
    · have c : j < 0 := Int64.not_le.mp (fun z => c ((lg_cmp_ge _ _).mpr z))
      refine mjZ_y rfl rfl 5 _ _ _ _ ty ?_
      refine (And.intro (Nat.le_of_ble_eq_true rfl) ?_)
      refine s22 _ _ ei ?_
      rw [en]; exact (if_pos c).symm
  refine mjZ_y rfl rfl 8 _ _ _ _ ty ?_
  refine (And.intro (Nat.le_of_ble_eq_true rfl) (And.intro (Nat.le_of_ble_eq_true rfl) (And.intro (fun c => ?_) (fun c => ?_))))
  · have c : ¬ i < 0 := Int64.not_lt.mpr ((lg_cmp_ge _ _).mp c)
    exact s13 _ (if_neg c).symm
  · have c : i < 0 := Int64.not_le.mp (fun z => c ((lg_cmp_ge _ _).mpr z))
    refine mjZ_y rfl rfl 5 _ _ _ _ ty ?_
    refine (And.intro (Nat.le_of_ble_eq_true rfl) ?_)
    refine s13 _ ?_
    rw [en]; exact (if_pos c).symm
/-- how many elements the key of this name has -/
def mnA (A : List AK) (w : List Int32) : Nat := match kyI A w with
  | some p => (match A[p]? with
    | some a => a.2.2.2.2.2.length
    | none => 0)
  | none => 0
theorem mnA_at {P Q : List KR} {y : KR} {w : List Int32} (h : kyI (strip (P ++ y :: Q)) w = some P.length) : mnA (strip (P ++ y :: Q)) w = y.2.2.2.2.2.2.length := by
  unfold mnA; rw [h]
  show (match (strip (P ++ y :: Q))[P.length]? with | some a => a.2.2.2.2.2.length | none => 0) = _
  rw [strip_gt]; show (y.2.2.2.2.2.2.map _).length = _; rw [List.length_map]
set_option maxRecDepth 100000 in
theorem w_many {σ : mjS} {ws : List (List Int32)} {ks : List KR} {l : List Int32} (h : Wd σ ws ks l) (ty : mjTY σ) {w : List Int32} {xk : Int32} (ek : xk = kyS ks w) : mjY mjPP (mjQQ Y) d 106 0 (mjL0 2 [.ref 0, .int xk]) [] σ (fun r u => r = some (.int (nI (mnA (strip ks) w))) ∧ u = σ) := by
  refine mjZ_y rfl rfl 2 _ _ _ _ ty ?_
  refine And.intro (fun c => ?_) (fun c => ?_)
  · have c := (ky_ge h w).1.mp (by rw [← ek]; exact c)
    obtain ⟨P, y, Q, g0, g1, g2, -⟩ := ky_some c
    subst g0
    obtain ⟨kT, kHd, kM, vk⟩ := W_tail h (ek.trans g2)
    refine mjZ_y rfl rfl 5 _ _ _ _ ty ?_
    refine (And.intro rfl (And.intro rfl (And.intro vk (And.intro rfl (And.intro (Or.inl rfl) ?_)))))
    rw [mnA_at g1]
    exact ⟨congrArg (fun t => some (Value.int t)) kM, rfl⟩
  · have c : kyI (strip ks) w = none := Decidable.of_not_not (fun z => c (by rw [ek]; exact (ky_ge h w).1.mpr z))
    refine mjZ_y rfl rfl 2 _ _ _ _ ty ?_
    refine And.intro rfl (And.intro (Or.inl rfl) ?_)
    exact ⟨by unfold mnA; rw [c]; rfl, rfl⟩
theorem mnA_le {σ : mjS} {ws : List (List Int32)} {ks : List KR} {l : List Int32} (h : Wd σ ws ks l) (w : List Int32) : mnA (strip ks) w ≤ 10000 := by
  by_cases c : kyI (strip ks) w = none
  · unfold mnA; rw [c]; exact Nat.zero_le _
  · obtain ⟨P, y, Q, g0, g1, g2, -⟩ := ky_some c
    subst g0
    rw [mnA_at g1]; exact W_len h
theorem W_next {σ : mjS} {ws : List (List Int32)} {P Q : List KR} {y : KR} {l : List Int32} (h : Wd σ ws (P ++ y :: Q) l) {E1 E2 : List ER} {z : ER} (hE : y.2.2.2.2.2.2 = E1 ++ z :: E2) {x : Int32} (ex : x = nI z.1) : σ.2.2.1 r_eNext x.toNatClampNeg = nx (ids E2) ∧ σ.2.2.1 r_ePrev x.toNatClampNeg = lst (-1) (ids E1) ∧ vp_in x 10000 := by
  obtain ⟨hs, hh, hk⟩ := h.kok (List.mem_append_right P (List.mem_cons_self (a := y) (l := Q)))
  have hz := hk.2.2.2.2.2.2.2.2.2.2 z (by rw [hE]; exact List.mem_append_right _ List.mem_cons_self)
  have hid := hz.1
  have sg := hk.2.2.2.2.2.2.2.2.2.1
  rw [hE, ids_app, ids_cons] at sg
  have s2 := seg_cons.mp (seg_app.mp sg).2
  rw [ex, nI_clamp (by omega)]
  exact ⟨by rw [s2.2.1, nx_hdq], s2.1, vp_in_nI hid (by decide)⟩
set_option maxRecDepth 100000 in
theorem c_at_loop (K : mjK) {σ : mjS} {ws : List (List Int32)} {P Q : List KR} {y : KR} {l : List Int32} (h : Wd σ ws (P ++ y :: Q) l) (ty : mjTY σ) (x1 x2 : Int32) (n : Nat) (hn : n < 2 ^ 30) (e2 : x2 = nI n) : ∀ (E2 E1 : List ER) (z : ER) (j i : Nat) (x3 x4 : Int32), y.2.2.2.2.2.2 = E1 ++ z :: E2 → x3 = nI z.1 → x4 = nI i → i + j = n → j ≤ E2.length → (∀ F1 F2 t, y.2.2.2.2.2.2 = F1 ++ t :: F2 → F1.length = E1.length + j → K (some (.int (nI t.1))) σ) →
    mjY mjPP (mjQQ Y) d 107 7 [some (.ref 0), some (.int x1), some (.int x2), some (.int x3), some (.int x4)] [] σ K := by
  intro E2
  induction E2 with
  | nil =>
    intro E1 z j i x3 x4 hE e3 e4 hi hj hK
    have hj : j = 0 := Nat.le_zero.mp hj
    refine mjZ_y rfl rfl 3 _ _ _ _ ty ?_
    refine And.intro (fun q => ?_) (fun q => ?_)
    · refine mjZ_y rfl rfl 2 _ _ _ _ ty ?_
      refine And.intro rfl (And.intro (Or.inl rfl) ?_)
      rw [e3]; exact hK E1 [] z hE (by omega)
    · exact absurd (show x2 ≤ x4 by rw [e2, e4]; exact nI_le (by omega) (by omega)) q
  | cons z2 E2 ih =>
    intro E1 z j i x3 x4 hE e3 e4 hi hj hK
    obtain ⟨hN, -, v3⟩ := W_next h hE e3
    refine mjZ_y rfl rfl 3 _ _ _ _ ty ?_
    refine And.intro (fun q => ?_) (fun q => ?_)
    · have q := (nI_leI (by omega) (by omega)).mp (show nI n ≤ nI i by rw [← e2, ← e4]; exact q)
      refine mjZ_y rfl rfl 2 _ _ _ _ ty ?_
      refine And.intro rfl (And.intro (Or.inl rfl) ?_)
      rw [e3]; exact hK E1 (z2 :: E2) z hE (by omega)
    · have q : i < n := Nat.lt_of_not_le (fun c => q (show x2 ≤ x4 by rw [e2, e4]; exact nI_le c (by omega)))
      cases j with
      | zero => omega
      | succ j =>
        refine mjZ_y rfl rfl 7 _ _ _ _ ty ?_
        refine (And.intro rfl (And.intro rfl (And.intro v3 (And.intro (Nat.le_of_ble_eq_true rfl) ?_))))
        refine ih (E1 ++ [z]) z2 j (i + 1) _ _ (by rw [hE, List.append_assoc]; rfl) hN (by rw [e4]; exact nI_1 i) (by omega) (by simpa using hj) (fun F1 F2 t hF hl => hK F1 F2 t hF (by rw [hl, List.length_append, List.length_singleton]; omega))
set_option maxRecDepth 100000 in
theorem w_at {σ : mjS} {ws : List (List Int32)} {P Q : List KR} {y : KR} {l : List Int32} (h : Wd σ ws (P ++ y :: Q) l) (ty : mjTY σ) (n : Nat) (hn : n < y.2.2.2.2.2.2.length) {x1 x2 : Int32} (e1 : x1 = nI y.1) (e2 : x2 = nI n) : mjY mjPP (mjQQ Y) d 107 0 (mjL0 5 [.ref 0, .int x1, .int x2]) [] σ (fun r u => u = σ ∧ ∃ F1 F2 t, y.2.2.2.2.2.2 = F1 ++ t :: F2 ∧ F1.length = n ∧ r = some (.int (nI t.1))) := by
  obtain ⟨kT, kHd, kM, vk⟩ := W_tail h e1
  have hle := W_len h
  cases hE : y.2.2.2.2.2.2 with
  | nil => rw [hE] at hn; exact absurd hn (Nat.not_lt_zero n)
  | cons z E2 =>
    rw [hE] at kHd hn hle
    have hn : n < E2.length + 1 := hn
    have hle : E2.length + 1 ≤ 10000 := hle
    refine mjZ_y rfl rfl 7 _ _ _ _ ty ?_
    refine (And.intro rfl (And.intro rfl (And.intro vk (And.intro (Nat.le_of_ble_eq_true rfl) (And.intro (Nat.le_of_ble_eq_true rfl) ?_)))))
    refine c_at_loop _ h ty x1 x2 n (by omega) e2 E2 [] z n 0 _ _ hE kHd rfl (Nat.zero_add _) (by omega) (fun F1 F2 t hF hl => ⟨rfl, F1, F2, t, by rw [← hE]; exact hF, by rw [hl]; exact Nat.zero_add _, rfl⟩)
end STR
