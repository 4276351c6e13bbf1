/-! How long it is what a rewrite of the class tells. -/
section KDUMP
theorem dk8 {a : AK} (ha : AOK a) (hn : a.1.length ≤ 10240) : ∃ j, (encs (dkR a)).length + 5472 * j ≤ kM a + 25 * tK a + uK a + a.1.length * j ∧ 500 * j ≤ a.2.2.2.2.2.length ∧ (a.2.1 = 3 → j = 0) := by
  obtain ⟨a1, a2, a3, a4, a5, a6⟩ := ha
  have hw := a1.1
  have wn := wl10 hw
  have d3 : (dec (lN 3)).length = 1 := by decide +kernel
  have wd3 : ∀ x y z : List Int32, (encR [x, y, z]).length = 4 + (wordL x).length + (wordL y).length + (wordL z).length := fun x y z => by
    rw [encR_l]
    show (dec (lN 3)).length + 3 + (wordsL [x, y, z]).length = _
    rw [d3, wordsL_cons, wordsL_cons, wordsL_cons, List.length_append, List.length_append, List.length_append]
    show 1 + 3 + ((wordL x).length + ((wordL y).length + ((wordL z).length + 0))) = _
    omega
  have time : (encs (if a.2.2.1 = 0 then [] else [[nm 33, a.1, dec a.2.2.2.1]])).length ≤ 52 * tK a + uK a := by
    unfold tK uK
    by_cases t : a.2.2.1 = 0
    · rw [if_pos t]; exact Nat.zero_le _
    · rw [if_neg t, if_neg t, if_neg t, encs_1, wd3]
      obtain ⟨t1, t2, t3⟩ : a.2.2.1 = 1 ∧ 1 ≤ a.2.2.2.1 ∧ a.2.2.2.1 ≤ LAT := by
        rcases a5 with ⟨z, -⟩ | z
        · exact absurd z t
        · exact z
      have b := wl_t t2 t3
      have c : (wordL (nm 33)).length = 15 := by decide +kernel
      omega
  have tk1 : tK a ≤ 1 := by unfold tK; split <;> omega
  have em : kM a = 64 + a.1.length + a.2.2.2.2.1.length + memW a.2.1 * a.2.2.2.2.2.length + eT a.2.2.2.2.2 := rfl
  unfold dkR
  rw [encs_app, List.length_append]
  by_cases c : a.2.1 = 0
  · rw [if_pos c, encs_1, wd3]
    have wt := wl10 a2
    have c2 : (wordL (nm 2)).length = 9 := by decide +kernel
    exact ⟨0, by omega, by omega, fun _ => rfl⟩
  · rw [if_neg c]
    have hs : a.2.1 = 1 ∨ a.2.1 = 2 ∨ a.2.1 = 3 ∨ a.2.1 = 4 := a6.resolve_left c
    obtain ⟨ne, ht⟩ := a4 c
    obtain ⟨k1, k2, k3⟩ := ck_len hs hw a.2.2.2.2.2.length a.2.2.2.2.2 (Nat.le_refl _) (fun z hz => ⟨(a3.1 z hz).1.1, (a3.1 z hz).2⟩)
    have k3 := k3 ne
    obtain ⟨j, hj⟩ : ∃ j, (ckF (ptS a.2.1) a.2.2.2.2.2.length a.2.2.2.2.2).length = j + 1 := ⟨_, (Nat.succ_pred_eq_of_pos k3).symm⟩
    rw [hj] at k1 k2
    have m1 : (28 + a.1.length) * (j + 1) = 28 * j + a.1.length * j + (28 + a.1.length) := by rw [Nat.mul_succ, Nat.add_mul]
    have m2 : ptS a.2.1 * (j + 1) = ptS a.2.1 * j + ptS a.2.1 := Nat.mul_succ _ _
    rw [ht] at em
    have em : kM a = 64 + a.1.length + 0 + memW a.2.1 * a.2.2.2.2.2.length + eT a.2.2.2.2.2 := em
    have k2 : ptS a.2.1 * j ≤ a.2.2.2.2.2.length := by omega
    by_cases s3 : a.2.1 = 3
    · have su : 14000 * j ≤ suS a.2.1 * a.2.2.2.2.2.length := by
        rw [s3] at k2 ⊢
        have k2 : 1000 * j ≤ _ := k2
        show _ ≤ 14 * _; omega
      have mj : a.1.length * j ≤ 10240 * j := Nat.mul_le_mul_right _ hn
      exact ⟨0, by omega, by omega, fun _ => rfl⟩
    · have su : 5500 * j ≤ suS a.2.1 * a.2.2.2.2.2.length ∧ 500 * j ≤ a.2.2.2.2.2.length := by
        rcases hs with z | z | z | z <;> rw [z] at k2 ⊢
        · have k2 : 1000 * j ≤ _ := k2
          show _ ≤ 6 * _ ∧ _; omega
        · have k2 : 500 * j ≤ _ := k2
          show _ ≤ 12 * _ ∧ _; omega
        · have k2 : 1000 * j ≤ _ := k2
          show _ ≤ 14 * _ ∧ _; omega
        · have k2 : 500 * j ≤ _ := k2
          show _ ≤ 11 * _ ∧ _; omega
      exact ⟨j, by omega, su.2, fun z => absurd z s3⟩
theorem ex_5536 {n j : Nat} (h : n + 1000 * j ≤ 10240) : n * j ≤ 5472 * j + 5536 := by
  rcases (show j = 0 ∨ j = 1 ∨ j = 2 ∨ j = 3 ∨ j = 4 ∨ 5 ≤ j by omega) with rfl | rfl | rfl | rfl | rfl | c
  · omega
  · omega
  · omega
  · omega
  · omega
  · have : n * j ≤ 5472 * j := Nat.mul_le_mul_right _ (by omega)
    omega
theorem dk9 {a : AK} (ha : AOK a) (hv : vK a ≤ 10240) : (encs (dkR a)).length ≤ kM a + 25 * tK a + uK a + 5536 ∧ (a.1.length ≤ 5472 → (encs (dkR a)).length ≤ kM a + 25 * tK a + uK a) := by
  unfold vK at hv
  obtain ⟨j, h1, h2, h3⟩ := dk8 ha (by omega)
  refine ⟨?_, fun z => ?_⟩
  · by_cases c : a.2.1 = 3
    · rw [h3 c] at h1; omega
    · rw [if_neg c] at hv
      have := ex_5536 (n := a.1.length) (j := j) (by omega)
      omega
  · have : a.1.length * j ≤ 5472 * j := Nat.mul_le_mul_right _ z
    omega
theorem dm8 : ∀ (A : List AK), (∀ a ∈ A, AOK a) → vS A ≤ 10240 → (encs (dmR A)).length ≤ memB A + 25 * tS A + uS A + (if vS A ≤ 5472 then 0 else 5536)
  | [], _, _ => Nat.zero_le _
  | a :: r, h, hv => by
    have e : (encs (dmR (a :: r))).length = (encs (dkR a)).length + (encs (dmR r)).length := by
      show (encs (dkR a ++ dmR r)).length = _; rw [encs_app, List.length_append]
    have ev : vS (a :: r) = vK a + vS r := rfl
    have ih := dm8 r (fun x hx => h x (List.mem_cons_of_mem _ hx)) (by omega)
    obtain ⟨k1, k2⟩ := dk9 (h a (List.mem_cons_self ..)) (by omega)
    have e2 : memB (a :: r) = kM a + memB r := rfl
    have e3 : tS (a :: r) = tK a + tS r := rfl
    have e4 : uS (a :: r) = uK a + uS r := rfl
    have vn : a.1.length ≤ vK a := by unfold vK; omega
    by_cases c : a.1.length ≤ 5472
    · have k2 := k2 c
      by_cases c2 : vS (a :: r) ≤ 5472
      · rw [if_pos c2]
        rw [if_pos (by omega)] at ih
        omega
      · rw [if_neg c2]
        have : (if vS r ≤ 5472 then 0 else 5536) ≤ 5536 := by split <;> omega
        omega
    · rw [if_neg (by omega)]
      rw [if_pos (by omega)] at ih
      omega
/-- a rewrite fits the log -/
theorem LJ.dm {A : List AK} {p : Nat} (h : LJ A p) : (encs (dmR A)).length + (tmK A + 8 * p) ≤ 207584 := by
  obtain ⟨h1, h2, h3, h4, h5, h6⟩ := h
  have d := dm8 A h1.1.2 (by omega)
  have : (if vS A ≤ 5472 then 0 else 5536) ≤ 5536 := by split <;> omega
  unfold tmK
  omega
end KDUMP
