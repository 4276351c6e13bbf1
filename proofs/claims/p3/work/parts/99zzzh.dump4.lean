/-! How long it is what a rewrite tells. -/
section DUMP4
theorem dl_b {n k : Nat} (hn : n < 10 ^ k) (hk : 1 ≤ k) (h6 : n < 1000000) : (dec (lN n)).length ≤ k := by
  rw [(dec_lN h6).1]; exact (decN_len2 k 19 n hn hk).2
theorem wl10 {w : List Int32} (h : w.length ≤ 16384) : (wordL w).length ≤ w.length + 10 := by
  rw [wordL_l]
  have := dl_b (n := w.length) (k := 5) (by omega) (by decide) (by omega)
  omega
theorem wl_d (v : Int64) : (wordL (dec v)).length ≤ 27 := by
  rw [wordL_l]
  have a := dec_20 v
  have := dl_b (n := (dec v).length) (k := 2) (by omega) (by decide) (by omega)
  omega
theorem wl_t {t : Int64} (h1 : 1 ≤ t) (h2 : t ≤ LAT) : (wordL (dec t)).length ≤ 23 := by
  rw [wordL_l]
  obtain ⟨e1, e2, e3⟩ := dec_pos h1
  have hm : t.toInt.toNat ≤ 9007199254740991 := by
    have := Int64.le_iff_toInt_le.mp h2
    have e : LAT.toInt = 9007199254740991 := by decide
    rw [e] at this; omega
  have a : (dec t).length ≤ 16 := by rw [e1]; exact (decN_len2 16 19 _ (by omega) (by decide)).2
  have := dl_b (n := (dec t).length) (k := 2) (by omega) (by decide) (by omega)
  omega
def suS (s : Int32) : Nat := if s = 4 then 11 else if s = 3 then 14 else if s = 2 then 12 else 6
theorem wordsL_ap (a b : Req) : wordsL (a ++ b) = wordsL a ++ wordsL b := by unfold wordsL; rw [List.flatMap_append]
theorem tl_w1 {s : Int32} (hs : s = 1 ∨ s = 2 ∨ s = 3 ∨ s = 4) {z : AE} (h1 : z.1.length ≤ 16384) (h2 : z.2.1.length ≤ 16384) : (wordsL (tlE s z)).length + suS s ≤ memW s + z.1.length + z.2.1.length := by
  have a := wl10 h1
  have b := wl10 h2
  have c := wl_d z.2.2
  have e1 : (wordsL [z.1]).length = (wordL z.1).length := by rw [wordsL_cons]; show (wordL z.1 ++ []).length = _; rw [List.append_nil]
  have e2 : ∀ x y, (wordsL [x, y]).length = (wordL x).length + (wordL y).length := fun x y => by
    rw [wordsL_cons, wordsL_cons, List.length_append, List.length_append]; rfl
  rcases hs with rfl | rfl | rfl | rfl
  · show (wordsL [z.1]).length + 6 ≤ 16 + _ + _; omega
  · show (wordsL [z.1, z.2.1]).length + 12 ≤ 32 + _ + _; rw [e2]; omega
  · show (wordsL [z.1]).length + 14 ≤ 24 + _ + _; omega
  · show (wordsL [dec z.2.2, z.1]).length + 11 ≤ 48 + _ + _; rw [e2]; omega
theorem tl_w {s : Int32} (hs : s = 1 ∨ s = 2 ∨ s = 3 ∨ s = 4) : ∀ c : List AE, (∀ z ∈ c, z.1.length ≤ 16384 ∧ z.2.1.length ≤ 16384) → (wordsL (c.flatMap (tlE s))).length + suS s * c.length ≤ memW s * c.length + eT c := by
  intro c
  induction c with
  | nil => intro _; exact Nat.le_refl _
  | cons z r ih =>
    intro h
    have i := ih (fun y hy => h y (List.mem_cons_of_mem _ hy))
    have a := tl_w1 hs (h z List.mem_cons_self).1 (h z List.mem_cons_self).2
    rw [List.flatMap_cons, wordsL_ap, List.length_append, List.length_cons, Nat.mul_add, Nat.mul_add, Nat.mul_one, Nat.mul_one]
    show _ ≤ _ + (z.1.length + z.2.1.length + eT r)
    omega
theorem ids_w {s : Int32} (hs : s = 1 ∨ s = 2 ∨ s = 3 ∨ s = 4) : (wordL (nm (idS s))).length ≤ 11 := by
  rcases hs with rfl | rfl | rfl | rfl <;> decide +kernel
theorem rq_len {s : Int32} (hs : s = 1 ∨ s = 2 ∨ s = 3 ∨ s = 4) {n : List Int32} (hn : n.length ≤ 16384) {c : List AE} (hc : eaS s * c.length ≤ 1000) : (encR (rqE s n c)).length ≤ 28 + n.length + (wordsL (c.flatMap (tlE s))).length := by
  rw [encR_l]
  have l : (rqE s n c).length = 2 + eaS s * c.length := by
    show (c.flatMap (tlE s)).length + 1 + 1 = _; rw [tl_len hs]; omega
  have a := dl_b (n := (rqE s n c).length) (k := 4) (by omega) (by decide) (by omega)
  have b := ids_w hs
  have d := wl10 hn
  have e : (wordsL (rqE s n c)).length = (wordL (nm (idS s))).length + ((wordL n).length + (wordsL (c.flatMap (tlE s))).length) := by
    show (wordsL (nm (idS s) :: n :: c.flatMap (tlE s))).length = _
    rw [wordsL_cons, wordsL_cons, List.length_append, List.length_append]
  omega
theorem ck_len {s : Int32} (hs : s = 1 ∨ s = 2 ∨ s = 3 ∨ s = 4) {n : List Int32} (hn : n.length ≤ 16384) : ∀ (f : Nat) (r : List AE), r.length ≤ f → (∀ z ∈ r, z.1.length ≤ 16384 ∧ z.2.1.length ≤ 16384) → (encs ((ckF (ptS s) f r).map (rqE s n))).length + suS s * r.length ≤ (28 + n.length) * (ckF (ptS s) f r).length + memW s * r.length + eT r ∧ ptS s * (ckF (ptS s) f r).length ≤ r.length + ptS s ∧ (r ≠ [] → 1 ≤ (ckF (ptS s) f r).length) := by
  have hm : 1 ≤ ptS s := by rcases hs with z | z | z | z <;> rw [z] <;> decide
  have hea : ∀ k, k ≤ ptS s → eaS s * k ≤ 1000 := fun k hk => by
    rcases hs with z | z | z | z <;> rw [z] at hk ⊢
    · have hk : k ≤ 1000 := hk
      show 1 * k ≤ _; omega
    · have hk : k ≤ 500 := hk
      show 2 * k ≤ _; omega
    · have hk : k ≤ 1000 := hk
      show 1 * k ≤ _; omega
    · have hk : k ≤ 500 := hk
      show 2 * k ≤ _; omega
  intro f
  induction f with
  | zero =>
    intro r hr _
    have e0 : r = [] := List.length_eq_zero_iff.mp (Nat.le_zero.mp hr)
    subst e0
    exact ⟨Nat.le_refl _, Nat.zero_le _, fun z => absurd rfl z⟩
  | succ f ih =>
    intro r hr hz
    by_cases c : r = []
    · subst c
      have e1 : ckF (ptS s) (f + 1) [] = [] := if_pos rfl
      rw [e1]
      exact ⟨Nat.le_refl _, Nat.zero_le _, fun z => absurd rfl z⟩
    · have e1 : ckF (ptS s) (f + 1) r = r.take (ptS s) :: ckF (ptS s) f (r.drop (ptS s)) := if_neg c
      have r1 : 1 ≤ r.length := Nat.pos_of_ne_zero (fun z => c (List.length_eq_zero_iff.mp z))
      obtain ⟨i1, i2, -⟩ := ih (r.drop (ptS s)) (by rw [List.length_drop]; omega) (fun z h => hz z (List.mem_of_mem_drop h))
      have w := tl_w hs (r.take (ptS s)) (fun z h => hz z (List.mem_of_mem_take h))
      have q := rq_len hs hn (c := r.take (ptS s)) (hea _ (by rw [List.length_take]; omega))
      have lt : (r.take (ptS s)).length + (r.drop (ptS s)).length = r.length := by rw [← List.length_append, List.take_append_drop]
      have et : eT (r.take (ptS s)) + eT (r.drop (ptS s)) = eT r := by rw [← eT_app, List.take_append_drop]
      have m1 : suS s * r.length = suS s * (r.take (ptS s)).length + suS s * (r.drop (ptS s)).length := by rw [← lt, Nat.mul_add]
      have m2 : memW s * r.length = memW s * (r.take (ptS s)).length + memW s * (r.drop (ptS s)).length := by rw [← lt, Nat.mul_add]
      have m3 : (28 + n.length) * ((ckF (ptS s) f (r.drop (ptS s))).length + 1) = (28 + n.length) * (ckF (ptS s) f (r.drop (ptS s))).length + (28 + n.length) := Nat.mul_succ _ _
      have m4 : ptS s * ((ckF (ptS s) f (r.drop (ptS s))).length + 1) = ptS s * (ckF (ptS s) f (r.drop (ptS s))).length + ptS s := Nat.mul_succ _ _
      rw [e1, List.map_cons, encs_cons, List.length_append, List.length_cons]
      refine ⟨by omega, ?_, fun _ => by omega⟩
      rw [m4]
      by_cases c2 : r.length ≤ ptS s
      · have e0 : r.drop (ptS s) = [] := List.drop_eq_nil_of_le c2
        have e2 : ckF (ptS s) f (r.drop (ptS s)) = [] := by
          rw [e0]
          cases f with
          | zero => rfl
          | succ f => exact if_pos rfl
        rw [e2]
        show ptS s * 0 + _ ≤ _; omega
      · rw [List.length_drop] at i2
        omega
theorem dk_len {a : AK} (ha : AOK a) : ∃ j, (encs (dkR a)).length + 5472 * j ≤ kM a + 25 + a.1.length + a.1.length * j ∧ 500 * j ≤ a.2.2.2.2.2.length := by
  obtain ⟨a1, a2, a3, a4, a5, a6⟩ := ha
  have hw := a1.1
  have wn := wl10 hw
  have d3 : (dec (lN 3)).length = 1 := by decide +kernel
  have wd3 : ∀ x y z : List Int32, (encR [x, y, z]).length = 4 + (wordL x).length + (wordL y).length + (wordL z).length := fun x y z => by
    rw [encR_l]
    show (dec (lN 3)).length + 3 + (wordsL [x, y, z]).length = _
    rw [d3, wordsL_cons, wordsL_cons, wordsL_cons, List.length_append, List.length_append, List.length_append]
    show 1 + 3 + ((wordL x).length + ((wordL y).length + ((wordL z).length + 0))) = _
    omega
  have time : (encs (if a.2.2.1 = 0 then [] else [[nm 33, a.1, dec a.2.2.2.1]])).length ≤ 52 + a.1.length := by
    by_cases t : a.2.2.1 = 0
    · rw [if_pos t]; exact Nat.zero_le _
    · rw [if_neg t, encs_1, wd3]
      obtain ⟨t1, t2, t3⟩ : a.2.2.1 = 1 ∧ 1 ≤ a.2.2.2.1 ∧ a.2.2.2.1 ≤ LAT := by
        rcases a5 with ⟨z, -⟩ | z
        · exact absurd z t
        · exact z
      have b := wl_t t2 t3
      have c : (wordL (nm 33)).length = 15 := by decide +kernel
      omega
  have em : kM a = 64 + a.1.length + a.2.2.2.2.1.length + memW a.2.1 * a.2.2.2.2.2.length + eT a.2.2.2.2.2 := rfl
  unfold dkR
  rw [encs_app, List.length_append]
  by_cases c : a.2.1 = 0
  · rw [if_pos c, encs_1, wd3]
    have wt := wl10 a2
    have c2 : (wordL (nm 2)).length = 9 := by decide +kernel
    exact ⟨0, by omega, by omega⟩
  · rw [if_neg c]
    have hs : a.2.1 = 1 ∨ a.2.1 = 2 ∨ a.2.1 = 3 ∨ a.2.1 = 4 := a6.resolve_left c
    obtain ⟨ne, ht⟩ := a4 c
    obtain ⟨k1, k2, k3⟩ := ck_len hs hw a.2.2.2.2.2.length a.2.2.2.2.2 (Nat.le_refl _) (fun z hz => ⟨(a3.1 z hz).1.1, (a3.1 z hz).2⟩)
    have k3 := k3 ne
    obtain ⟨j, hj⟩ : ∃ j, (ckF (ptS a.2.1) a.2.2.2.2.2.length a.2.2.2.2.2).length = j + 1 := ⟨_, (Nat.succ_pred_eq_of_pos k3).symm⟩
    rw [hj] at k1 k2
    have m1 : (28 + a.1.length) * (j + 1) = 28 * j + a.1.length * j + (28 + a.1.length) := by rw [Nat.mul_succ, Nat.add_mul]
    have m2 : ptS a.2.1 * (j + 1) = ptS a.2.1 * j + ptS a.2.1 := Nat.mul_succ _ _
    have su : 5500 * j ≤ suS a.2.1 * a.2.2.2.2.2.length ∧ 500 * j ≤ a.2.2.2.2.2.length := by
      have k2 : ptS a.2.1 * j ≤ a.2.2.2.2.2.length := by omega
      rcases hs with z | z | z | z <;> rw [z] at k2 ⊢
      · have k2 : 1000 * j ≤ _ := k2
        show _ ≤ 6 * _ ∧ _; omega
      · have k2 : 500 * j ≤ _ := k2
        show _ ≤ 12 * _ ∧ _; omega
      · have k2 : 1000 * j ≤ _ := k2
        show _ ≤ 14 * _ ∧ _; omega
      · have k2 : 500 * j ≤ _ := k2
        show _ ≤ 11 * _ ∧ _; omega
    rw [ht] at em
    have em : kM a = 64 + a.1.length + 0 + memW a.2.1 * a.2.2.2.2.2.length + eT a.2.2.2.2.2 := em
    exact ⟨j, by omega, su.2⟩
theorem dm_len1 {M : Nat} : ∀ A : List AK, (∀ a ∈ A, AOK a ∧ a.1.length ≤ M) → ∃ J, (encs (dmR A)).length + 5472 * J ≤ memB A + 25 * A.length + nB A + M * J ∧ 500 * J ≤ eN A := by
  intro A
  induction A with
  | nil => intro _; exact ⟨0, Nat.zero_le _, Nat.zero_le _⟩
  | cons a r ih =>
    intro h
    obtain ⟨J, i1, i2⟩ := ih (fun b hb => h b (List.mem_cons_of_mem _ hb))
    obtain ⟨j, j1, j2⟩ := dk_len (h a List.mem_cons_self).1
    have m : a.1.length * j ≤ M * j := Nat.mul_le_mul_right _ (h a List.mem_cons_self).2
    have m2 : M * (j + J) = M * j + M * J := Nat.mul_add _ _ _
    have e : (encs (dmR (a :: r))).length = (encs (dkR a)).length + (encs (dmR r)).length := by
      show (encs (dkR a ++ dmR r)).length = _; rw [encs_app, List.length_append]
    have e2 : memB (a :: r) = kM a + memB r := rfl
    have e3 : nB (a :: r) = a.1.length + nB r := rfl
    have e4 : eN (a :: r) = a.2.2.2.2.2.length + eN r := rfl
    have e5 : (a :: r).length = r.length + 1 := rfl
    exact ⟨j + J, by omega, by omega⟩
theorem nB_mem {a : AK} : ∀ {A : List AK}, a ∈ A → a.1.length ≤ nB A := by
  intro A
  induction A with
  | nil => intro h; cases h
  | cons b r ih =>
    intro h
    show _ ≤ b.1.length + nB r
    rcases List.mem_cons.mp h with rfl | h
    · omega
    · have := ih h; omega
/-- it fits the row of what is pending, and the log -/
theorem dm_len {A : List AK} {P : Nat} (h : LI A P) : (encs (dmR A)).length ≤ 380000 ∧ (encs (dmR A)).length + (kap A + 50 * P) ≤ 650000 := by
  obtain ⟨J, j1, j2⟩ := dm_len1 (M := nB A) A (fun a ha => ⟨h.1.2 a ha, nB_mem ha⟩)
  obtain ⟨l1, l2, l3, l4, l5, l6⟩ := h
  have e : kap A = 92 * A.length + nB A := rfl
  by_cases c : nB A ≤ 5472
  · have m : nB A * J ≤ 5472 * J := Nat.mul_le_mul_right _ c
    omega
  · obtain ⟨M, hM⟩ : ∃ M, nB A = 5472 + M := ⟨nB A - 5472, by omega⟩
    have m : nB A * J = 5472 * J + M * J := by rw [hM, Nat.add_mul]
    have m2 : M * J ≤ M * 17 := Nat.mul_le_mul_left _ (by omega)
    omega
end DUMP4
