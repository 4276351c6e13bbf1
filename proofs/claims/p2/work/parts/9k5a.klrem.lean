/-! LREM. -/
def lrI (bw : Bool) (n L0 : Int64) (piv : List Int32) (N i c : Nat) (cur G : List AE) : Prop := if bw = true then ∃ F K, cur = F ++ K ∧ F.length + i = N ∧ K.length + c = i ∧ (lrE n piv (L0 + lN c) F.reverse).reverse ++ K = G else ∃ K R, cur = K ++ R ∧ R.length + i = N ∧ K.length + c = i ∧ K ++ lrE n piv (L0 + lN c) R = G
theorem lrI_len {bw : Bool} {n L0 : Int64} {piv : List Int32} {N i c : Nat} {cur G : List AE} (h : lrI bw n L0 piv N i c cur G) : cur.length + c = N ∧ i ≤ N ∧ c ≤ i := by
  unfold lrI at h
  cases bw with
  | true =>
    rw [if_pos rfl] at h
    obtain ⟨F, K, h1, h2, h3, -⟩ := h
    rw [h1, List.length_append]; omega
  | false =>
    rw [if_neg (by decide)] at h
    obtain ⟨K, R, h1, h2, h3, -⟩ := h
    rw [h1, List.length_append]; omega
theorem lrE_stop (n : Int64) (piv : List Int32) (left : Int64) (es : List AE) (h : es = [] ∨ ¬ (n = 0 ∨ left < 0)) : lrE n piv left es = es := by
  cases es with
  | nil => rfl
  | cons z r =>
    rcases h with h | h
    · cases h
    · show (if n = 0 ∨ left < 0 then _ else z :: r) = _
      rw [if_neg h]
theorem lrI_end {bw : Bool} {n L0 : Int64} {piv : List Int32} {N i c : Nat} {cur G : List AE} (h : lrI bw n L0 piv N i c cur G) (hs : ¬ i < N ∨ ¬ (n = 0 ∨ L0 + lN c < 0)) : cur = G := by
  unfold lrI at h
  cases bw with
  | true =>
    rw [if_pos rfl] at h
    obtain ⟨F, K, h1, h2, h3, h4⟩ := h
    rw [lrE_stop, List.reverse_reverse] at h4
    · exact h1.trans h4
    · rcases hs with hs | hs
      · left; rw [List.reverse_eq_nil_iff]; exact List.length_eq_zero_iff.mp (by omega)
      · exact Or.inr hs
  | false =>
    rw [if_neg (by decide)] at h
    obtain ⟨K, R, h1, h2, h3, h4⟩ := h
    rw [lrE_stop] at h4
    · exact h1.trans h4
    · rcases hs with hs | hs
      · left; exact List.length_eq_zero_iff.mp (by omega)
      · exact Or.inr hs
theorem lN_1 (c : Nat) : lN c + 1 = lN (c + 1) := by
  show Int64.ofNat c + Int64.ofNat 1 = Int64.ofNat (c + 1)
  rw [Int64.ofNat_add]
theorem cutL_mid {α : Type} (K : List α) (z : α) (R : List α) {p : Nat} (hp : p = K.length) : cutL (K ++ z :: R) p 1 = K ++ R := by
  unfold cutL
  rw [hp, List.take_left, ← List.drop_drop, List.drop_left]; rfl
theorem lrI_step {bw : Bool} {n L0 : Int64} {piv : List Int32} {N i c : Nat} {cur G : List AE} (h : lrI bw n L0 piv N i c cur G) (hi : i < N) (hg : n = 0 ∨ L0 + lN c < 0) {p : Nat} (hp : p = if bw = true then N - 1 - i else i - c) : ∃ z, cur[p]? = some z ∧ (cmpW z.1 piv = 0 → lrI bw n L0 piv N (i + 1) (c + 1) (cutL cur p 1) G) ∧ (¬ cmpW z.1 piv = 0 → lrI bw n L0 piv N (i + 1) c cur G) := by
  unfold lrI at h ⊢
  have el : L0 + lN c + 1 = L0 + lN (c + 1) := by rw [Int64.add_assoc, lN_1]
  cases bw with
  | true =>
    rw [if_pos rfl] at h hp
    obtain ⟨F, K, h1, h2, h3, h4⟩ := h
    rcases List.eq_nil_or_concat F with hF | ⟨F', z, hF⟩
    · rw [hF, List.length_nil] at h2; omega
    rw [hF, List.length_append, List.length_singleton] at h2
    rw [hF, List.append_assoc] at h1
    have h1 : cur = F' ++ z :: K := h1
    rw [hF, List.reverse_append] at h4
    have h4 : (if n = 0 ∨ L0 + lN c < 0 then (if cmpW z.1 piv = 0 then lrE n piv (L0 + lN c + 1) F'.reverse else z :: lrE n piv (L0 + lN c) F'.reverse) else z :: F'.reverse).reverse ++ K = G := h4
    rw [if_pos hg] at h4
    have hpF : p = F'.length := by omega
    refine ⟨z, ?_, fun hc => ?_, fun hc => ?_⟩
    · rw [h1, hpF, List.getElem?_append_right (Nat.le_refl _), Nat.sub_self]; rfl
    · rw [if_pos rfl]
      rw [if_pos hc, el] at h4
      exact ⟨F', K, by rw [h1]; exact cutL_mid _ _ _ hpF, by omega, by omega, h4⟩
    · rw [if_pos rfl]
      rw [if_neg hc, List.reverse_cons, List.append_assoc] at h4
      exact ⟨F', z :: K, h1, by omega, by rw [List.length_cons]; omega, h4⟩
  | false =>
    rw [if_neg (by decide)] at h hp
    obtain ⟨K, R, h1, h2, h3, h4⟩ := h
    cases R with
    | nil => rw [List.length_nil] at h2; omega
    | cons z R =>
      rw [List.length_cons] at h2
      have h4 : K ++ (if n = 0 ∨ L0 + lN c < 0 then (if cmpW z.1 piv = 0 then lrE n piv (L0 + lN c + 1) R else z :: lrE n piv (L0 + lN c) R) else z :: R) = G := h4
      rw [if_pos hg] at h4
      have hpF : p = K.length := by omega
      refine ⟨z, ?_, fun hc => ?_, fun hc => ?_⟩
      · rw [h1, hpF, List.getElem?_append_right (Nat.le_refl _), Nat.sub_self]; rfl
      · rw [if_neg (by decide)]
        rw [if_pos hc, el] at h4
        exact ⟨K, R, by rw [h1]; exact cutL_mid _ _ _ hpF, by omega, by omega, h4⟩
      · rw [if_neg (by decide)]
        rw [if_neg hc] at h4
        exact ⟨K ++ [z], R, by rw [h1, List.append_assoc]; rfl, by omega, by rw [List.length_append, List.length_singleton]; omega, by rw [List.append_assoc]; exact h4⟩
/-- the count's start -/
def lrL (n : Int64) : Int64 := if n < 0 then n else if 0 < n then -n else n
theorem lrI_0 (n : Int64) (piv : List Int32) (es : List AE) : lrI (decide (n < 0)) n (lrL n) piv es.length 0 0 es (lrG n piv es) := by
  have e0 : lrL n + lN 0 = lrL n := Int64.add_zero _
  unfold lrI lrG
  rw [e0]
  by_cases c : n < 0
  · rw [decide_eq_true c, if_pos rfl, if_pos c]
    exact ⟨es, [], (List.append_nil _).symm, rfl, rfl, by unfold lrL; rw [if_pos c, List.append_nil]⟩
  · rw [decide_eq_false c, if_neg (by decide), if_neg c]
    exact ⟨[], es, rfl, rfl, rfl, by unfold lrL; rw [if_neg c]; rfl⟩
/-- the count as the class has it -/
def lrM (n : Int64) : Int64 := if n = 0 then Int64.minValue else if n < 0 then n else -n
theorem lr_go (n : Int64) {c : Nat} (hc : c ≤ 131072) : (-(nI c)).toInt64 ≤ lrM n ↔ ¬ (n = 0 ∨ lrL n + lN c < 0) := by
  have e1 : (-(nI c)).toInt64.toInt = -(c : Int) := by
    rw [Int32.toInt_toInt64, Int32.toInt_neg, nI_toInt (by omega)]
    exact Int.bmod_eq_of_le (by omega) (by omega)
  have e0 : (0 : Int64).toInt = 0 := by decide
  rw [Int64.le_iff_toInt_le, e1]
  by_cases h0 : n = 0
  · refine ⟨fun z => ?_, fun z => absurd (Or.inl h0) z⟩
    unfold lrM at z; rw [if_pos h0] at z
    have em : Int64.minValue.toInt = -9223372036854775808 := by decide
    rw [em] at z; omega
  · have hr1 := n.le_toInt
    have hr2 := n.toInt_lt
    have e2 : lrM n = lrL n ∧ (lrL n).toInt < 0 ∧ -9223372036854775808 ≤ (lrL n).toInt := by
      unfold lrM lrL
      rw [if_neg h0]
      by_cases c1 : n < 0
      · rw [if_pos c1, if_pos c1]
        have := Int64.lt_iff_toInt_lt.mp c1
        rw [e0] at this
        exact ⟨rfl, this, by omega⟩
      · rw [if_neg c1, if_neg c1]
        have c2 : 0 < n := by
          rw [Int64.lt_iff_toInt_lt, e0]
          have c3 : ¬ n.toInt < 0 := fun z => c1 (by rw [Int64.lt_iff_toInt_lt, e0]; exact z)
          have c4 : ¬ n.toInt = 0 := fun z => h0 (Int64.toInt_inj.mp (z.trans e0.symm))
          omega
        rw [if_pos c2]
        have c5 := Int64.lt_iff_toInt_lt.mp c2
        rw [e0] at c5
        have e3 : (-n).toInt = -n.toInt := by
          rw [Int64.toInt_neg]; exact Int.bmod_eq_of_le (by omega) (by omega)
        rw [e3]; exact ⟨rfl, by omega, by omega⟩
    obtain ⟨e2, e3, e4⟩ := e2
    have e5 : (lrL n + lN c).toInt = (lrL n).toInt + c := by
      rw [Int64.toInt_add, pk_lT (by omega)]; exact Int.bmod_eq_of_le (by omega) (by omega)
    rw [e2]
    constructor
    · rintro z (y | y)
      · exact h0 y
      · rw [Int64.lt_iff_toInt_lt, e5, e0] at y; omega
    · intro z
      have z2 : ¬ lrL n + lN c < 0 := fun y => z (Or.inr y)
      rw [Int64.lt_iff_toInt_lt, e5, e0] at z2; omega
