/-! Places in a sorted list when another key goes. -/
theorem SRT_iff {A : List AK} : SRT A ↔ ∀ i j (hi : i < A.length) (hj : j < A.length), i < j → cmpW (A[i]).1 (A[j]).1 < 0 := by
  have e : ∀ i (h : i < A.length), (anm A).getD i [] = (A[i]).1 := fun i h => anm_get (List.getElem?_eq_getElem h)
  constructor
  · intro h i j hi hj hij
    have := h i j hij (by rw [anm_len]; exact hj)
    rw [e i hi, e j hj] at this; exact this
  · intro h i j hij hj
    rw [anm_len] at hj
    rw [e i (by omega), e j hj]; exact h i j (by omega) hj hij
theorem SRT_P {A : List AK} : SRT A ↔ A.Pairwise (fun a b => cmpW a.1 b.1 < 0) := by
  rw [SRT_iff, List.pairwise_iff_getElem]
theorem pl_split {R S : List AK} (hs : SRT (R ++ S)) (w : List Int32) (h1 : ∀ a ∈ R, cmpW a.1 w < 0) (h2 : ∀ a ∈ S, ¬ cmpW a.1 w < 0) : plF (anm (R ++ S)) w = R.length := by
  have hl : (anm (R ++ S)).length = R.length + S.length := by rw [anm_len, List.length_append]
  refine plF_uniq hs w _ (by omega) (fun i hi => ?_) (fun i ha hb => ?_)
  · rw [anm_get (a := R[i]) (by rw [List.getElem?_append_left hi, List.getElem?_eq_getElem hi])]
    exact h1 _ (List.getElem_mem _)
  · have h : i - R.length < S.length := by omega
    rw [anm_get (a := S[i - R.length]) (by rw [List.getElem?_append_right ha, List.getElem?_eq_getElem h])]
    exact h2 _ (List.getElem_mem _)
theorem pl_cut {A : List AK} (hs : SRT A) (w : List Int32) : ∃ R S, A = R ++ S ∧ R.length = plF (anm A) w ∧ (∀ a ∈ R, cmpW a.1 w < 0) ∧ ∀ a ∈ S, ¬ cmpW a.1 w < 0 := by
  obtain ⟨a, b⟩ := plF_spec hs w
  have hp := plF_le (anm A) w
  rw [anm_len] at hp b
  refine ⟨A.take (plF (anm A) w), A.drop (plF (anm A) w), (List.take_append_drop _ _).symm, by rw [List.length_take]; omega, fun x hx => ?_, fun x hx => ?_⟩
  · obtain ⟨i, hi, e⟩ := List.mem_iff_getElem.mp hx
    rw [List.length_take] at hi
    rw [List.getElem_take] at e
    have := a i (by omega)
    rw [anm_get (a := A[i]) (List.getElem?_eq_getElem (by omega)), e] at this; exact this
  · obtain ⟨i, hi, e⟩ := List.mem_iff_getElem.mp hx
    rw [List.length_drop] at hi
    rw [List.getElem_drop] at e
    have := b (plF (anm A) w + i) (by omega) (by omega)
    rw [anm_get (a := A[plF (anm A) w + i]) (List.getElem?_eq_getElem (by omega)), e] at this; exact this
def hdE (S : List AK) (w : List Int32) : Prop := match S with
  | [] => False
  | a :: _ => cmpW a.1 w = 0
theorem or_split {R S : List AK} (hs : SRT (R ++ S)) (w : List Int32) (s : Int32) (h1 : ∀ a ∈ R, cmpW a.1 w < 0) (h2 : ∀ a ∈ S, ¬ cmpW a.1 w < 0) : (hdE S w ∧ kyI (R ++ S) w = some R.length ∧ orA (R ++ S) w s = (R ++ S, R.length)) ∨ ((¬ hdE S w) ∧ kyI (R ++ S) w = none ∧ orA (R ++ S) w s = (R ++ (w, s, 0, 0, [], []) :: S, R.length)) := by
  have ep := pl_split hs w h1 h2
  have go : ∀ h : kyI (R ++ S) w = none, orA (R ++ S) w s = (R ++ (w, s, 0, 0, [], []) :: S, R.length) := fun h => by
    rw [orA_none h, ep]; unfold inA; rw [List.take_left, List.drop_left]
  cases S with
  | nil =>
    have h : kyI (R ++ []) w = none := by unfold kyI; rw [ep, List.getElem?_eq_none (by rw [List.length_append]; exact Nat.le_refl _)]
    exact Or.inr ⟨fun z => z, h, go h⟩
  | cons a T =>
    have e : kyI (R ++ a :: T) w = if cmpW a.1 w = 0 then some R.length else none := by unfold kyI; rw [ep, gtA]
    by_cases c : cmpW a.1 w = 0
    · rw [if_pos c] at e
      exact Or.inl ⟨c, e, orA_some e⟩
    · rw [if_neg c] at e
      exact Or.inr ⟨c, e, go e⟩
theorem stl1_e {P Q : List AK} {a : AK} {n : Nat} (h : a.2.2.2.2.2 = []) (hn : n = P.length) : stl1 (P ++ a :: Q) n = P ++ Q := by
  unfold stl1; rw [hn, gtA]
  show (if a.2.2.2.2.2 = [] then _ else _) = _
  rw [if_pos h, rmA_at]
/-- a key that holds nothing goes before or behind another one's coming -/
theorem mv_drop {R S : List AK} {a : AK} (hs : SRT (R ++ a :: S)) (w : List Int32) (hne : ¬ cmpW a.1 w = 0) (hae : a.2.2.2.2.2 = []) (g : AK → AK) (s : Int32) : stl1 (upA (orA (R ++ a :: S) w s).1 (orA (R ++ a :: S) w s).2 g) (if kyI (R ++ a :: S) w = none ∧ (orA (R ++ a :: S) w s).2 ≤ R.length then R.length + 1 else R.length) = upA (orA (R ++ S) w s).1 (orA (R ++ S) w s).2 g := by
  have hp := SRT_P.mp hs
  obtain ⟨p1, p2, p3⟩ := List.pairwise_append.mp hp
  obtain ⟨p4, p5⟩ := List.pairwise_cons.mp p2
  have hs2 : SRT (R ++ S) := SRT_P.mpr (List.pairwise_append.mpr ⟨p1, p5, fun x hx y hy => p3 x hx y (List.mem_cons_of_mem _ hy)⟩)
  by_cases c : cmpW a.1 w < 0
  · have hR : ∀ x ∈ R, cmpW x.1 w < 0 := fun x hx => cmpW_trans _ _ _ (p3 x hx a List.mem_cons_self) c
    obtain ⟨S1, S2, rfl, -, q1, q2⟩ := pl_cut (SRT_P.mpr p5) w
    have e1 : R ++ a :: (S1 ++ S2) = (R ++ a :: S1) ++ S2 := by rw [List.append_assoc]; rfl
    have e2 : R ++ (S1 ++ S2) = (R ++ S1) ++ S2 := by rw [List.append_assoc]
    rw [e1] at hs ⊢
    rw [e2] at hs2 ⊢
    have m1 : ∀ x ∈ R ++ a :: S1, cmpW x.1 w < 0 := fun x hx => by
      rcases List.mem_append.mp hx with h | h
      · exact hR x h
      · rcases List.mem_cons.mp h with h | h
        · rw [h]; exact c
        · exact q1 x h
    have m2 : ∀ x ∈ R ++ S1, cmpW x.1 w < 0 := fun x hx => by
      rcases List.mem_append.mp hx with h | h
      · exact hR x h
      · exact q1 x h
    rcases or_split hs w s m1 q2 with ⟨h1, h2, h3⟩ | ⟨h1, h2, h3⟩
    · rcases or_split hs2 w s m2 q2 with ⟨-, k2, k3⟩ | ⟨k1, -⟩
      · rw [h3, h2, k3, if_neg (fun z => by cases z.1)]
        cases S2 with
        | nil => exact absurd h1 (fun z => z)
        | cons b T =>
          show stl1 (upA ((R ++ a :: S1) ++ b :: T) (R ++ a :: S1).length g) _ = upA ((R ++ S1) ++ b :: T) (R ++ S1).length g
          rw [upA_at, upA_at, List.append_assoc, List.append_assoc]
          exact stl1_e (P := R) hae rfl
      · exact absurd h1 k1
    · rcases or_split hs2 w s m2 q2 with ⟨k1, -⟩ | ⟨-, k2, k3⟩
      · exact absurd k1 h1
      · rw [h3, h2, k3, if_neg (fun z => by
          have z2 : (R ++ a :: S1).length ≤ R.length := z.2
          rw [List.length_append, List.length_cons] at z2; omega)]
        show stl1 (upA ((R ++ a :: S1) ++ _ :: S2) (R ++ a :: S1).length g) _ = upA ((R ++ S1) ++ _ :: S2) (R ++ S1).length g
        rw [upA_at, upA_at, List.append_assoc, List.append_assoc]
        exact stl1_e (P := R) hae rfl
  · have cw : cmpW w a.1 < 0 := by rw [cmpW_anti a.1 w]; omega
    have hS : ∀ x ∈ a :: S, cmpW w x.1 < 0 := fun x hx => by
      rcases List.mem_cons.mp hx with h | h
      · rw [h]; exact cw
      · exact cmpW_trans _ _ _ cw (p4 x h)
    have hS2 : ∀ x ∈ a :: S, ¬ cmpW x.1 w < 0 := fun x hx z => by have := hS x hx; rw [cmpW_anti x.1 w] at this; omega
    have hS3 : ∀ x ∈ a :: S, ¬ cmpW x.1 w = 0 := fun x hx z => by have := hS x hx; rw [cmpW_anti x.1 w] at this; omega
    obtain ⟨R1, R2, rfl, -, q1, q2⟩ := pl_cut (SRT_P.mpr p1) w
    rw [List.append_assoc] at hs ⊢
    have e2 : R1 ++ R2 ++ S = R1 ++ (R2 ++ S) := List.append_assoc _ _ _
    rw [e2] at hs2 ⊢
    have m1 : ∀ x ∈ R2 ++ a :: S, ¬ cmpW x.1 w < 0 := fun x hx => by
      rcases List.mem_append.mp hx with h | h
      · exact q2 x h
      · exact hS2 x h
    have m2 : ∀ x ∈ R2 ++ S, ¬ cmpW x.1 w < 0 := fun x hx => by
      rcases List.mem_append.mp hx with h | h
      · exact q2 x h
      · exact hS2 x (List.mem_cons_of_mem _ h)
    have hh : hdE (R2 ++ a :: S) w ↔ hdE (R2 ++ S) w := by
      cases R2 with
      | nil =>
        refine ⟨fun z => absurd z (hS3 a List.mem_cons_self), fun z => ?_⟩
        cases S with
        | nil => exact absurd z (fun y => y)
        | cons b T => exact absurd z (hS3 b (List.mem_cons_of_mem _ List.mem_cons_self))
      | cons b T => exact Iff.rfl
    rcases or_split hs w s q1 m1 with ⟨h1, h2, h3⟩ | ⟨h1, h2, h3⟩
    · rcases or_split hs2 w s q1 m2 with ⟨-, k2, k3⟩ | ⟨k1, -⟩
      · rw [h3, h2, k3, if_neg (fun z => by cases z.1)]
        cases R2 with
        | nil => exact absurd h1 (hS3 a List.mem_cons_self)
        | cons b T =>
          show stl1 (upA (R1 ++ b :: (T ++ a :: S)) R1.length g) _ = upA (R1 ++ b :: (T ++ S)) R1.length g
          rw [upA_at, upA_at]
          have e3 : R1 ++ g b :: (T ++ a :: S) = (R1 ++ g b :: T) ++ a :: S := by rw [List.append_assoc]; rfl
          have e4 : R1 ++ g b :: (T ++ S) = (R1 ++ g b :: T) ++ S := by rw [List.append_assoc]; rfl
          rw [e3, e4]
          exact stl1_e hae (by rw [List.length_append, List.length_append]; rfl)
      · exact absurd (hh.mp h1) k1
    · rcases or_split hs2 w s q1 m2 with ⟨k1, -⟩ | ⟨-, k2, k3⟩
      · exact absurd (hh.mpr k1) h1
      · rw [h3, h2, k3, if_pos ⟨rfl, by show R1.length ≤ _; rw [List.length_append]; omega⟩]
        show stl1 (upA (R1 ++ _ :: (R2 ++ a :: S)) R1.length g) _ = upA (R1 ++ _ :: (R2 ++ S)) R1.length g
        rw [upA_at, upA_at]
        have e3 : R1 ++ g (w, s, 0, 0, [], []) :: (R2 ++ a :: S) = (R1 ++ g (w, s, 0, 0, [], []) :: R2) ++ a :: S := by rw [List.append_assoc]; rfl
        have e4 : R1 ++ g (w, s, 0, 0, [], []) :: (R2 ++ S) = (R1 ++ g (w, s, 0, 0, [], []) :: R2) ++ S := by rw [List.append_assoc]; rfl
        rw [e3, e4]
        exact stl1_e hae (by rw [List.length_append, List.length_append, List.length_cons]; omega)
/-- a key that holds something stays -/
theorem stl1_s {A : List AK} {n : Nat} (h : ∀ a, A[n]? = some a → ¬ a.2.2.2.2.2 = []) : stl1 A n = A := by
  unfold stl1
  cases e : A[n]? with
  | none => rfl
  | some a =>
    show (if a.2.2.2.2.2 = [] then _ else _) = _
    rw [if_neg (h a e)]
theorem mv_keep {R S : List AK} {a : AK} (hs : SRT (R ++ a :: S)) (w : List Int32) (hae : ¬ a.2.2.2.2.2 = []) (g : AK → AK) (hg : ∀ b, ¬ (g b).2.2.2.2.2 = []) (s : Int32) : stl1 (upA (orA (R ++ a :: S) w s).1 (orA (R ++ a :: S) w s).2 g) (if kyI (R ++ a :: S) w = none ∧ (orA (R ++ a :: S) w s).2 ≤ R.length then R.length + 1 else R.length) = upA (orA (R ++ a :: S) w s).1 (orA (R ++ a :: S) w s).2 g := by
  refine stl1_s (fun b hb => ?_)
  rw [upA_get] at hb
  by_cases c : (if kyI (R ++ a :: S) w = none ∧ (orA (R ++ a :: S) w s).2 ≤ R.length then R.length + 1 else R.length) = (orA (R ++ a :: S) w s).2
  · rw [if_pos c] at hb
    cases h : (orA (R ++ a :: S) w s).1[if kyI (R ++ a :: S) w = none ∧ (orA (R ++ a :: S) w s).2 ≤ R.length then R.length + 1 else R.length]? with
    | none => rw [h] at hb; cases hb
    | some x => rw [h] at hb; cases hb; exact hg x
  · rw [if_neg c] at hb
    cases h : kyI (R ++ a :: S) w with
    | some p =>
      rw [h, orA_some h, if_neg (fun z => by cases z.1)] at hb
      have hb : (R ++ a :: S)[R.length]? = some b := hb
      rw [gtA] at hb; cases hb; exact hae
    | none =>
      have hp := plF_le (anm (R ++ a :: S)) w
      rw [anm_len] at hp
      have e : orA (R ++ a :: S) w s = (inA (R ++ a :: S) (plF (anm (R ++ a :: S)) w) (w, s, 0, 0, [], []), plF (anm (R ++ a :: S)) w) := orA_none h
      rw [e, h] at hb
      generalize plF (anm (R ++ a :: S)) w = q at hb hp
      have hb : (inA (R ++ a :: S) q (w, s, 0, 0, [], []))[if (none : Option Nat) = none ∧ q ≤ R.length then R.length + 1 else R.length]? = some b := hb
      have ha : (R ++ a :: S)[R.length]? = some a := gtA R a S
      unfold inA at hb
      by_cases c2 : q ≤ R.length
      · rw [if_pos ⟨rfl, c2⟩, List.getElem?_append_right (by rw [List.length_take]; omega), List.length_take, Nat.min_eq_left hp, show R.length + 1 - q = (R.length - q) + 1 by omega, List.getElem?_cons_succ, List.getElem?_drop, show q + (R.length - q) = R.length by omega, ha] at hb
        cases hb; exact hae
      · rw [if_neg (fun z => c2 z.2), List.getElem?_append_left (by rw [List.length_take]; omega), List.getElem?_take_of_lt (by omega), ha] at hb
        cases hb; exact hae
