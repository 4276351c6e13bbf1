/-! LREM. -/
def lrI (bw : Bool) (n L0 : Int64) (piv : List Int32) (N i c : Nat) (cur G : List AE) : Prop := if bw = true then ∃ F K, cur = F ++ K ∧ F.length + i = N ∧ K.length + c = i ∧ (lrE n piv (L0 + lN c) F.reverse).reverse ++ K = G else ∃ K R, cur = K ++ R ∧ R.length + i = N ∧ K.length + c = i ∧ K ++ lrE n piv (L0 + lN c) R = G
theorem lrI_len {bw : Bool} {n L0 : Int64} {piv : List Int32} {N i c : Nat} {cur G : List AE} (h : lrI bw n L0 piv N i c cur G) : cur.length + c = N ∧ i ≤ N ∧ c ≤ i := by
  unfold lrI at h
  cases bw with
  | true =>
    rw [if_pos rfl] at h
    obtain ⟨F, K, h1, h2, h3, -⟩ := h
    rw [h1, List.length_append]; omega
  | false =>
    rw [if_neg (by decide)] at h
    obtain ⟨K, R, h1, h2, h3, -⟩ := h
    rw [h1, List.length_append]; omega
theorem lrE_stop (n : Int64) (piv : List Int32) (left : Int64) (es : List AE) (h : es = [] ∨ ¬ (n = 0 ∨ left < 0)) : lrE n piv left es = es := by
  cases es with
  | nil => rfl
  | cons z r =>
    rcases h with h | h
    · cases h
    · show (if n = 0 ∨ left < 0 then _ else z :: r) = _
      rw [if_neg h]
theorem lrI_end {bw : Bool} {n L0 : Int64} {piv : List Int32} {N i c : Nat} {cur G : List AE} (h : lrI bw n L0 piv N i c cur G) (hs : ¬ i < N ∨ ¬ (n = 0 ∨ L0 + lN c < 0)) : cur = G := by
  unfold lrI at h
  cases bw with
  | true =>
    rw [if_pos rfl] at h
    obtain ⟨F, K, h1, h2, h3, h4⟩ := h
    rw [lrE_stop, List.reverse_reverse] at h4
    · exact h1.trans h4
    · rcases hs with hs | hs
      · left; rw [List.reverse_eq_nil_iff]; exact List.length_eq_zero_iff.mp (by omega)
      · exact Or.inr hs
  | false =>
    rw [if_neg (by decide)] at h
    obtain ⟨K, R, h1, h2, h3, h4⟩ := h
    rw [lrE_stop] at h4
    · exact h1.trans h4
    · rcases hs with hs | hs
      · left; exact List.length_eq_zero_iff.mp (by omega)
      · exact Or.inr hs
theorem lN_s1 (c : Nat) : lN c + 1 = lN (c + 1) := by
  show Int64.ofNat c + Int64.ofNat 1 = Int64.ofNat (c + 1)
  rw [Int64.ofNat_add]
theorem cutL_mid {α : Type} (K : List α) (z : α) (R : List α) {p : Nat} (hp : p = K.length) : cutL (K ++ z :: R) p 1 = K ++ R := by
  unfold cutL
  rw [hp, List.take_left, ← List.drop_drop, List.drop_left]; rfl
theorem lrI_step {bw : Bool} {n L0 : Int64} {piv : List Int32} {N i c : Nat} {cur G : List AE} (h : lrI bw n L0 piv N i c cur G) (hi : i < N) (hg : n = 0 ∨ L0 + lN c < 0) {p : Nat} (hp : p = if bw = true then N - 1 - i else i - c) : ∃ z, cur[p]? = some z ∧ (cmpW z.1 piv = 0 → lrI bw n L0 piv N (i + 1) (c + 1) (cutL cur p 1) G) ∧ (¬ cmpW z.1 piv = 0 → lrI bw n L0 piv N (i + 1) c cur G) := by
  unfold lrI at h ⊢
  have el : L0 + lN c + 1 = L0 + lN (c + 1) := by rw [Int64.add_assoc, lN_s1]
  cases bw with
  | true =>
    rw [if_pos rfl] at h hp
    obtain ⟨F, K, h1, h2, h3, h4⟩ := h
    rcases List.eq_nil_or_concat F with hF | ⟨F', z, hF⟩
    · rw [hF, List.length_nil] at h2; omega
    rw [List.concat_eq_append] at hF
    rw [hF, List.length_append, List.length_singleton] at h2
    rw [hF, List.append_assoc] at h1
    have h1 : cur = F' ++ z :: K := h1
    rw [hF, List.reverse_append] at h4
    have h4 : (if n = 0 ∨ L0 + lN c < 0 then (if cmpW z.1 piv = 0 then lrE n piv (L0 + lN c + 1) F'.reverse else z :: lrE n piv (L0 + lN c) F'.reverse) else z :: F'.reverse).reverse ++ K = G := h4
    rw [if_pos hg] at h4
    have hpF : p = F'.length := by omega
    refine ⟨z, ?_, fun hc => ?_, fun hc => ?_⟩
    · rw [h1, hpF, List.getElem?_append_right (Nat.le_refl _), Nat.sub_self]; rfl
    · rw [if_pos rfl]
      rw [if_pos hc, el] at h4
      exact ⟨F', K, by rw [h1]; exact cutL_mid _ _ _ hpF, by omega, by omega, h4⟩
    · rw [if_pos rfl]
      rw [if_neg hc, List.reverse_cons, List.append_assoc] at h4
      exact ⟨F', z :: K, h1, by omega, by rw [List.length_cons]; omega, h4⟩
  | false =>
    rw [if_neg (by decide)] at h hp
    obtain ⟨K, R, h1, h2, h3, h4⟩ := h
    cases R with
    | nil => rw [List.length_nil] at h2; omega
    | cons z R =>
      rw [List.length_cons] at h2
      have h4 : K ++ (if n = 0 ∨ L0 + lN c < 0 then (if cmpW z.1 piv = 0 then lrE n piv (L0 + lN c + 1) R else z :: lrE n piv (L0 + lN c) R) else z :: R) = G := h4
      rw [if_pos hg] at h4
      have hpF : p = K.length := by omega
      refine ⟨z, ?_, fun hc => ?_, fun hc => ?_⟩
      · rw [h1, hpF, List.getElem?_append_right (Nat.le_refl _), Nat.sub_self]; rfl
      · rw [if_neg (by decide)]
        rw [if_pos hc, el] at h4
        exact ⟨K, R, by rw [h1]; exact cutL_mid _ _ _ hpF, by omega, by omega, h4⟩
      · rw [if_neg (by decide)]
        rw [if_neg hc] at h4
        exact ⟨K ++ [z], R, by rw [h1, List.append_assoc]; rfl, by omega, by rw [List.length_append, List.length_singleton]; omega, by rw [List.append_assoc]; exact h4⟩
/-- the count's start -/
def lrL (n : Int64) : Int64 := if n < 0 then n else if 0 < n then -n else n
theorem lrI_0 (n : Int64) (piv : List Int32) (es : List AE) : lrI (decide (n < 0)) n (lrL n) piv es.length 0 0 es (lrG n piv es) := by
  have e0 : lrL n + lN 0 = lrL n := Int64.add_zero _
  unfold lrI lrG
  rw [e0]
  by_cases c : n < 0
  · rw [decide_eq_true c, if_pos rfl, if_pos c]
    exact ⟨es, [], (List.append_nil _).symm, rfl, rfl, by unfold lrL; rw [if_pos c, List.append_nil]⟩
  · rw [decide_eq_false c, if_neg (by decide), if_neg c]
    exact ⟨[], es, rfl, rfl, rfl, by unfold lrL; rw [if_neg c]; rfl⟩
/-- the count as the class has it -/
def lrM (n : Int64) : Int64 := if n = 0 then Int64.minValue else if n < 0 then n else -n
theorem lr_go (n : Int64) {c : Nat} (hc : c ≤ 131072) : (-(nI c)).toInt64 ≤ lrM n ↔ ¬ (n = 0 ∨ lrL n + lN c < 0) := by
  have e1 : (-(nI c)).toInt64.toInt = -(c : Int) := by
    rw [Int32.toInt_toInt64, Int32.toInt_neg, nI_toInt (by omega)]
    exact Int.bmod_eq_of_le (by omega) (by omega)
  have e0 : (0 : Int64).toInt = 0 := by decide
  rw [Int64.le_iff_toInt_le, e1]
  by_cases h0 : n = 0
  · refine ⟨fun z => ?_, fun z => absurd (Or.inl h0) z⟩
    unfold lrM at z; rw [if_pos h0] at z
    have em : Int64.minValue.toInt = -9223372036854775808 := by decide
    rw [em] at z; omega
  · have hr1 := n.le_toInt
    have hr2 := n.toInt_lt
    have e2 : lrM n = lrL n ∧ (lrL n).toInt < 0 ∧ -9223372036854775808 ≤ (lrL n).toInt := by
      unfold lrM lrL
      rw [if_neg h0]
      by_cases c1 : n < 0
      · rw [if_pos c1, if_pos c1]
        have := Int64.lt_iff_toInt_lt.mp c1
        rw [e0] at this
        exact ⟨rfl, this, by omega⟩
      · rw [if_neg c1, if_neg c1]
        have c2 : 0 < n := by
          rw [Int64.lt_iff_toInt_lt, e0]
          have c3 : ¬ n.toInt < 0 := fun z => c1 (by rw [Int64.lt_iff_toInt_lt, e0]; exact z)
          have c4 : ¬ n.toInt = 0 := fun z => h0 (Int64.toInt_inj.mp (z.trans e0.symm))
          omega
        rw [if_pos c2]
        have c5 := Int64.lt_iff_toInt_lt.mp c2
        rw [e0] at c5
        have e3 : (-n).toInt = -n.toInt := by
          rw [Int64.toInt_neg]; exact Int.bmod_eq_of_le (by omega) (by omega)
        rw [e3]; exact ⟨rfl, by omega, by omega⟩
    obtain ⟨e2, e3, e4⟩ := e2
    have e5 : (lrL n + lN c).toInt = (lrL n).toInt + c := by
      rw [Int64.toInt_add, pk_lT (by omega)]; exact Int.bmod_eq_of_le (by omega) (by omega)
    rw [e2]
    constructor
    · rintro z (y | y)
      · exact h0 y
      · rw [Int64.lt_iff_toInt_lt, e5, e0] at y; omega
    · intro z
      have z2 : ¬ lrL n + lN c < 0 := fun y => z (Or.inr y)
      rw [Int64.lt_iff_toInt_lt, e5, e0] at z2; omega
section KLREM
variable {Y : Nat → MethodName × ByteArray} {d : Nat} {σ0 σ u : kS} {B ws nm nm' : List (List Int32)} {ks : List KC}
theorem k_lrs_l (K : kK) {P Q : List KC} {y : KC} (hs : y.2.2.2.2.2.2.1 = 1) {kw : Nat} {piv : List Int32} (hp : nm[kw]? = some piv) (n : Int64) {G : List AE} {N : Nat} (hN : N ≤ 131072) (x1 x3 x6 x7 : Int32) (x4 : Int64) (e3 : x3 = if n < 0 then 1 else 0) (e4 : x4 = lrM n) (e6 : x6 = nI kw) (e7 : x7 = nI N)
    (hK : ∀ u c x8 x9 l10, kTY u → x8 = nI c → c ≤ N → G.length + c = N → KWd σ0 B u ws nm (P ++ mkK y (esF (fun _ => G) y.2.2.2.2.2) :: Q) → SCl scA σ u → kjY kPP (kQQ Y) (d + 5) 198 102 [some (.ref 70), some (.int x1), some (.ref y.1), some (.int x3), some (.long x4), none, some (.int x6), some (.int x7), some (.int x8), some (.int x9), l10] [] u K) :
    ∀ (f i c : Nat) (x8 x9 : Int32) (l10 : Option Value) (cur : List AE) (u : kS), i + f = N → x9 = nI i → x8 = nI c → lrI (decide (n < 0)) n (lrL n) piv N i c cur G → kTY u → KWd σ0 B u ws nm (P ++ mkK y (esF (fun _ => cur) y.2.2.2.2.2) :: Q) → SCl scA σ u →
    kjY kPP (kQQ Y) (d + 5) 198 68 [some (.ref 70), some (.int x1), some (.ref y.1), some (.int x3), some (.long x4), none, some (.int x6), some (.int x7), some (.int x8), some (.int x9), l10] [] u K := by
  intro f
  induction f with
  | zero =>
    intro i c x8 x9 l10 cur u hi e9 e8 hI tu wu su
    obtain ⟨l1, l2, l3⟩ := lrI_len hI
    have eG := lrI_end hI (Or.inl (by omega))
    rw [eG] at wu l1
    have kv : (u.2.2.2.1 y.1).1 = 11 := (wu.sz (x := mkK y (esF (fun _ => G) y.2.2.2.2.2)) (by show ¬ y.2.2.2.2.2.2.1 = 0; rw [hs]; decide)).2.2
    refine kjZ_y rfl rfl 3 _ _ _ _ tu ?_
    refine And.intro (fun o => ?_) (fun o => ?_)
    rotate_left
    · refine absurd (show x7 ≤ x9 from ?_) o
      rw [e7, e9, nle (by omega) (by omega)]; omega
    exact hK u c x8 x9 l10 tu e8 (by omega) l1 wu su
  | succ f ih =>
    intro i c x8 x9 l10 cur u hi e9 e8 hI tu wu su
    obtain ⟨l1, l2, l3⟩ := lrI_len hI
    have kv : (u.2.2.2.1 y.1).1 = 11 := (wu.sz (x := mkK y (esF (fun _ => cur) y.2.2.2.2.2)) (by show ¬ y.2.2.2.2.2.2.1 = 0; rw [hs]; decide)).2.2
    refine kjZ_y rfl rfl 3 _ _ _ _ tu ?_
    refine And.intro (fun o => ?_) (fun o => ?_)
    · refine absurd (show x7 ≤ x9 from o) ?_
      rw [e7, e9, nle (by omega) (by omega)]; omega
    have hgo := lr_go n (c := c) (by omega)
    refine kjZ_y rfl rfl 6 _ _ _ _ tu ?_
    refine And.intro (fun o2 => ?_) (fun o2 => ?_)
    · have o2 : (-x8).toInt64 ≤ x4 := (lg_cmp_le _ _).mp o2
      rw [e8, e4, hgo] at o2
      have eG := lrI_end hI (Or.inr o2)
      rw [eG] at wu l1
      exact hK u c x8 x9 l10 tu e8 (by omega) l1 wu su
    have o2 : ¬ (-x8).toInt64 ≤ x4 := fun z => o2 ((lg_cmp_le _ _).mpr z)
    rw [e8, e4, hgo] at o2
    have o2 : n = 0 ∨ lrL n + lN c < 0 := Classical.not_not.mp o2
    obtain ⟨z, hz, st1, st2⟩ := lrI_step hI (by omega) o2 (p := if decide (n < 0) = true then N - 1 - i else i - c) rfl
    have go : ∀ (xp : Int32), xp = nI (if decide (n < 0) = true then N - 1 - i else i - c) → kjY kPP (kQQ Y) (d + 5) 198 88 [some (.ref 70), some (.int x1), some (.ref y.1), some (.int x3), some (.long x4), none, some (.int x6), some (.int x7), some (.int x8), some (.int x9), l10] [.int xp] u K := by
      intro xp exp
      generalize (if decide (n < 0) = true then N - 1 - i else i - c) = p at exp hz st1
      refine kjZ_y rfl rfl 4 _ _ _ _ tu ?_
      refine (And.intro (Nat.le_of_ble_eq_true rfl) (And.intro (Nat.le_of_ble_eq_true rfl) (And.intro (Or.inl ⟨(Nat.le_of_ble_eq_true rfl), (by assumption)⟩) (And.intro (Nat.le_of_ble_eq_true rfl) (And.intro (Nat.le_of_ble_eq_true rfl) (kjY_mono tu (fun q_ u1 ty1 xu1 h_ => ?_) (kx_vat (x := mkK y (esF (fun _ => cur) y.2.2.2.2.2)) tu wu _)))))))
      obtain ⟨rfl, ya, rfl, qa⟩ := h_
      intro _ _
      obtain ⟨km, ea, ga⟩ := qa (Or.inl hs) p z exp hz
      have hcm := wu.2.2.1.1.cmp ty1 ga hp
      have hin := wu.2.2.1.1.inj ga hp
      refine kjZ_y rfl rfl 2 _ _ _ _ ty1 ?_
      refine And.intro (fun c2 => ?_) (fun c2 => ?_)
      · have c2 : ¬ ya = x6 := c2
        rw [ea, e6] at c2
        refine kjZ_y rfl rfl 2 _ _ _ _ ty1 ?_
        exact ih (i + 1) c _ _ _ cur u1 (by omega) (by rw [e9]; exact nI_1 i) e8 (st2 (fun y => c2 (hin.mpr (hcm.mp y)))) ty1 wu su
      · have c2 : ya = x6 := Decidable.of_not_not (fun z => c2 z)
        rw [ea, e6] at c2
        have hpl := (List.getElem?_eq_some_iff.mp hz).1
        refine kjZ_y rfl rfl 5 _ _ _ _ ty1 ?_
        refine (And.intro (Nat.le_of_ble_eq_true rfl) (And.intro (Or.inl ⟨(Nat.le_of_ble_eq_true rfl), (ty1.k (by decide) rfl)⟩) (And.intro (Nat.le_of_ble_eq_true rfl) (And.intro (Nat.le_of_ble_eq_true rfl) (kjY_mono ty1 (fun q_ u2 ty2 xu2 h_ => ?_) (kx_lrem (x := mkK y (esF (fun _ => cur) y.2.2.2.2.2)) ty1 wu hs (wkO_mk _ _) (i := p) (m := 1) (by show p + 1 ≤ cur.length; omega) _ _ exp rfl))))))
        obtain ⟨rfl, w2, s2⟩ := h_
        intro _ _
        have kv2 : (u2.2.2.2.1 y.1).1 = 11 := xu2.k ty1 kv (by decide)
        refine kjZ_y rfl rfl 3 _ _ _ _ ty2 ?_
        exact ih (i + 1) (c + 1) _ _ _ (cutL cur p 1) u2 (by omega) (by rw [e9]; exact nI_1 i) (by rw [e8]; exact nI_1 c) (st1 (hcm.mpr (hin.mp c2))) ty2 w2 (su.tr s2)
    refine kjZ_y rfl rfl 2 _ _ _ _ tu ?_
    refine And.intro (fun o3 => ?_) (fun o3 => ?_)
    · have hn : ¬ n < 0 := fun z => by rw [if_pos z] at e3; exact absurd (e3.symm.trans o3) (by decide)
      refine kjZ_y rfl rfl 3 _ _ _ _ tu ?_
      refine go _ ?_
      rw [if_neg (by rw [decide_eq_false hn]; decide), e9, e8]; exact pk_sub l3
    · have hn : n < 0 := by
        by_cases z : n < 0
        · exact z
        · rw [if_neg z] at e3; exact absurd e3 o3
      refine kjZ_y rfl rfl 6 _ _ _ _ tu ?_
      refine go _ ?_
      rw [if_pos (by rw [decide_eq_true hn]), e9, e7]
      show nI N - nI 1 - nI i = _
      rw [pk_sub (by omega), pk_sub (by omega)]
end KLREM
