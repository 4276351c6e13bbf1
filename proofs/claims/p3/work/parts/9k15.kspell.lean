/-! Bytes: the width of a number, marks, ends, digits. -/
def nd : Nat → Nat → Nat
  | 0, _ => 0
  | f + 1, m => if m = 0 then 0 else 1 + nd f (m / 10)
theorem nd_dec : ∀ f m, m < 10 ^ (f + 1) → (decN f m).length = 1 + nd (f + 1) (m / 10) := by
  intro f
  induction f with
  | zero =>
    intro m h
    have h : m < 10 := h
    have e : m / 10 = 0 := by omega
    rw [e]; rfl
  | succ f ih =>
    intro m h
    show (if m < 10 then [nI (48 + m)] else decN f (m / 10) ++ [nI (48 + m % 10)]).length = _
    by_cases c : m < 10
    · rw [if_pos c, show m / 10 = 0 by omega]; rfl
    · rw [if_neg c, List.length_append, ih (m / 10) (by rw [Nat.pow_succ] at h; omega)]
      have e : nd (f + 1 + 1) (m / 10) = 1 + nd (f + 1) (m / 10 / 10) := by
        show (if m / 10 = 0 then 0 else 1 + nd (f + 1) (m / 10 / 10)) = _
        rw [if_neg (by omega)]
      rw [e]; show 1 + nd (f + 1) (m / 10 / 10) + 1 = _; omega
theorem dec_nd (v : Int64) : (dec v).length = (if v < 0 then 2 else 1) + nd 20 (mg v / 10) := by
  have h : (decN 19 (mg v)).length = 1 + nd 20 (mg v / 10) := nd_dec 19 (mg v) (Nat.lt_of_le_of_lt (mg_le v) (by decide))
  unfold dec
  rw [List.length_append, h]
  by_cases c : v < 0
  · rw [if_pos c, if_pos c]; show 1 + _ = _; omega
  · rw [if_neg c, if_neg c]; show 0 + _ = _; omega
section KSP
variable {Y : Nat → MethodName × ByteArray} {d : Nat} {σ : kS}
theorem k_width_l (K : kK) (v : Int64) (hK : ∀ w : Nat, w = (dec v).length → K (some (.int (nI w))) σ) (ty : kTY σ) : ∀ (f i w : Nat) (rest : Int64) (x2 x5 : Int32), i + f = 20 → x5 = nI i → x2 = nI w → w ≤ i + 2 → w + nd f (mg rest) = (dec v).length → (f = 0 → mg rest = 0) → (mg rest < 10 ^ f) →
    kjY kPP (kQQ Y) d 57 14 [some (.long v), none, some (.int x2), some (.long rest), none, some (.int x5)] [] σ K := by
  intro f
  induction f with
  | zero =>
    intro i w rest x2 x5 hi e5 e2 hw hr h0 hb
    refine kjZ_y rfl rfl 3 _ _ _ _ ty ?_
    refine And.intro (fun c => ?_) (fun c => ?_)
    · refine kjZ_y rfl rfl 2 _ _ _ _ ty ?_
      refine And.intro rfl (And.intro (Or.inl rfl) ?_)
      have := hK w (by rw [← hr]; rfl)
      rw [e2]; exact this
    · refine absurd ?_ c
      rw [e5]; exact nI_le (a := 20) (by omega) (by omega)
  | succ f ih =>
    intro i w rest x2 x5 hi e5 e2 hw hr h0 hb
    refine kjZ_y rfl rfl 3 _ _ _ _ ty ?_
    refine And.intro (fun c => ?_) (fun c => ?_)
    · refine absurd (show Int32.ofInt 20 ≤ x5 from c) ?_
      rw [e5]; exact (show ¬ nI 20 ≤ nI i from nI_ge (by omega) (by omega))
    · refine kjZ_y rfl rfl 4 _ _ _ _ ty ?_
      refine And.intro (fun c2 => ?_) (fun c2 => ?_)
      · have z : rest = 0 := (lg_cmp_eq _ _).mp c2
        refine kjZ_y rfl rfl 2 _ _ _ _ ty ?_
        refine And.intro rfl (And.intro (Or.inl rfl) ?_)
        have z2 : mg rest = 0 := mg_0.mp z
        rw [z2] at hr
        have := hK w (by rw [← hr]; rfl)
        rw [e2]; exact this
      · have z : ¬ mg rest = 0 := fun q => c2 ((lg_cmp_eq _ _).mpr (mg_0.mpr q))
        refine kjZ_y rfl rfl 7 _ _ _ _ ty ?_
        refine (And.intro (by decide) (And.intro (Nat.le_of_ble_eq_true rfl) ?_))
        have e : nd (f + 1) (mg rest) = 1 + nd f (mg rest / 10) := by
          show (if mg rest = 0 then 0 else _) = _; rw [if_neg z]
        have em : mg (rest / Int64.ofInt 10) = mg rest / 10 := by rw [t10]; exact mg_10 rest
        refine ih (i + 1) (w + 1) _ _ _ (by omega) (by rw [e5]; exact nI_1 i) (by rw [e2]; exact nI_1 w) (by omega) (by rw [em]; omega) (fun q => ?_) ?_
        · subst q; rw [em]; have : mg rest < 10 := hb; omega
        · rw [em]; rw [Nat.pow_succ] at hb; omega
theorem k_width (ty : kTY σ) (v : Int64) : kjY kPP (kQQ Y) d 57 0 (mjL0 6 [.long v]) [] σ (fun r u => u = σ ∧ r = some (.int (nI (dec v).length))) := by
  have fin : ∀ (x2 : Int32) (w : Nat), x2 = nI w → w + nd 20 (mg v / 10) = (dec v).length → w ≤ 2 → kjY kPP (kQQ Y) d 57 7 [some (.long v), none, none, none, none, none] [.int x2] σ (fun r u => u = σ ∧ r = some (.int (nI (dec v).length))) := by
    intro x2 w e2 hw h2
    refine kjZ_y rfl rfl 7 _ _ _ _ ty ?_
    refine (And.intro (Nat.le_of_ble_eq_true rfl) (And.intro (by decide) (And.intro (Nat.le_of_ble_eq_true rfl) (And.intro (Nat.le_of_ble_eq_true rfl) ?_))))
    have em : mg (v / Int64.ofInt 10) = mg v / 10 := by rw [t10]; exact mg_10 v
    have hm := mg_le v
    refine k_width_l _ v (fun w2 e => ⟨rfl, by rw [e]⟩) ty 20 0 w _ x2 _ (by omega) rfl e2 (by omega) (by rw [em]; exact hw) (fun q => by omega) ?_
    rw [em]; exact Nat.lt_of_le_of_lt (Nat.div_le_self _ _) (Nat.lt_of_le_of_lt hm (by decide))
  have hd := dec_nd v
  refine kjZ_y rfl rfl 4 _ _ _ _ ty ?_
  refine And.intro (fun c => ?_) (fun c => ?_)
  · have z : ¬ v < 0 := Int64.not_lt.mpr ((lg_cmp_ge _ _).mp c)
    refine kjZ_y rfl rfl 1 _ _ _ _ ty ?_
    exact fin _ 1 rfl (by rw [hd, if_neg z]) (by omega)
  · have z : v < 0 := Int64.not_le.mp (fun q => c ((lg_cmp_ge _ _).mpr q))
    refine kjZ_y rfl rfl 2 _ _ _ _ ty ?_
    exact fin _ 2 rfl (by rw [hd, if_pos z]) (by omega)
/-- something is written behind -/
theorem BR.put {u : kS} {b r N : Nat} {l w : List Int32} (h : BR σ b r N l) (hbr : ¬ b = r) (hw : Wi b r σ u) (hN : l.length + w.length ≤ N) (e2 : u.1 b 2 = nI (l.length + w.length)) (e : ∀ j, j < l.length → u.1 r j = σ.1 r j) (e3 : wd (u.1 r) l.length w.length = w) : BR u b r N (l ++ w) := by
  obtain ⟨h1, h2, h3, h4, h5, h6, h7⟩ := h
  have hF : u.2.2.1 = σ.2.2.1 := congrArg (fun t => t.2.1) hw.1
  have hD : u.2.2.2.1 = σ.2.2.2.1 := congrArg (fun t => t.2.2.1) hw.1
  refine ⟨by rw [hF]; exact h1, by rw [hD]; exact h2, h3, (hw.2 b 0 hbr (fun z => absurd z.2 (by decide))).trans h4, by rw [List.length_append]; exact e2, by rw [List.length_append]; exact hN, ?_⟩
  rw [List.length_append, wd_app, Nat.zero_add, e3]
  refine congrArg (· ++ w) (Eq.trans (wd_congr fun k hk => ?_) h7)
  rw [Nat.zero_add]; exact e k hk
theorem br_ne (ty : kTY σ) {b r N : Nat} {l : List Int32} (hb : b ∈ OWb) (h : BR σ b r N l) : ¬ b = r := fun z => by
  have := ob_k ty hb
  rw [z, h.2.1] at this; exact absurd (show (21 : Nat) = 0 from this) (by decide)
theorem wd_1 (f : Nat → Int32) (a : Nat) : wd f a 1 = [f a] := by rw [wd_s, wd_0]
theorem k_mark (ty : kTY σ) {b : Nat} (hb : b ∈ OWb) {r N : Nat} {l : List Int32} (h : BR σ b r N l) (hN : l.length + 1 ≤ N) (x : Int32) : kjY kPP (kQQ Y) d 53 0 (mjL0 2 [.ref b, .int x]) [] σ (fun v u => v = none ∧ Wi b r σ u ∧ BR u b r N (l ++ [x.toInt8.toInt32])) := by
  have kb := ob_k ty hb
  have hbr := br_ne ty hb h
  have h' := h
  obtain ⟨h1, h2, ⟨h3, h3'⟩, h4, h5, h6, h7⟩ := h
  refine kjZ_y rfl rfl 6 _ _ _ _ ty ?_
  refine (And.intro (by assumption) (And.intro (by assumption) (Exists.intro _ (And.intro h1 (Or.inl (And.intro (kdq h2) (And.intro (fun c => ?_) (fun c => ?_))))))))
  · refine absurd (show nI (σ.2.2.2.1 r).2 ≤ σ.1 b 2 from c) ?_
    rw [h2, h5]; exact nI_ge (by omega) (by omega)
  have vi : vp_in (σ.1 b 2) N := by rw [h5]; exact vp_in_nI (by omega) (by omega)
  have ci : (σ.1 b 2).toNatClampNeg = l.length := by rw [h5]; exact nI_clamp (by omega)
  refine kjZ_y rfl rfl 13 _ _ _ _ ty ?_
  refine (And.intro (by assumption) (Exists.intro _ (And.intro h1 (And.intro (by assumption) (And.intro ⟨(kdk h2), (b8 _)⟩ (And.intro (kdv h2 vi) (fun ty' => (And.intro (by assumption) (And.intro (by assumption) (And.intro (Or.inl rfl) (fun ty'' => ?_)))))))))))
  have ty2 := ty''
  have go : ∀ u, kTY u → u = (mjIu (mjIu σ.1 r (σ.1 b 2).toNatClampNeg x.toInt8.toInt32) b 2 (mjIu σ.1 r (σ.1 b 2).toNatClampNeg x.toInt8.toInt32 b 2 + Int32.ofInt 1), σ.2) → kjY kPP (kQQ Y) d 53 19 [some (.ref b), some (.int x)] [] u (fun v u => v = none ∧ Wi b r σ u ∧ BR u b r N (l ++ [x.toInt8.toInt32])) := by
    intro u tu eu
    refine kjZ_y rfl rfl 1 _ _ _ _ tu ?_
    refine And.intro rfl (And.intro rfl ?_)
    have eI : ∀ h y, u.1 h y = if h = b ∧ y = 2 then nI (l.length + 1) else if h = r ∧ y = l.length then x.toInt8.toInt32 else σ.1 h y := by
      intro h y
      rw [eu]
      show mjIu (mjIu σ.1 r _ _) b 2 _ h y = _
      rw [mjIu_at]
      by_cases q : h = b ∧ y = 2
      · rw [if_pos q, if_pos q, mjIu_at, if_neg (fun z => hbr z.1), h5]; exact nI_1 _
      · rw [if_neg q, if_neg q, mjIu_at, ci]
    have hwi : Wi b r σ u := ⟨by rw [eu], fun h y q1 q2 => by rw [eI, if_neg q2, if_neg (fun z => q1 z.1)]⟩
    refine ⟨rfl, hwi, h'.put hbr hwi hN (by rw [eI, if_pos ⟨rfl, rfl⟩]; rfl) (fun j hj => by rw [eI, if_neg (fun z => hbr z.1.symm), if_neg (fun z => by omega)]) ?_⟩
    show wd (u.1 r) l.length 1 = _
    rw [wd_1, eI, if_neg (fun z => hbr z.1.symm), if_pos ⟨rfl, rfl⟩]
  exact go _ ty2 rfl
theorem k_end (ty : kTY σ) {b : Nat} (hb : b ∈ OWb) {r N : Nat} {l : List Int32} (h : BR σ b r N l) (hN : l.length + 2 ≤ N) : kjY kPP (kQQ Y) d 54 0 (mjL0 1 [.ref b]) [] σ (fun v u => v = none ∧ Wi b r σ u ∧ BR u b r N (l ++ [13, 10])) := by
  have kb := ob_k ty hb
  have hbr := br_ne ty hb h
  have h' := h
  obtain ⟨h1, h2, ⟨h3, h3'⟩, h4, h5, h6, h7⟩ := h
  have e1 : σ.1 b 2 + Int32.ofInt 1 = nI (l.length + 1) := by rw [h5]; exact nI_1 _
  refine kjZ_y rfl rfl 8 _ _ _ _ ty ?_
  refine (And.intro (by assumption) (And.intro (by assumption) (Exists.intro _ (And.intro h1 (Or.inl (And.intro (kdq h2) (And.intro (fun c => ?_) (fun c => ?_))))))))
  · refine absurd (show nI (σ.2.2.2.1 r).2 ≤ σ.1 b 2 + Int32.ofInt 1 from c) ?_
    rw [h2, e1]; exact nI_ge (by omega) (by omega)
  have vi : vp_in (σ.1 b 2) N := by rw [h5]; exact vp_in_nI (by omega) (by omega)
  have ci : (σ.1 b 2).toNatClampNeg = l.length := by rw [h5]; exact nI_clamp (by omega)
  have eb : mjIu σ.1 r (σ.1 b 2).toNatClampNeg (Int8.ofInt 13).toInt32 b 2 = σ.1 b 2 := by rw [mjIu_at, if_neg (fun z => hbr z.1)]
  have vj : vp_in (mjIu σ.1 r (σ.1 b 2).toNatClampNeg (Int8.ofInt 13).toInt32 b 2 + Int32.ofInt 1) N := by rw [eb, e1]; exact vp_in_nI (by omega) (by omega)
  have cj : (mjIu σ.1 r (σ.1 b 2).toNatClampNeg (Int8.ofInt 13).toInt32 b 2 + Int32.ofInt 1).toNatClampNeg = l.length + 1 := by rw [eb, e1]; exact nI_clamp (by omega)
  refine kjZ_y rfl rfl 20 _ _ _ _ ty ?_
  refine (And.intro (by assumption) (Exists.intro _ (And.intro h1 (And.intro (by assumption) (And.intro ⟨(kdk h2), rfl⟩ (And.intro (kdv h2 vi) (fun ty' => (And.intro (by assumption) (Exists.intro _ (And.intro h1 (And.intro (by assumption) (And.intro ⟨(kdk h2), rfl⟩ (And.intro (kdv h2 vj) (fun ty'' => (And.intro (by assumption) (And.intro (by assumption) (And.intro (Or.inl rfl) (fun ty''' => ?_))))))))))))))))))
  have ty2 := ty'''
  have go : ∀ u, kTY u → (∀ h y, u.1 h y = if h = b ∧ y = 2 then nI (l.length + 2) else if h = r ∧ y = l.length + 1 then 10 else if h = r ∧ y = l.length then 13 else σ.1 h y) → u.2 = σ.2 → kjY kPP (kQQ Y) d 54 28 [some (.ref b)] [] u (fun v u => v = none ∧ Wi b r σ u ∧ BR u b r N (l ++ [13, 10])) := by
    intro u tu eI e2
    refine kjZ_y rfl rfl 1 _ _ _ _ tu ?_
    refine And.intro rfl (And.intro rfl ?_)
    have hwi : Wi b r σ u := ⟨e2, fun h y q1 q2 => by rw [eI, if_neg q2, if_neg (fun z => q1 z.1), if_neg (fun z => q1 z.1)]⟩
    refine ⟨rfl, hwi, h'.put hbr hwi hN (by rw [eI, if_pos ⟨rfl, rfl⟩]; rfl) (fun j hj => by rw [eI, if_neg (fun z => hbr z.1.symm), if_neg (fun z => by omega), if_neg (fun z => by omega)]) ?_⟩
    show wd (u.1 r) l.length 2 = _
    rw [wd_s, wd_1, eI, if_neg (fun z => hbr z.1.symm), if_neg (fun z => by omega), if_pos ⟨rfl, rfl⟩, eI, if_neg (fun z => hbr z.1.symm), if_pos ⟨rfl, rfl⟩]
  refine go _ ty2 (fun h y => ?_) rfl
  show mjIu (mjIu (mjIu σ.1 r _ _) r _ _) b 2 _ h y = _
  rw [mjIu_at]
  by_cases q : h = b ∧ y = 2
  · rw [if_pos q, if_pos q]
    show mjIu (mjIu σ.1 r _ _) r _ _ b 2 + Int32.ofInt 2 = _
    rw [mjIu_at, if_neg (fun z => hbr z.1), eb, h5]; exact nI_add _ 2
  · rw [if_neg q, if_neg q, mjIu_at]
    rw [cj]
    by_cases q2 : h = r ∧ y = l.length + 1
    · rw [if_pos q2, if_pos q2]; rfl
    · rw [if_neg q2, if_neg q2, mjIu_at, ci]
      by_cases q3 : h = r ∧ y = l.length
      · rw [if_pos q3, if_pos q3]; rfl
      · rw [if_neg q3, if_neg q3]
end KSP
