/-! Orders: a place in the line. -/
def lpB (sc : Int64) (v : List Int32) (z : AE) : Prop := z.2.2 < sc ∨ (z.2.2 = sc ∧ cmpW z.1 v < 0)
theorem lpB_tr {sc : Int64} {v : List Int32} {a b : AE} (h : a.2.2 < b.2.2 ∨ (a.2.2 = b.2.2 ∧ cmpW a.1 b.1 < 0)) (h2 : lpB sc v b) : lpB sc v a := by
  unfold lpB at *
  rcases h with h | ⟨h, g⟩ <;> rcases h2 with k | ⟨k, m⟩
  · exact Or.inl (Int64.lt_trans h k)
  · exact Or.inl (by rw [← k]; exact h)
  · exact Or.inl (by rw [h]; exact k)
  · exact Or.inr ⟨h.trans k, cmpW_trans _ _ _ g m⟩
/-- the place of a score and a name in the line -/
def lpP (sc : Int64) (v : List Int32) (es : List AE) (p : Nat) : Prop := p ≤ es.length ∧ (∀ i z, i < p → es[i]? = some z → lpB sc v z) ∧ ∀ i z, p ≤ i → es[i]? = some z → ¬ lpB sc v z
theorem lpP_u {sc : Int64} {v : List Int32} {es : List AE} {p q : Nat} (hp : lpP sc v es p) (hq : lpP sc v es q) : p = q := by
  rcases Nat.lt_trichotomy p q with h | h | h
  · have := List.getElem?_eq_getElem (show p < es.length by have := hq.1; omega)
    exact absurd (hq.2.1 p _ h this) (hp.2.2 p _ (Nat.le_refl _) this)
  · exact h
  · have := List.getElem?_eq_getElem (show q < es.length by have := hp.1; omega)
    exact absurd (hp.2.1 q _ h this) (hq.2.2 q _ (Nat.le_refl _) this)
section KLINE
variable {Y : Nat → MethodName × ByteArray} {d : Nat} {σ : kS} {nm : List (List Int32)}
theorem k_line_l (ty : kTY σ) (hw : WRD σ nm) {il sl : List Nat} {vs : List VR} {M T : Int32} (h : RST σ il sl vs M T) {s : Nat} {r : VR} (hs : vs[s]? = some r) (hk0 : ¬ r.2.1 = 0) {q1 q3 : List Int64} (hq1 : r.2.2.2.2.2.2.2[1]? = some q1) (hq3 : r.2.2.2.2.2.2.2[3]? = some q3) {es : List AE} (hid : IDL nm q1 (es.map (fun z => z.1))) (hsc : q3 = es.map (fun z => z.2.2)) (hn : es.length = r.2.2.1) (hn2 : es.length < 2 ^ 29) (hZ : ZP es) {v : List Int32} {kw : Nat} (hk : nm[kw]? = some v) (sc : Int64) (x4 : Int32) (e4 : x4 = nI kw) :
    ∀ (f lo hi : Nat) (x5 x6 : Int32) (o7 o8 : Option Value), x5 = nI lo → x6 = nI hi → hi - lo < f → lo ≤ hi → hi ≤ es.length → (∀ i z, i < lo → es[i]? = some z → lpB sc v z) → (∀ i z, hi ≤ i → es[i]? = some z → ¬ lpB sc v z) →
    kjY kPP (kQQ Y) (d + 2) 230 5 [some (.ref 75), some (.ref r.1), some (.long sc), none, some (.int x4), some (.int x5), some (.int x6), o7, o8, none] [] σ (fun p u => u = σ ∧ ∃ n, p = some (.int (nI n)) ∧ lpP sc v es n) := by
  have kv : (σ.2.2.2.1 r.1).1 = 11 := by
    obtain ⟨ri, rs, rh, NK, rt, NT, rn, Nn, te, rc, NC, rm, Nm, ce, ls, hG⟩ := h
    obtain ⟨l, hl, hV, -⟩ := hG.v hs
    rw [hV.1.1]
  intro f
  induction f with
  | zero => intro lo hi x5 x6 o7 o8 _ _ hf; omega
  | succ f ih =>
    intro lo hi x5 x6 o7 o8 e5 e6 hf h1 h2 hl hh
    refine kjZ_y rfl rfl 3 _ _ _ _ ty ?_
    refine And.intro (fun c => ?_) (fun c => ?_)
    · have c : x6 ≤ x5 := c
      rw [e5, e6, nle (by omega) (by omega)] at c
      refine kjZ_y rfl rfl 2 _ _ _ _ ty ?_
      refine And.intro rfl (And.intro (Or.inl rfl) ?_)
      exact ⟨rfl, lo, by rw [e5], by omega, hl, fun i z a b => hh i z (by omega) b⟩
    have c : ¬ x6 ≤ x5 := c
    rw [e5, e6, nle (by omega) (by omega)] at c
    have em : ((x5 + x6).toUInt32 >>> ((Int32.ofInt 1).toUInt32 &&& Int32.toUInt32 31)).toInt32 = nI ((lo + hi) / 2) := by rw [e5, e6, nI_add]; exact ushr1 (by omega)
    have hml : (lo + hi) / 2 < es.length := by omega
    have hz := List.getElem?_eq_getElem hml
    generalize es[(lo + hi) / 2] = z at hz
    obtain ⟨km, g1, g2⟩ := hid.2 ((lo + hi) / 2) z.1 (by rw [List.getElem?_map, hz]; rfl)
    have g3 : q3[(lo + hi) / 2]? = some z.2.2 := by rw [hsc, List.getElem?_map, hz]; rfl
    have low : lpB sc v z → ∀ i t, i < (lo + hi) / 2 + 1 → es[i]? = some t → lpB sc v t := fun hb i t a b => by
      by_cases y : i = (lo + hi) / 2
      · rw [y, hz] at b; cases b; exact hb
      · have hp := List.pairwise_iff_getElem.mp hZ i ((lo + hi) / 2) (by omega) hml (by omega)
        rw [List.getElem?_eq_getElem (by omega)] at b hz
        rw [Option.some.inj b, Option.some.inj hz] at hp
        exact lpB_tr hp.1 hb
    have high : ¬ lpB sc v z → ∀ i t, (lo + hi) / 2 ≤ i → es[i]? = some t → ¬ lpB sc v t := fun hb i t a b hc => by
      by_cases y : i = (lo + hi) / 2
      · rw [y, hz] at b; cases b; exact hb hc
      · have hi' := (List.getElem?_eq_some_iff.mp b).1
        have hp := List.pairwise_iff_getElem.mp hZ ((lo + hi) / 2) i hml hi' (by omega)
        rw [List.getElem?_eq_getElem hi'] at b
        rw [List.getElem?_eq_getElem hml] at hz
        rw [Option.some.inj b, Option.some.inj hz] at hp
        exact hb (lpB_tr hp.1 hc)
    have s34 : ∀ n8 : Int64, lpB sc v z → kjY kPP (kQQ Y) (d + 2) 230 34 [some (.ref 75), some (.ref r.1), some (.long sc), none, some (.int x4), some (.int x5), some (.int x6), some (.int (nI ((lo + hi) / 2))), some (.long n8), none] [] σ (fun p u => u = σ ∧ ∃ n, p = some (.int (nI n)) ∧ lpP sc v es n) := by
      intro n8 hb
      refine kjZ_y rfl rfl 6 _ _ _ _ ty ?_
      refine (And.intro (Nat.le_of_ble_eq_true rfl) ?_)
      exact ih ((lo + hi) / 2 + 1) hi _ _ _ _ (nI_1 _) e6 (by omega) (by omega) h2 (low hb) hh
    have s39 : ∀ n8 : Int64, ¬ lpB sc v z → kjY kPP (kQQ Y) (d + 2) 230 39 [some (.ref 75), some (.ref r.1), some (.long sc), none, some (.int x4), some (.int x5), some (.int x6), some (.int (nI ((lo + hi) / 2))), some (.long n8), none] [] σ (fun p u => u = σ ∧ ∃ n, p = some (.int (nI n)) ∧ lpP sc v es n) := by
      intro n8 hb
      refine kjZ_y rfl rfl 3 _ _ _ _ ty ?_
      refine (And.intro (Nat.le_of_ble_eq_true rfl) ?_)
      exact ih lo ((lo + hi) / 2) _ _ _ _ e5 rfl (by omega) (by omega) (by omega) hl (high hb)
    have go : ∀ x7 : Int32, x7 = nI ((lo + hi) / 2) → kjY kPP (kQQ Y) (d + 2) 230 14 [some (.ref 75), some (.ref r.1), some (.long sc), none, some (.int x4), some (.int x5), some (.int x6), some (.int x7), o8, none] [] σ (fun p u => u = σ ∧ ∃ n, p = some (.int (nI n)) ∧ lpP sc v es n) := by
      intro x7 e7
      subst e7
      refine kjZ_y rfl rfl 3 _ _ _ _ ty ?_
      refine (And.intro (Nat.le_of_ble_eq_true rfl) (And.intro (Or.inl ⟨(Nat.le_of_ble_eq_true rfl), (by assumption)⟩) (And.intro (Nat.le_of_ble_eq_true rfl) (And.intro (Nat.le_of_ble_eq_true rfl) (kjY_mono ty (fun q_ u1 ty1 xu1 h_ => ?_) (k_vls ty h hs _))))))
      obtain ⟨rfl, y8, rfl, q8⟩ := h_
      intro _ _
      have e8 := q8 _ q3 _ rfl (by omega) hk0 hq3 g3
      refine kjZ_y rfl rfl 5 _ _ _ _ ty1 ?_
      refine (And.intro (Nat.le_of_ble_eq_true rfl) (And.intro (fun c2 => ?_) (fun c2 => ?_)))
      · have c2 : y8 < sc := (lg_cmp_lt _ _).mp c2
        rw [e8] at c2
        exact s34 _ (Or.inl c2)
      have c2 : ¬ y8 < sc := fun z => c2 ((lg_cmp_lt _ _).mpr z)
      rw [e8] at c2
      refine kjZ_y rfl rfl 4 _ _ _ _ ty1 ?_
      refine And.intro (fun c3 => ?_) (fun c3 => ?_)
      · have c3 : ¬ y8 = sc := fun z => c3 ((lg_cmp_eq _ _).mpr z)
        rw [e8] at c3
        exact s39 _ (fun hb => hb.elim c2 (fun z => c3 z.1))
      have c3 : y8 = sc := (lg_cmp_eq _ _).mp (Decidable.of_not_not (fun z => c3 z))
      rw [e8] at c3
      refine kjZ_y rfl rfl 5 _ _ _ _ ty1 ?_
      refine (And.intro (ty1.k (by decide) rfl) (And.intro (Nat.le_of_ble_eq_true rfl) (And.intro (Or.inl ⟨(Nat.le_of_ble_eq_true rfl), (by assumption)⟩) (And.intro (Nat.le_of_ble_eq_true rfl) (And.intro (Nat.le_of_ble_eq_true rfl) (kjY_mono ty1 (fun q_ u2 ty2 xu2 h_ => ?_) (k_voth ty1 h hs _)))))))
      obtain ⟨rfl, yo, rfl, qo⟩ := h_
      intro _ _
      have eyo : yo = nI km := by rw [qo _ q1 _ rfl (by omega) hk0 hq1 g1]; exact i64_32 km
      refine kjZ_y rfl rfl 2 _ _ _ _ ty2 ?_
      refine (And.intro (Nat.le_of_ble_eq_true rfl) (And.intro (Or.inl ⟨(Nat.le_of_ble_eq_true rfl), (ty2.k (by decide) rfl)⟩) (And.intro (Nat.le_of_ble_eq_true rfl) (And.intro (Nat.le_of_ble_eq_true rfl) (kjY_mono ty2 (fun q_ u3 ty3 xu3 h_ => ?_) (k_compare ty2 hw _ _))))))
      obtain ⟨rfl, y, rfl, qc⟩ := h_
      intro _ _
      have q2 := qc km kw _ _ eyo e4 g2 hk
      refine kjZ_y rfl rfl 1 _ _ _ _ ty3 ?_
      refine And.intro (fun c4 => ?_) (fun c4 => ?_)
      · have c4 : (0 : Int) ≤ y.toInt := Int32.le_iff_toInt_le.mp c4
        exact s39 _ (fun hb => hb.elim c2 (fun z => by have := z.2; omega))
      · have c4 : ¬ (0 : Int) ≤ y.toInt := fun z => c4 (Int32.le_iff_toInt_le.mpr z)
        exact s34 _ (Or.inr ⟨c3, by omega⟩)
    refine kjZ_y rfl rfl 6 _ _ _ _ ty ?_
    refine (And.intro (Nat.le_of_ble_eq_true rfl) ?_)
    exact go _ em
theorem k_linePlace (ty : kTY σ) (hw : WRD σ nm) {il sl : List Nat} {vs : List VR} {M T : Int32} (h : RST σ il sl vs M T) {s : Nat} {r : VR} (hs : vs[s]? = some r) (hk0 : ¬ r.2.1 = 0) {q1 q3 : List Int64} (hq1 : r.2.2.2.2.2.2.2[1]? = some q1) (hq3 : r.2.2.2.2.2.2.2[3]? = some q3) {es : List AE} (hid : IDL nm q1 (es.map (fun z => z.1))) (hsc : q3 = es.map (fun z => z.2.2)) (hn : es.length = r.2.2.1) (hn2 : es.length < 2 ^ 29) (hZ : ZP es) {v : List Int32} {kw : Nat} (hk : nm[kw]? = some v) (sc : Int64) (x4 : Int32) (e4 : x4 = nI kw) :
    kjY kPP (kQQ Y) (d + 2) 230 0 (mjL0 10 [.ref 75, .ref r.1, .long sc, .int x4]) [] σ (fun p u => u = σ ∧ ∃ n, p = some (.int (nI n)) ∧ lpP sc v es n) := by
  have kv : (σ.2.2.2.1 r.1).1 = 11 := by
    obtain ⟨ri, rs, rh, NK, rt, NT, rn, Nn, te, rc, NC, rm, Nm, ce, ls, hG⟩ := h
    obtain ⟨l, hl, hV, -⟩ := hG.v hs
    rw [hV.1.1]
  have e6 : σ.1 r.1 6 = nI es.length := by
    obtain ⟨ri, rs, rh, NK, rt, NT, rn, Nn, te, rc, NC, rm, Nm, ce, ls, hG⟩ := h
    obtain ⟨l, hl, hV, -⟩ := hG.v hs
    rw [hn]; exact hV.2.1.1
  refine kjZ_y rfl rfl 5 _ _ _ _ ty ?_
  refine (And.intro (Nat.le_of_ble_eq_true rfl) (And.intro (by assumption) (And.intro (Nat.le_of_ble_eq_true rfl) ?_)))
  exact k_line_l ty hw h hs hk0 hq1 hq3 hid hsc hn hn2 hZ hk sc x4 e4 (es.length + 1) 0 es.length _ _ _ _ rfl e6 (by omega) (Nat.zero_le _) (Nat.le_refl _) (fun i z a => absurd a (Nat.not_lt_zero _)) (fun i z a b => absurd (List.getElem?_eq_some_iff.mp b).1 (by omega))
end KLINE
