/-! Keys: a place in a value; whether the memory is full, a key has another sort; times. -/
section KREFUSE
variable {Y : Nat → MethodName × ByteArray} {d : Nat} {σ0 σ u : kS} {B ws nm : List (List Int32)} {ks : List KC}
theorem i64_32 (k : Nat) : (nI k).toInt64.toInt32 = nI k := Int32.toInt32_toInt64 _
theorem kx_placeOf_l (ty : kTY σ) (hw : WRD σ nm) {il sl : List Nat} {vs : List VR} {M T : Int32} (h : RST σ il sl vs M T) {s : Nat} {r : VR} (hs : vs[s]? = some r) (hk0 : ¬ r.2.1 = 0) {q : List Int64} (hq : r.2.2.2.2.2.2.2[0]? = some q) {ns : List (List Int32)} (hi : IDL nm q ns) (hsn : SRN ns) (hn : ns.length = r.2.2.1) (hn2 : ns.length < 2 ^ 29) {v : List Int32} {kw : Nat} (hk : nm[kw]? = some v) (x2 : Int32) (e2 : x2 = nI kw) : ∀ (f lo hi : Nat) (x3 x4 : Int32) (o5 o6 : Option Value), x3 = nI lo → x4 = nI hi → hi - lo < f → lo ≤ hi → hi ≤ ns.length → (∀ i, i < lo → cmpW (ns.getD i []) v < 0) → (∀ i, hi ≤ i → i < ns.length → 0 < cmpW (ns.getD i []) v) →
    kjY kPP (kQQ Y) (d + 2) 145 9 [some (.ref 59), some (.ref r.1), some (.int x2), some (.int x3), some (.int x4), o5, o6] [] σ (fun p u => u = σ ∧ p = some (.int (fdR ns v))) := by
  have kv : (σ.2.2.2.1 r.1).1 = 11 := by
    obtain ⟨ri, rs, rh, NK, rt, NT, rn, Nn, te, rc, NC, rm, Nm, ce, ls, hG⟩ := h
    obtain ⟨l, hl, hV, -⟩ := hG.v hs
    rw [hV.1.1]
  intro f
  induction f with
  | zero => intro lo hi x3 x4 o5 o6 _ _ hf; omega
  | succ f ih =>
    intro lo hi' x3 x4 o5 o6 e3 e4 hf h1 h2 hl hh
    refine kjZ_y rfl rfl 3 _ _ _ _ ty ?_
    refine And.intro (fun c => ?_) (fun c => ?_)
    · have c : x4 ≤ x3 := c
      rw [e3, e4, nle (by omega) (by omega)] at c
      refine kjZ_y rfl rfl 4 _ _ _ _ ty ?_
      refine And.intro rfl (And.intro (Or.inl rfl) ?_)
      refine ⟨rfl, ?_⟩
      have ep : plF ns v = lo := plF_uniq hsn v lo (by omega) hl (fun i a b => by have := hh i (by omega) b; omega)
      unfold fdR
      rw [ep, e3]
      cases z : ns[lo]? with
      | none => rfl
      | some y =>
        have ql := (List.getElem?_eq_some_iff.mp z).1
        have g := hh lo (by omega) ql
        rw [List.getD_eq_getElem?_getD, z] at g
        have g : 0 < cmpW y v := g
        show _ = some (Value.int (if cmpW y v = 0 then _ else _))
        rw [if_neg (by omega)]; rfl
    · have c : ¬ x4 ≤ x3 := c
      rw [e3, e4, nle (by omega) (by omega)] at c
      have em : ((x3 + x4).toUInt32 >>> ((Int32.ofInt 1).toUInt32 &&& Int32.toUInt32 31)).toInt32 = nI ((lo + hi') / 2) := by rw [e3, e4, nI_add]; exact ushr1 (by omega)
      have hml : (lo + hi') / 2 < ns.length := by omega
      obtain ⟨km, g1, g2⟩ := hi.2 _ _ (List.getElem?_eq_getElem hml)
      refine kjZ_y rfl rfl 11 _ _ _ _ ty ?_
      refine (And.intro (Nat.le_of_ble_eq_true rfl) (And.intro (ty.k (by decide) rfl) (And.intro (Nat.le_of_ble_eq_true rfl) (And.intro (Or.inl ⟨(Nat.le_of_ble_eq_true rfl), (by assumption)⟩) (And.intro (Nat.le_of_ble_eq_true rfl) (And.intro (Nat.le_of_ble_eq_true rfl) (kjY_mono ty (fun q_ u1 ty1 xu1 h_ => ?_) (k_vat ty h hs _))))))))
      obtain ⟨rfl, y0, rfl, q0⟩ := h_
      intro _ _
      have ey0 : y0 = nI km := by rw [q0 _ q _ em (by omega) hk0 hq g1]; exact i64_32 km
      refine kjZ_y rfl rfl 2 _ _ _ _ ty1 ?_
      refine (And.intro (Nat.le_of_ble_eq_true rfl) (And.intro (Or.inl ⟨(Nat.le_of_ble_eq_true rfl), (ty1.k (by decide) rfl)⟩) (And.intro (Nat.le_of_ble_eq_true rfl) (And.intro (Nat.le_of_ble_eq_true rfl) (kjY_mono ty1 (fun q_ u2 ty2 xu2 h_ => ?_) (k_compare ty1 hw _ _))))))
      obtain ⟨rfl, y, rfl, q1⟩ := h_
      intro _ _
      have q2 := q1 km kw _ _ ey0 e2 g2 hk
      have gd : ns.getD ((lo + hi') / 2) [] = ns[(lo + hi') / 2] := by rw [List.getD_eq_getElem?_getD, List.getElem?_eq_getElem hml]; rfl
      refine kjZ_y rfl rfl 3 _ _ _ _ ty2 ?_
      refine (And.intro (Nat.le_of_ble_eq_true rfl) (And.intro (fun c2 => ?_) (fun c2 => ?_)))
      · have c2 : ¬ y = 0 := c2
        refine kjZ_y rfl rfl 2 _ _ _ _ ty2 ?_
        refine And.intro (fun c3 => ?_) (fun c3 => ?_)
        · have c3 : (0 : Int32) ≤ y := c3
          have c4 : 0 ≤ y.toInt := Int32.le_iff_toInt_le.mp c3
          have c5 : ¬ y.toInt = 0 := fun z => c2 (Int32.toInt_inj.mp z)
          refine kjZ_y rfl rfl 3 _ _ _ _ ty2 ?_
          refine (And.intro (Nat.le_of_ble_eq_true rfl) ?_)
          refine ih lo ((lo + hi') / 2) _ _ _ _ e3 em (by omega) (by omega) (by omega) hl (fun i a b => ?_)
          by_cases z : i = (lo + hi') / 2
          · rw [z, gd, ← q2]; omega
          · have s1 := hsn ((lo + hi') / 2) i (by omega) b
            rw [gd] at s1
            rw [cmpW_anti]
            have s2 : cmpW v ns[(lo + hi') / 2] < 0 := by rw [cmpW_anti, ← q2]; omega
            have := cmpW_trans _ _ _ s2 s1
            omega
        · have c3 : ¬ (0 : Int32) ≤ y := c3
          have c4 : ¬ (0 : Int) ≤ y.toInt := fun z => c3 (Int32.le_iff_toInt_le.mpr z)
          refine kjZ_y rfl rfl 6 _ _ _ _ ty2 ?_
          refine (And.intro (Nat.le_of_ble_eq_true rfl) ?_)
          refine ih ((lo + hi') / 2 + 1) hi' _ _ _ _ (by rw [em]; exact nI_1 _) e4 (by omega) (by omega) h2 (fun i a => ?_) hh
          by_cases z : i = (lo + hi') / 2
          · rw [z, gd, ← q2]; omega
          · have s1 := hsn i ((lo + hi') / 2) (by omega) hml
            rw [gd] at s1
            exact cmpW_trans _ _ _ s1 (by rw [← q2]; omega)
      · have c2 : y = 0 := Decidable.not_not.mp c2
        refine kjZ_y rfl rfl 2 _ _ _ _ ty2 ?_
        refine And.intro rfl (And.intro (Or.inl rfl) ?_)
        refine ⟨rfl, ?_⟩
        have q3 : cmpW ns[(lo + hi') / 2] v = 0 := by rw [← q2, c2]; rfl
        have eqw : ns[(lo + hi') / 2] = v := cmpW_eq _ _ (hw.b8 ty2 g2) (hw.b8 ty2 hk) q3
        have ep : plF ns v = (lo + hi') / 2 := plF_uniq hsn v _ (by omega) (fun i a => by
          have s1 := hsn i ((lo + hi') / 2) a hml
          rw [gd, eqw] at s1; exact s1) (fun i a b => by
          by_cases z : i = (lo + hi') / 2
          · rw [z, gd, q3]; decide
          · have s1 := hsn ((lo + hi') / 2) i (by omega) b
            rw [gd, eqw] at s1
            rw [cmpW_anti]; omega)
        unfold fdR
        rw [ep, List.getElem?_eq_getElem hml]
        show _ = some (Value.int (if cmpW ns[(lo + hi') / 2] v = 0 then _ else _))
        rw [if_pos q3, em]
/-- where a word stands in a value's first part -/
theorem kx_placeOf (ty : kTY σ) (hw : WRD σ nm) {il sl : List Nat} {vs : List VR} {M T : Int32} (h : RST σ il sl vs M T) {s : Nat} {r : VR} (hs : vs[s]? = some r) (hk0 : ¬ r.2.1 = 0) {q : List Int64} (hq : r.2.2.2.2.2.2.2[0]? = some q) {ns : List (List Int32)} (hi : IDL nm q ns) (hsn : SRN ns) (hn : ns.length = r.2.2.1) {v : List Int32} {kw : Nat} (hk : nm[kw]? = some v) (x2 : Int32) (e2 : x2 = nI kw) :
    kjY kPP (kQQ Y) (d + 2) 145 0 (mjL0 7 [.ref 59, .ref r.1, .int x2]) [] σ (fun p u => u = σ ∧ p = some (.int (fdR ns v))) := by
  have ho := h
  obtain ⟨ri, rs, rh, NK, rt, NT, rn, Nn, te, rc, NC, rm, Nm, ce, ls, hG⟩ := h
  obtain ⟨l, hl, hV, g1, g2, g3, -⟩ := hG.v hs
  have kv : (σ.2.2.2.1 r.1).1 = 11 := by rw [hV.1.1]
  refine kjZ_y rfl rfl 7 _ _ _ _ ty ?_
  refine (And.intro (Nat.le_of_ble_eq_true rfl) (And.intro (by assumption) (And.intro (Nat.le_of_ble_eq_true rfl) ?_)))
  exact kx_placeOf_l ty hw ho hs hk0 hq hi hsn hn (by omega) hk x2 e2 (ns.length + 1) 0 ns.length _ _ none none rfl (by rw [hn]; exact hV.2.1.1) (by omega) (Nat.zero_le _) (Nat.le_refl _) (fun i z => absurd z (Nat.not_lt_zero i)) (fun i a b => by omega)
theorem kx_placeOf0 (ty : kTY σ) (x2 : Int32) : kjY kPP (kQQ Y) d 145 0 (mjL0 7 [.ref 59, .null, .int x2]) [] σ (fun p u => u = σ ∧ p = some (.int (-1))) := by
  refine kjZ_y rfl rfl 10 _ _ _ _ ty ?_
  refine (And.intro (Nat.le_of_ble_eq_true rfl) (And.intro (Nat.le_of_ble_eq_true rfl) (And.intro (fun c => ?_) (fun c => ?_))))
  · refine kjZ_y rfl rfl 4 _ _ _ _ ty ?_
    refine And.intro rfl (And.intro (Or.inl rfl) ?_)
    exact ⟨rfl, rfl⟩
  · exact absurd (Int32.le_refl _) c
/-- safely, of any value -/
theorem kx_placeOfS_l (ty : kTY σ) (hw : WRD σ nm) {il sl : List Nat} {vs : List VR} {M T : Int32} (h : RST σ il sl vs M T) {s : Nat} {r : VR} (hs : vs[s]? = some r) (n : Nat) (hn2 : n < 2 ^ 29) (x2 : Int32) : ∀ (f lo hi : Nat) (x3 x4 : Int32) (o5 o6 : Option Value), x3 = nI lo → x4 = nI hi → hi - lo < f → lo ≤ hi → hi ≤ n →
    kjY kPP (kQQ Y) (d + 2) 145 9 [some (.ref 59), some (.ref r.1), some (.int x2), some (.int x3), some (.int x4), o5, o6] [] σ (fdS n σ) := by
  have kv : (σ.2.2.2.1 r.1).1 = 11 := by
    obtain ⟨ri, rs, rh, NK, rt, NT, rn, Nn, te, rc, NC, rm, Nm, ce, ls, hG⟩ := h
    obtain ⟨l, hl, hV, -⟩ := hG.v hs
    rw [hV.1.1]
  intro f
  induction f with
  | zero => intro lo hi x3 x4 o5 o6 _ _ hf; omega
  | succ f ih =>
    intro lo hi' x3 x4 o5 o6 e3 e4 hf h1 h2
    refine kjZ_y rfl rfl 3 _ _ _ _ ty ?_
    refine And.intro (fun c => ?_) (fun c => ?_)
    · refine kjZ_y rfl rfl 4 _ _ _ _ ty ?_
      refine And.intro rfl (And.intro (Or.inl rfl) ?_)
      exact ⟨rfl, _, rfl, Or.inr ⟨lo, by omega, by rw [e3]; rfl⟩⟩
    · have c : ¬ x4 ≤ x3 := c
      rw [e3, e4, nle (by omega) (by omega)] at c
      have em : ((x3 + x4).toUInt32 >>> ((Int32.ofInt 1).toUInt32 &&& Int32.toUInt32 31)).toInt32 = nI ((lo + hi') / 2) := by rw [e3, e4, nI_add]; exact ushr1 (by omega)
      refine kjZ_y rfl rfl 11 _ _ _ _ ty ?_
      refine (And.intro (Nat.le_of_ble_eq_true rfl) (And.intro (ty.k (by decide) rfl) (And.intro (Nat.le_of_ble_eq_true rfl) (And.intro (Or.inl ⟨(Nat.le_of_ble_eq_true rfl), (by assumption)⟩) (And.intro (Nat.le_of_ble_eq_true rfl) (And.intro (Nat.le_of_ble_eq_true rfl) (kjY_mono ty (fun q_ u1 ty1 xu1 h_ => ?_) (k_vat ty h hs _))))))))
      obtain ⟨rfl, y0, rfl, q0⟩ := h_
      intro _ _
      refine kjZ_y rfl rfl 2 _ _ _ _ ty1 ?_
      refine (And.intro (Nat.le_of_ble_eq_true rfl) (And.intro (Or.inl ⟨(Nat.le_of_ble_eq_true rfl), (ty1.k (by decide) rfl)⟩) (And.intro (Nat.le_of_ble_eq_true rfl) (And.intro (Nat.le_of_ble_eq_true rfl) (kjY_mono ty1 (fun q_ u2 ty2 xu2 h_ => ?_) (k_compare ty1 hw _ _))))))
      obtain ⟨rfl, y, rfl, q1⟩ := h_
      intro _ _
      refine kjZ_y rfl rfl 3 _ _ _ _ ty2 ?_
      refine (And.intro (Nat.le_of_ble_eq_true rfl) (And.intro (fun c2 => ?_) (fun c2 => ?_)))
      · refine kjZ_y rfl rfl 2 _ _ _ _ ty2 ?_
        refine And.intro (fun c3 => ?_) (fun c3 => ?_)
        · refine kjZ_y rfl rfl 3 _ _ _ _ ty2 ?_
          refine (And.intro (Nat.le_of_ble_eq_true rfl) ?_)
          exact ih lo ((lo + hi') / 2) _ _ _ _ e3 em (by omega) (by omega) (by omega)
        · refine kjZ_y rfl rfl 6 _ _ _ _ ty2 ?_
          refine (And.intro (Nat.le_of_ble_eq_true rfl) ?_)
          exact ih ((lo + hi') / 2 + 1) hi' _ _ _ _ (by rw [em]; exact nI_1 _) e4 (by omega) (by omega) h2
      · refine kjZ_y rfl rfl 2 _ _ _ _ ty2 ?_
        refine And.intro rfl (And.intro (Or.inl rfl) ?_)
        exact ⟨rfl, _, rfl, Or.inl ⟨(lo + hi') / 2, by omega, em⟩⟩
theorem kx_placeOfS (ty : kTY σ) (hw : WRD σ nm) {il sl : List Nat} {vs : List VR} {M T : Int32} (h : RST σ il sl vs M T) {s : Nat} {r : VR} (hs : vs[s]? = some r) (x2 : Int32) :
    kjY kPP (kQQ Y) (d + 2) 145 0 (mjL0 7 [.ref 59, .ref r.1, .int x2]) [] σ (fdS r.2.2.1 σ) := by
  have ho := h
  obtain ⟨ri, rs, rh, NK, rt, NT, rn, Nn, te, rc, NC, rm, Nm, ce, ls, hG⟩ := h
  obtain ⟨l, hl, hV, g1, g2, g3, -⟩ := hG.v hs
  have kv : (σ.2.2.2.1 r.1).1 = 11 := by rw [hV.1.1]
  refine kjZ_y rfl rfl 7 _ _ _ _ ty ?_
  refine (And.intro (Nat.le_of_ble_eq_true rfl) (And.intro (by assumption) (And.intro (Nat.le_of_ble_eq_true rfl) ?_)))
  exact kx_placeOfS_l ty hw ho hs r.2.2.1 (by omega) x2 (r.2.2.1 + 1) 0 r.2.2.1 _ _ none none rfl hV.2.1.1 (by omega) (Nat.zero_le _) (Nat.le_refl _)
theorem k_has (ty : kTY σ) {j : Nat} (hj : j < 105) (x : Int32) : kjY kPP (kQQ Y) d 88 0 (mjL0 2 [.ref (1000000 + j), .int x]) [] σ (fun r u => u = σ ∧ ((r = some (.int 1) ∧ ¬ (kCmd j).2.2.2.1 &&& x = 0) ∨ (r = some (.int 0) ∧ (kCmd j).2.2.2.1 &&& x = 0))) := by
  have ho : kOf 1004 (1000000 + j) (.int (kCmd j).2.2.2.1) := Or.inl ⟨j, hj, rfl, Or.inr (Or.inr (Or.inr (Or.inl ⟨rfl, rfl⟩)))⟩
  refine kjZ_y rfl rfl 5 _ _ _ _ ty ?_
  refine (Exists.intro _ (And.intro ho (And.intro (fun c => ?_) (fun c => ?_))))
  · refine kjZ_y rfl rfl 2 _ _ _ _ ty ?_
    refine And.intro rfl (And.intro (Or.inr (Or.inl ⟨rfl, Or.inl rfl⟩)) ?_)
    exact ⟨rfl, Or.inr ⟨rfl, c⟩⟩
  · refine kjZ_y rfl rfl 3 _ _ _ _ ty ?_
    refine And.intro rfl (And.intro (Or.inr (Or.inl ⟨rfl, Or.inr rfl⟩)) ?_)
    exact ⟨rfl, Or.inl ⟨rfl, c⟩⟩
/-- the command that runs, and whether the memory is full for it -/
def CMD (σ : kS) (j : Nat) : Prop := σ.2.2.1 53 8 = some (1000000 + j) ∧ j < 105
def fullB (σ : kS) (j : Nat) : Prop := σ.1 59 17 = 0 ∧ (¬ σ.1 59 14 < 60000) ∧ ¬ (kCmd j).2.2.2.1 &&& 1 = 0
theorem kx_isFull (ty : kTY σ) (w : KWd σ0 B σ ws nm ks) {j : Nat} (hj : CMD σ j) : kjY kPP (kQQ Y) (d + 1) 146 0 (mjL0 2 [.ref 59]) [] σ (fun r u => SCl scA σ u ∧ KWd σ0 B u ws nm ks ∧ ((r = some (.int 1) ∧ fullB σ j) ∨ (r = some (.int 0) ∧ (¬ fullB σ j) ∧ u = σ))) := by
  obtain ⟨hc, hj⟩ := hj
  have kcm : kCm (1000000 + j) := ⟨j, hj, rfl⟩
  have no : (¬ fullB σ j) → kjY kPP (kQQ Y) (d + 1) 146 17 [some (.ref 59), some (.ref (1000000 + j))] [] σ (fun r u => SCl scA σ u ∧ KWd σ0 B u ws nm ks ∧ ((r = some (.int 1) ∧ fullB σ j) ∨ (r = some (.int 0) ∧ (¬ fullB σ j) ∧ u = σ))) := by
    intro q
    refine kjZ_y rfl rfl 2 _ _ _ _ ty ?_
    refine And.intro rfl (And.intro (Or.inr (Or.inl ⟨rfl, Or.inl rfl⟩)) ?_)
    exact ⟨SCl.rf, w, Or.inr ⟨rfl, q, rfl⟩⟩
  refine kjZ_y rfl rfl 7 _ _ _ _ ty ?_
  refine (And.intro (ty.k (by decide) rfl) (And.intro (ty.k (by decide) rfl) (Exists.intro _ (And.intro hc (And.intro (Nat.le_of_ble_eq_true rfl) (And.intro (ty.k (by decide) rfl) (And.intro (fun c => ?_) (fun c => ?_))))))))
  · exact no (fun z => c z.1)
  have c : σ.1 59 17 = 0 := Decidable.not_not.mp c
  refine kjZ_y rfl rfl 4 _ _ _ _ ty ?_
  refine (And.intro (ty.k (by decide) rfl) (And.intro (fun c2 => ?_) (fun c2 => ?_)))
  · exact no (fun z => z.2.1 c2)
  refine kjZ_y rfl rfl 5 _ _ _ _ ty ?_
  refine (And.intro (Nat.le_of_ble_eq_true rfl) (And.intro (Or.inr (Or.inl ⟨rfl, by assumption⟩)) (And.intro (Nat.le_of_ble_eq_true rfl) (And.intro (Nat.le_of_ble_eq_true rfl) (kjY_mono ty (fun q_ u1 ty1 xu1 h_ => ?_) (k_has ty hj _))))))
  obtain ⟨rfl, q⟩ := h_
  intro _ _
  rcases q with ⟨rfl, q⟩ | ⟨rfl, q⟩
  · refine kjZ_y rfl rfl 1 _ _ _ _ ty1 ?_
    refine And.intro (fun c3 => ?_) (fun c3 => ?_)
    rotate_left
    · exact absurd (show ¬ (1 : Int32) = 0 by decide) c3
    refine kjZ_y rfl rfl 4 _ _ _ _ ty1 ?_
    refine (And.intro (ty1.k (by decide) rfl) (And.intro rfl (And.intro (Nat.le_of_ble_eq_true rfl) (And.intro (Or.inl ⟨(Nat.le_of_ble_eq_true rfl), (ty1.k (by decide) rfl)⟩) (And.intro (Nat.le_of_ble_eq_true rfl) (And.intro (Nat.le_of_ble_eq_true rfl) (kjY_mono ty1 (fun q_ u2 ty2 xu2 h_ => ?_) (kx_refuse ty1 w (by decide)))))))))
    obtain ⟨rfl, w2, s2⟩ := h_
    intro _ _
    refine kjZ_y rfl rfl 2 _ _ _ _ ty2 ?_
    refine And.intro rfl (And.intro (Or.inr (Or.inl ⟨rfl, Or.inr rfl⟩)) ?_)
    exact ⟨s2, w2, Or.inl ⟨rfl, c, c2, q⟩⟩
  · refine kjZ_y rfl rfl 1 _ _ _ _ ty1 ?_
    refine And.intro (fun c3 => ?_) (fun c3 => ?_)
    · exact absurd rfl c3
    exact no (fun z => z.2.2 q)
/-- the sort of a key that is there -/
theorem soT_k {P Q : List KC} {y : KC} {v : List Int32} {s : Int32} (h : kyI (skA (P ++ y :: Q)) v = some P.length) : soT (skA (P ++ y :: Q)) v s = decide (y.2.2.2.2.2.2.1 = s) := by
  unfold soT; rw [h]
  have e : (skA (P ++ y :: Q))[P.length]? = some y.2.2.2.2.2 := by rw [skA_app, skA_cons, List.getElem?_append_right (by rw [skA_len]; exact Nat.le_refl _), skA_len, Nat.sub_self]; rfl
  show (match (skA (P ++ y :: Q))[P.length]? with | some a => decide (a.2.1 = s) | none => true) = _
  rw [e]
theorem KWd.val (w : KWd σ0 B σ ws nm ks) {P Q : List KC} {y : KC} (e : ks = P ++ y :: Q) : ∃ k, y.2.2.2.2.2.2.1 = nI k ∧ k ≤ 4 ∧ σ.2.2.2.1 y.1 = (11, 0) ∧ σ.1 y.1 1 = nI k := by
  obtain ⟨fr, vs, hR, hV⟩ := w.2.2.2.2.1
  obtain ⟨r0, a1, a2, a3, a4, a5, a6⟩ := hV.1 y (by rw [e]; exact List.mem_append_right _ List.mem_cons_self)
  obtain ⟨ri, rs, rh, NK, rt, NT, rn, Nn, te, rc, NC, rm, Nm, ce, ls, hG⟩ := hR
  obtain ⟨l, hl, hV4, -⟩ := hG.v a1
  exact ⟨r0.2.1, a5.1, a5.2.1, by rw [← a2]; exact hV4.1.1, by rw [← a2]; exact hV4.1.2.2.1⟩
/-- the memory is full, or a key has another sort: it is told -/
def rfP (σ0 : kS) (B : List (List Int32)) (σ : kS) (ws nm : List (List Int32)) (ks : List KC) (Z : Prop) : kK := fun r u => ∃ nm', PRE nm nm' ∧ KWd σ0 B u ws nm' ks ∧ SCl scA σ u ∧ ((r = some (.int 1) ∧ Z) ∨ (r = some (.int 0) ∧ ¬ Z))
theorem kx_refuses_l {Z : Prop} {a b : Nat} (hB : BOK B ws) (hb : b < ws.length) {s : Nat} (hs : s ≤ 4) (x1 x2 x3 : Int32) (e2 : x2 = nI b) (e3 : x3 = nI s) (hZ1 : ∀ i v, a ≤ i → i ≤ b → ws[i]? = some v → soT (skA ks) v (nI s) = false → Z) (hZ2 : (∀ i v, a ≤ i → i ≤ b → ws[i]? = some v → soT (skA ks) v (nI s) = true) → ¬ Z) : ∀ (f i : Nat) (x4 : Int32) (o5 : Option Value) (nm' : List (List Int32)) (u : kS), i + f = b + 1 → a ≤ i → x4 = nI i → kTY u → PRE nm nm' → KWd σ0 B u ws nm' ks → SCl scA σ u → (∀ t v, a ≤ t → t < i → ws[t]? = some v → soT (skA ks) v (nI s) = true) →
    kjY kPP (kQQ Y) (d + 6) 147 7 [some (.ref 59), some (.int x1), some (.int x2), some (.int x3), some (.int x4), o5] [] u (rfP σ0 B σ ws nm ks Z) := by
  intro f
  induction f with
  | zero =>
    intro i x4 o5 nm' u hi hai e4 tu hp wu su hok
    have h1024 := wu.2.2.2.1
    obtain ⟨g, M, -, -, ⟨-, h1024⟩, -⟩ := h1024
    refine kjZ_y rfl rfl 3 _ _ _ _ tu ?_
    refine And.intro (fun c => ?_) (fun c => ?_)
    rotate_left
    · refine absurd (show x2 < x4 from ?_) c
      rw [e2, e4, nlt (by omega) (by omega)]; omega
    refine kjZ_y rfl rfl 2 _ _ _ _ tu ?_
    refine And.intro rfl (And.intro (Or.inr (Or.inl ⟨rfl, Or.inl rfl⟩)) ?_)
    exact ⟨nm', hp, wu, su, Or.inr ⟨rfl, hZ2 (fun t v h1 h2 => hok t v h1 (by omega))⟩⟩
  | succ f ih =>
    intro i x4 o5 nm' u hi hai e4 tu hp wu su hok
    have h1024 := wu.2.2.2.1
    obtain ⟨g, M, -, -, ⟨-, h1024⟩, -⟩ := h1024
    have hv : ws[i]? = some ws[i] := List.getElem?_eq_getElem (by omega)
    refine kjZ_y rfl rfl 3 _ _ _ _ tu ?_
    refine And.intro (fun c => ?_) (fun c => ?_)
    · refine absurd (show x2 < x4 from c) ?_
      rw [e2, e4, nlt (by omega) (by omega)]; omega
    refine kjZ_y rfl rfl 5 _ _ _ _ tu ?_
    refine (And.intro (tu.k (by decide) rfl) (And.intro (Nat.le_of_ble_eq_true rfl) (And.intro (Or.inl ⟨(Nat.le_of_ble_eq_true rfl), (tu.k (by decide) rfl)⟩) (And.intro (Nat.le_of_ble_eq_true rfl) (And.intro (Nat.le_of_ble_eq_true rfl) (kjY_mono tu (fun q_ u1 ty1 xu1 h_ => ?_) (kx_id tu wu hB hv _ e4)))))))
    obtain ⟨k, nm2, rfl, p1, p2, w1, s1⟩ := h_
    intro _ _
    refine kjZ_y rfl rfl 1 _ _ _ _ ty1 ?_
    refine (And.intro (Nat.le_of_ble_eq_true rfl) (And.intro (Or.inl ⟨(Nat.le_of_ble_eq_true rfl), (ty1.k (by decide) rfl)⟩) (And.intro (Nat.le_of_ble_eq_true rfl) (And.intro (Nat.le_of_ble_eq_true rfl) (kjY_mono ty1 (fun q_ u2 ty2 xu2 h_ => ?_) (kx_find ty1 w1 p1 _ rfl))))))
    obtain ⟨rfl, q⟩ := h_
    intro _ _
    have nxt : soT (skA ks) ws[i] (nI s) = true → ∀ o5, kjY kPP (kQQ Y) (d + 6) 147 29 [some (.ref 59), some (.int x1), some (.int x2), some (.int x3), some (.int x4), o5] [] u2 (rfP σ0 B σ ws nm ks Z) := by
      intro hso o5
      refine kjZ_y rfl rfl 2 _ _ _ _ ty2 ?_
      refine ih (i + 1) _ _ nm2 u2 (by omega) (by omega) (by rw [e4]; exact nI_1 i) ty2 (hp.tr p2) w1 (su.tr s1) (fun t v h1 h2 h3 => ?_)
      by_cases z : t = i
      · rw [z, hv] at h3; cases h3; exact hso
      · exact hok t v h1 (by omega) h3
    rcases q with ⟨rfl, q⟩ | ⟨P, y, Q, rfl, q1, q2, q3⟩
    · refine kjZ_y rfl rfl 3 _ _ _ _ ty2 ?_
      refine (And.intro (Nat.le_of_ble_eq_true rfl) ?_)
      exact nxt (by unfold soT; rw [q]) _
    · subst q1
      obtain ⟨k2, e5, hk2, hd, e6⟩ := w1.val rfl
      have kv : (u2.2.2.2.1 y.1).1 = 11 := by rw [hd]
      have hso := soT_k (s := nI s) q3
      refine kjZ_y rfl rfl 7 _ _ _ _ ty2 ?_
      refine (And.intro (Nat.le_of_ble_eq_true rfl) (And.intro (by assumption) (And.intro (fun c2 => ?_) (fun c2 => ?_))))
      · have c2 : u2.1 y.1 1 = x3 := c2
        refine nxt ?_ _
        rw [hso, e5]; exact decide_eq_true (by rw [← e3, ← c2, e6])
      · have c2 : ¬ u2.1 y.1 1 = x3 := c2
        refine kjZ_y rfl rfl 4 _ _ _ _ ty2 ?_
        refine (And.intro (ty2.k (by decide) rfl) (And.intro rfl (And.intro (Nat.le_of_ble_eq_true rfl) (And.intro (Or.inl ⟨(Nat.le_of_ble_eq_true rfl), (ty2.k (by decide) rfl)⟩) (And.intro (Nat.le_of_ble_eq_true rfl) (And.intro (Nat.le_of_ble_eq_true rfl) (kjY_mono ty2 (fun q_ u3 ty3 xu3 h_ => ?_) (kx_refuse ty2 w1 (by decide)))))))))
        obtain ⟨rfl, w3, s3⟩ := h_
        intro _ _
        refine kjZ_y rfl rfl 2 _ _ _ _ ty3 ?_
        refine And.intro rfl (And.intro (Or.inr (Or.inl ⟨rfl, Or.inr rfl⟩)) ?_)
        refine ⟨nm2, hp.tr p2, w3, (su.tr s1).tr s3, Or.inl ⟨rfl, hZ1 i _ hai (by omega) hv ?_⟩⟩
        rw [hso, e5]; exact decide_eq_false (fun z => c2 (by rw [e6, e3, z]))
/-- from an arg to another one -/
theorem kx_refuses (ty : kTY σ) (w : KWd σ0 B σ ws nm ks) (hB : BOK B ws) {j : Nat} (hj : CMD σ j) {a b : Nat} (hb : b < ws.length) (hab : a ≤ b + 1) {s : Nat} (hs : s ≤ 4) (x1 x2 x3 : Int32) (e1 : x1 = nI a) (e2 : x2 = nI b) (e3 : x3 = nI s) :
    kjY kPP (kQQ Y) (d + 6) 147 0 (mjL0 6 [.ref 59, .int x1, .int x2, .int x3]) [] σ (rfP σ0 B σ ws nm ks (fullB σ j ∨ ∃ i v, a ≤ i ∧ i ≤ b ∧ ws[i]? = some v ∧ soT (skA ks) v (nI s) = false)) := by
  refine kjZ_y rfl rfl 2 _ _ _ _ ty ?_
  refine (And.intro (Nat.le_of_ble_eq_true rfl) (And.intro (Or.inl ⟨(Nat.le_of_ble_eq_true rfl), (ty.k (by decide) rfl)⟩) (And.intro (Nat.le_of_ble_eq_true rfl) (And.intro (Nat.le_of_ble_eq_true rfl) (kjY_mono ty (fun q_ u1 ty1 xu1 h_ => ?_) (kx_isFull ty w hj))))))
  obtain ⟨s1, w1, q⟩ := h_
  intro _ _
  rcases q with ⟨rfl, q⟩ | ⟨rfl, q, rfl⟩
  · refine kjZ_y rfl rfl 1 _ _ _ _ ty1 ?_
    refine And.intro (fun c => ?_) (fun c => ?_)
    · exact absurd (show (1 : Int32) = 0 from c) (by decide)
    refine kjZ_y rfl rfl 2 _ _ _ _ ty1 ?_
    refine And.intro rfl (And.intro (Or.inr (Or.inl ⟨rfl, Or.inr rfl⟩)) ?_)
    exact ⟨nm, PRE.rf, w1, s1, Or.inl ⟨rfl, Or.inl q⟩⟩
  · refine kjZ_y rfl rfl 1 _ _ _ _ ty1 ?_
    refine And.intro (fun c => ?_) (fun c => ?_)
    rotate_left
    · exact absurd rfl c
    refine kjZ_y rfl rfl 2 _ _ _ _ ty1 ?_
    refine (And.intro (Nat.le_of_ble_eq_true rfl) ?_)
    refine kx_refuses_l (a := a) (b := b) hB hb hs x1 x2 x3 e2 e3 (fun i v h1 h2 h3 h4 => Or.inr ⟨i, v, h1, h2, h3, h4⟩) (fun h z => ?_) (b + 1 - a) a _ none nm u1 (by omega) (Nat.le_refl _) e1 ty1 PRE.rf w SCl.rf (fun t v h1 h2 => by omega)
    rcases z with z | ⟨i, v, h1, h2, h3, h4⟩
    · exact q z
    · rw [h i v h1 h2 h3] at h4; cases h4
end KREFUSE
