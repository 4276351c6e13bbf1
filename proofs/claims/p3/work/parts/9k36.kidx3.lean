/-! Keys: an end is set; the key and the value at a place; watchers are told. -/
def nvI (e : Int64) : Int32 := if e = NEV then 0 else 1
section KIDX3
variable {Y : Nat → MethodName × ByteArray} {d : Nat} {σ u : kS}
theorem VOK.ends {rt rc te ce v k n : Nat} {w c w' c' : Int32} {e e' : Int64} {t : List Int32} {cs : List (List Int64)} {l : Nat × Nat} (h : VOK σ rt rc te ce (v, k, n, w, c, e, t, cs) l) (hD : u.2.2.2.1 = σ.2.2.2.1) (hI : ∀ x, ¬ x = 4 → ¬ x = 5 → u.1 v x = σ.1 v x) (h4 : u.1 v 4 = w') (h5 : u.1 v 5 = c') (h3 : u.2.1 v 3 = e') (hT : k = 0 → u.1 rt = σ.1 rt) (hC : u.2.1 rc = σ.2.1 rc) : VOK u rt rc te ce (v, k, n, w', c', e', t, cs) l := by
  obtain ⟨⟨a1, a2, a3, a4, a5, a6, a7⟩, ⟨b1, b2, b3⟩, c1, c2, c3⟩ := h
  refine ⟨⟨by rw [hD]; exact a1, a2, (hI 1 (by decide) (by decide)).trans a3, (hI 2 (by decide) (by decide)).trans a4, h3, h4, h5⟩, ⟨(hI 6 (by decide) (by decide)).trans b1, (hI 7 (by decide) (by decide)).trans b2, (hI 8 (by decide) (by decide)).trans b3⟩, c1, fun z => ?_, fun z => ?_⟩
  · obtain ⟨d1, d2, d3, d4, d5⟩ := c2 z
    exact ⟨d1, d2, d3, by rw [hD]; exact d4, by rw [hT z]; exact d5⟩
  · obtain ⟨d1, d2, d3, d4⟩ := c3 z
    exact ⟨d1, d2, by rw [hD]; exact d3, fun p q hp => by rw [hC]; exact d4 p q hp⟩
/-- a value's weight, what is counted, its end: they change alone -/
theorem RSG.upw (ty : kTY σ) (ow : OWN σ) (po : POT σ) {il sl : List Nat} {vs : List VR} {M T : Int32} {ri rs rh NK rt NT rn Nn te rc NC rm Nm ce : Nat} {ls : List (Nat × Nat)} (h : RSG σ il sl vs M T ri rs rh NK rt NT rn Nn te rc NC rm Nm ce ls) {s v k n : Nat} {w c : Int32} {e : Int64} {t : List Int32} {cs : List (List Int64)} (hs : vs[s]? = some (v, k, n, w, c, e, t, cs)) {w' c' : Int32} {e' : Int64} (hst : Vsu v rc σ u) (hI : ∀ x, ¬ x = 4 → ¬ x = 5 → u.1 v x = σ.1 v x) (h4 : u.1 v 4 = w') (h5 : u.1 v 5 = c') (h3 : u.2.1 v 3 = e') (hC : u.2.1 rc = σ.2.1 rc) : RST u il sl (vs.set s (v, k, n, w', c', e', t, cs)) (u.1 59 14) (u.1 59 15) ∧ OWN u ∧ POT u ∧ Ch true mtF [(59, 10)] σ u := by
  obtain ⟨l, hl, hV, -⟩ := h.v hs
  have kt := h.2.1.1.2
  have eD : u.2.2.2.1 = σ.2.2.2.1 := congrArg (fun t => t.2.1) hst.1
  have hd : σ.2.2.2.1 v = (11, 0) := hV.1.1
  refine h.upg ty ow po hs hl rfl hst (fun j _ => by rw [hC]) (hV.ends eD hI h4 h5 h3 (fun _ => funext fun j => hst.2.1 rt j (fun z => ?_) (fun z => ?_)) hC) (fun i q k' hi hq hk' => ?_)
  · rw [z, hd] at kt; exact absurd kt (by simp)
  · rw [z.1] at kt; rw [ty.kl (h := 59) (c := (4, 0)) (by decide) rfl] at kt; exact absurd kt (by simp)
  · have z : LD (v, k, n, w, c, e, t, cs) l q k' := h.2.2.2.2.1.2.2 s i _ l q k' (fun y => hi y.symm) hs hl hq hk'
    exact z
theorem k_setEnds (ty : kTY σ) (ow : OWN σ) (po : POT σ) {il sl : List Nat} {vs : List VR} {M T : Int32} (h : RST σ il sl vs M T) {s v k n : Nat} {w c : Int32} {e : Int64} {t : List Int32} {cs : List (List Int64)} (hs : vs[s]? = some (v, k, n, w, c, e, t, cs)) (x : Int64) :
    kjY kPP (kQQ Y) d 140 0 (mjL0 4 [.ref 59, .ref v, .long x]) [] σ (vgP σ il sl (vs.set s (v, k, n, w, c, x, t, cs)) M (T + (nvI x - nvI e))) := by
  obtain ⟨ri, rs, rh, NK, rt, NT, rn, Nn, te, rc, NC, rm, Nm, ce, ls, hG⟩ := h
  obtain ⟨l, hl, hV, -⟩ := hG.v hs
  obtain ⟨⟨a1, a2, a3, a4, a5, a6, a7⟩, -⟩ := hV
  have a1 : σ.2.2.2.1 v = (11, 0) := a1
  have kv : (σ.2.2.2.1 v).1 = 11 := by rw [a1]
  have a5 : σ.2.1 v 3 = e := a5
  have n59 : ¬ 59 = v := k11 ty a1 (by decide)
  have hT := hG.2.2.2.2.2.2
  have hM := hG.2.2.2.2.2.1
  have nrv : ¬ rc = v := fun z => by have := hG.2.2.1.1.2; rw [z, a1] at this; exact absurd this (by simp)
  have fin : ∀ y1 y2, y1 = nvI x → y2 = nvI e → kjY kPP (kQQ Y) d 140 18 [some (.ref 59), some (.ref v), some (.long x), none] [.int y2, .int y1, .int (σ.1 59 15), .ref 59] σ (vgP σ il sl (vs.set s (v, k, n, w, c, x, t, cs)) M (T + (nvI x - nvI e))) := by
    intro y1 y2 h1 h2
    refine kjZ_y rfl rfl 3 _ _ _ _ ty ?_
    refine (And.intro (ty.k (by decide) rfl) (And.intro (Or.inl rfl) (fun ty' => ?_)))
    have go : ∀ u, kTY u → u = (mjIu σ.1 59 15 (σ.1 59 15 + (y1 - y2)), σ.2) → kjY kPP (kQQ Y) d 140 21 [some (.ref 59), some (.ref v), some (.long x), none] [] u (vgP σ il sl (vs.set s (v, k, n, w, c, x, t, cs)) M (T + (nvI x - nvI e))) := by
      intro u tu eu
      rw [h1, h2, hT] at eu
      have kv1 : (u.2.2.2.1 v).1 = 11 := by rw [eu]; exact kv
      refine kjZ_y rfl rfl 4 _ _ _ _ tu ?_
      refine (And.intro (by assumption) (And.intro rfl (fun tu' => And.intro rfl (And.intro rfl ?_))))
      have eI : ∀ h z, u.1 h z = if h = 59 ∧ z = 15 then T + (nvI x - nvI e) else σ.1 h z := fun h z => by rw [eu]; exact mjIu_at
      have st : Vsu v rc σ (u.1, mjLu u.2.1 v 3 x, u.2.2) := by
        have q1 : Vsu v rc σ u := by rw [eu]; exact Vsu.mt (Or.inr rfl)
        exact q1.tr Vsu.lv
      obtain ⟨w1, w2, w3, w4⟩ := hG.upw (u := (u.1, mjLu u.2.1 v 3 x, u.2.2)) (w' := w) (c' := c) (e' := x) ty ow po hs st (fun z _ _ => (eI v z).trans (if_neg (fun q => n59 q.1.symm))) ((eI v 4).trans ((if_neg (fun q => n59 q.1.symm)).trans a6)) ((eI v 5).trans ((if_neg (fun q => n59 q.1.symm)).trans a7)) (by show mjLu u.2.1 v 3 x v 3 = x; rw [mjLu_s, if_pos rfl]) (by show mjLu u.2.1 v 3 x rc = _; rw [mjLu_n nrv, eu])
      refine ⟨rfl, ?_, w2, w3, w4⟩
      have w1 : RST (u.1, mjLu u.2.1 v 3 x, u.2.2) il sl (vs.set s (v, k, n, w, c, x, t, cs)) (u.1 59 14) (u.1 59 15) := w1
      rw [eI 59 14, eI 59 15, if_neg (fun q => absurd q.2 (by decide)), if_pos ⟨rfl, rfl⟩, hM] at w1
      exact w1
    exact go _ ty' rfl
  have second : ∀ y1, y1 = nvI x → kjY kPP (kQQ Y) d 140 10 [some (.ref 59), some (.ref v), some (.long x), none] [.int y1, .int (σ.1 59 15), .ref 59] σ (vgP σ il sl (vs.set s (v, k, n, w, c, x, t, cs)) M (T + (nvI x - nvI e))) := by
    intro y1 h1
    refine kjZ_y rfl rfl 5 _ _ _ _ ty ?_
    refine (And.intro (by assumption) (And.intro (fun c2 => ?_) (fun c2 => ?_)))
    · refine kjZ_y rfl rfl 1 _ _ _ _ ty ?_
      refine fin y1 _ h1 ?_
      unfold nvI; rw [if_neg]
      · rfl
      · intro z
        exact c2 ((lg_cmp_eq _ _).mpr (by rw [a5]; exact z))
    · refine kjZ_y rfl rfl 2 _ _ _ _ ty ?_
      refine fin y1 _ h1 ?_
      have c2 : lg_cmp (σ.2.1 v 3) (Int64.ofInt 9223372036854775807) = 0 := Decidable.not_not.mp c2
      have c2 := (lg_cmp_eq _ _).mp c2
      rw [a5] at c2
      unfold nvI; rw [if_pos (show e = NEV from c2)]; rfl
  refine kjZ_y rfl rfl 7 _ _ _ _ ty ?_
  refine (And.intro (ty.k (by decide) rfl) (And.intro (fun c1 => ?_) (fun c1 => ?_)))
  · refine kjZ_y rfl rfl 1 _ _ _ _ ty ?_
    refine second _ ?_
    unfold nvI; rw [if_neg]
    · rfl
    · intro z
      exact c1 ((lg_cmp_eq _ _).mpr z)
  · refine kjZ_y rfl rfl 2 _ _ _ _ ty ?_
    refine second _ ?_
    have c1 : lg_cmp x (Int64.ofInt 9223372036854775807) = 0 := Decidable.not_not.mp c1
    have c1 := (lg_cmp_eq _ _).mp c1
    unfold nvI; rw [if_pos (show x = NEV from c1)]; rfl
theorem k_idAt (ty : kTY σ) {il sl : List Nat} {vs : List VR} {M T : Int32} (h : RST σ il sl vs M T) (x : Int32) :
    kjY kPP (kQQ Y) d 128 0 (mjL0 2 [.ref 59, .int x]) [] σ (fun v u => u = σ ∧ ∃ y, v = some (.int y) ∧ ∀ i k, x = nI i → il[i]? = some k → y = nI k) := by
  obtain ⟨ri, rs, rh, NK, rt, NT, rn, Nn, te, rc, NC, rm, Nm, ce, ls, hG⟩ := h
  obtain ⟨⟨⟨i1, i2⟩, ⟨i3, i4⟩, ⟨i5, i6⟩, i7, i8⟩, a2, a3, ⟨⟨b1, b2, b3, b4, b5⟩, ⟨b6, b6b, b6c⟩, b7, b8, b9, b10⟩, a5, a6, a7⟩ := hG
  have hno : (∀ i, x = nI i → i < il.length → False) → kjY kPP (kQQ Y) d 128 6 [some (.ref 59), some (.int x)] [] σ (fun v u => u = σ ∧ ∃ y, v = some (.int y) ∧ ∀ i k, x = nI i → il[i]? = some k → y = nI k) := by
    intro q
    refine kjZ_y rfl rfl 3 _ _ _ _ ty ?_
    refine And.intro rfl (And.intro (Or.inl rfl) ?_)
    exact ⟨rfl, _, rfl, fun i k e1 e2 => (q i e1 (List.getElem?_eq_some_iff.mp e2).1).elim⟩
  refine kjZ_y rfl rfl 2 _ _ _ _ ty ?_
  refine And.intro (fun c => ?_) (fun c => ?_)
  · exact hno (fun i e1 e2 => absurd (show x < 0 from c) (by rw [e1]; exact nI_n0 (by omega)))
  refine kjZ_y rfl rfl 4 _ _ _ _ ty ?_
  refine (And.intro (ty.k (by decide) rfl) (And.intro (fun c2 => ?_) (fun c2 => ?_)))
  rotate_left
  · exact hno (fun i e1 e2 => c2 (show x < σ.1 59 13 by rw [e1, b1, nlt (by omega) (by omega)]; exact e2))
  obtain ⟨i, ei, hi⟩ := nat_of (n := il.length) (by omega) c (by have z : x < σ.1 59 13 := c2; rw [b1] at z; exact z)
  refine kjZ_y rfl rfl 5 _ _ _ _ ty ?_
  refine (And.intro (ty.k (by decide) rfl) (Exists.intro _ (And.intro i1 (Or.inl (And.intro (kdk i2) (And.intro (kdv i2 (by rw [ei]; exact vp_in_nI (by omega) (by omega))) (And.intro rfl (And.intro (Or.inl rfl) ?_))))))))
  refine ⟨rfl, _, rfl, fun j k e1 e2 => ?_⟩
  have hj := (List.getElem?_eq_some_iff.mp e2).1
  rw [e1, nI_clamp (by omega)]; exact b7 j k e2
/-- the value at a place -/
def vaP (σ : kS) (il sl : List Nat) (vs : List VR) (x : Int32) : kK := fun v u => u = σ ∧ ((v = some .null ∧ ∀ i, x = nI i → il.length ≤ i) ∨ ∃ i s r, x = nI i ∧ i < il.length ∧ sl[i]? = some s ∧ vs[s]? = some r ∧ v = some (.ref r.1))
theorem k_valueAt (ty : kTY σ) {il sl : List Nat} {vs : List VR} {M T : Int32} (h : RST σ il sl vs M T) (x : Int32) :
    kjY kPP (kQQ Y) d 129 0 (mjL0 3 [.ref 59, .int x]) [] σ (vaP σ il sl vs x) := by
  obtain ⟨ri, rs, rh, NK, rt, NT, rn, Nn, te, rc, NC, rm, Nm, ce, ls, hG⟩ := h
  obtain ⟨⟨⟨i1, i2⟩, ⟨i3, i4⟩, ⟨i5, i6⟩, i7, i8⟩, a2, a3, ⟨⟨b1, b2, b3, b4, b5⟩, ⟨b6, b6b, b6c⟩, b7, b8, b9, b10⟩, a5, a6, a7⟩ := hG
  have hno : (∀ i, x = nI i → il.length ≤ i) → kjY kPP (kQQ Y) d 129 6 [some (.ref 59), some (.int x), none] [] σ (vaP σ il sl vs x) := by
    intro q
    refine kjZ_y rfl rfl 2 _ _ _ _ ty ?_
    refine And.intro rfl (And.intro (Nat.le_of_ble_eq_true rfl) ?_)
    exact ⟨rfl, Or.inl ⟨rfl, q⟩⟩
  refine kjZ_y rfl rfl 2 _ _ _ _ ty ?_
  refine And.intro (fun c => ?_) (fun c => ?_)
  · refine hno (fun i e1 => Nat.le_of_not_lt (fun e2 => absurd (show x < 0 from c) (by rw [e1]; exact nI_n0 (by omega))))
  refine kjZ_y rfl rfl 4 _ _ _ _ ty ?_
  refine (And.intro (ty.k (by decide) rfl) (And.intro (fun c2 => ?_) (fun c2 => ?_)))
  rotate_left
  · exact hno (fun i e1 => Nat.le_of_not_lt (fun e2 => c2 (show x < σ.1 59 13 by rw [e1, b1, nlt (by omega) (by omega)]; exact e2)))
  obtain ⟨i, ei, hi⟩ := nat_of (n := il.length) (by omega) c (by have z : x < σ.1 59 13 := c2; rw [b1] at z; exact z)
  have hsl : i < sl.length := by omega
  have es : sl[i]? = some sl[i] := List.getElem?_eq_getElem hsl
  have hsv : sl[i] < vs.length := b6c _ (List.getElem_mem hsl)
  have er : vs[sl[i]]? = some vs[sl[i]] := List.getElem?_eq_getElem hsv
  have ev : σ.1 rs x.toNatClampNeg = nI sl[i] := by rw [ei, nI_clamp (by omega)]; exact b8 i _ es
  refine kjZ_y rfl rfl 7 _ _ _ _ ty ?_
  refine (And.intro (ty.k (by decide) rfl) (Exists.intro _ (And.intro i3 (Or.inl (And.intro (kdk i4) (And.intro (kdv i4 (by rw [ei]; exact vp_in_nI (by omega) (by omega))) (And.intro (Nat.le_of_ble_eq_true rfl) (And.intro (fun c3 => ?_) (fun c3 => ?_)))))))))
  · refine absurd (show σ.1 rs x.toNatClampNeg < 0 from c3) ?_
    rw [ev]; exact nI_n0 (by omega)
  refine kjZ_y rfl rfl 4 _ _ _ _ ty ?_
  refine (And.intro (ty.k (by decide) rfl) (And.intro (fun c4 => ?_) (fun c4 => ?_)))
  rotate_left
  · refine absurd (show σ.1 rs x.toNatClampNeg < σ.1 59 6 from ?_) c4
    rw [ev, b2, nlt (by omega) (by omega)]; exact hsv
  have ef : σ.2.2.1 rh (σ.1 rs x.toNatClampNeg).toNatClampNeg = some vs[sl[i]].1 := by rw [ev, nI_clamp (by omega)]; exact b9 _ _ er
  refine kjZ_y rfl rfl 5 _ _ _ _ ty ?_
  refine (And.intro (ty.k (by decide) rfl) (Exists.intro _ (And.intro i5 (Or.inl (And.intro (Or.inr (kdk i6)) (And.intro (kdv i6 (by rw [ev]; exact vp_in_nI (by omega) (by omega))) (Exists.intro _ (And.intro ef (And.intro rfl (And.intro (Nat.le_of_ble_eq_true rfl) ?_))))))))))
  exact ⟨rfl, Or.inr ⟨i, sl[i], vs[sl[i]], ei, hi, es, er, rfl⟩⟩
end KIDX3
