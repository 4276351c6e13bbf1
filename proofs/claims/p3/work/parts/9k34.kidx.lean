/-! Keys: the rows of keys; a key comes to a place, a key leaves its place. -/
section KIDX
variable {Y : Nat → MethodName × ByteArray} {d : Nat} {σ u : kS}
theorem app_get {α : Type} {a b : List α} {i : Nat} {x : α} (h : (a ++ b)[i]? = some x) : (i < a.length ∧ a[i]? = some x) ∨ (a.length ≤ i ∧ b[i - a.length]? = some x) := by
  by_cases c : i < a.length
  · rw [List.getElem?_append_left c] at h; exact Or.inl ⟨c, h⟩
  · rw [List.getElem?_append_right (by omega)] at h; exact Or.inr ⟨by omega, h⟩
/-- the values are as they were -/
theorem VLS.fr {rt rc te ce : Nat} {vs : List VR} {ls : List (Nat × Nat)} (h : VLS σ rt rc te ce vs ls) (hD : ∀ v, σ.2.2.2.1 v = (11, 0) → u.2.2.2.1 v = (11, 0) ∧ u.1 v = σ.1 v ∧ u.2.1 v = σ.2.1 v) (hN : (σ.2.2.2.1 rt).2 ≤ (u.2.2.2.1 rt).2 ∧ (σ.2.2.2.1 rc).2 ≤ (u.2.2.2.1 rc).2) (hT : u.1 rt = σ.1 rt) (hC : u.2.1 rc = σ.2.1 rc) : VLS u rt rc te ce vs ls := by
  obtain ⟨h1, h2, h3⟩ := h
  refine ⟨h1, fun i r l hr hl => ?_, h3⟩
  have hv := h2 i r l hr hl
  obtain ⟨d1, d2, d3⟩ := hD _ hv.1.1
  exact hv.fr (Nat.le_refl _) (Nat.le_refl _) hN d1 (fun x => by rw [d2]) (fun x => by rw [d3]) (fun _ j _ _ => by rw [hT]) (fun _ j _ _ => by rw [hC])
/-- the rows of the store are apart -/
theorem RSG.ap (ty : kTY σ) (ow : OWN σ) {il sl : List Nat} {vs : List VR} {M T : Int32} {ri rs rh NK rt NT rn Nn te rc NC rm Nm ce : Nat} {ls : List (Nat × Nat)} (h : RSG σ il sl vs M T ri rs rh NK rt NT rn Nn te rc NC rm Nm ce ls) : ¬ ri = rs ∧ (∀ g, g = ri ∨ g = rs ∨ g = rh ∨ g = rt ∨ g = rn ∨ g = rc ∨ g = rm → (20 ≤ (σ.2.2.2.1 g).1 ∧ ¬ σ.2.2.2.1 g = (11, 0)) ∧ ¬ g = 59) ∧ (¬ rt = rn ∧ ¬ rc = rm) ∧ ¬ ri = rt ∧ ¬ rs = rt := by
  obtain ⟨⟨⟨i1, i2⟩, ⟨i3, i4⟩, ⟨i5, i6⟩, -⟩, ⟨⟨t1, t2⟩, ⟨t3, t4⟩, -⟩, ⟨⟨c1, c2⟩, ⟨c3, c4⟩, -⟩, -⟩ := h
  have k59 : (σ.2.2.2.1 59).1 = 4 := ty.k (by decide) rfl
  refine ⟨fun z => ?_, fun g hg => ?_, ⟨fun z => ?_, fun z => ?_⟩, fun z => ?_, fun z => ?_⟩
  · exact absurd (ow (59, 3) (by decide) (59, 4) (by decide) (by show σ.2.2.1 59 3 = σ.2.2.1 59 4; rw [i1, i3, z])) (by decide)
  · have q : ∃ k N, σ.2.2.2.1 g = (k, N) ∧ 20 ≤ k := by
      rcases hg with z | z | z | z | z | z | z
      · exact ⟨20, NK, z ▸ i2, by decide⟩
      · exact ⟨20, NK, z ▸ i4, by decide⟩
      · exact ⟨25, NK, z ▸ i6, by decide⟩
      · exact ⟨21, NT, z ▸ t2, by decide⟩
      · exact ⟨21, Nn, z ▸ t4, by decide⟩
      · exact ⟨23, NC, z ▸ c2, by decide⟩
      · exact ⟨23, Nm, z ▸ c4, by decide⟩
    obtain ⟨k, N, e, hk⟩ := q
    refine ⟨⟨by rw [e]; exact hk, fun z => ?_⟩, fun z => ?_⟩
    · rw [e] at z; have := congrArg Prod.fst z; have : k = 11 := this; omega
    · rw [← z, e] at k59; have : k = 4 := k59; omega
  · exact absurd (ow (59, 7) (by decide) (59, 8) (by decide) (by show σ.2.2.1 59 7 = σ.2.2.1 59 8; rw [t1, t3, z])) (by decide)
  · exact absurd (ow (59, 10) (by decide) (59, 11) (by decide) (by show σ.2.2.1 59 10 = σ.2.2.1 59 11; rw [c1, c3, z])) (by decide)
  · exact absurd (ow (59, 3) (by decide) (59, 7) (by decide) (by show σ.2.2.1 59 3 = σ.2.2.1 59 7; rw [i1, t1, z])) (by decide)
  · exact absurd (ow (59, 4) (by decide) (59, 7) (by decide) (by show σ.2.2.1 59 4 = σ.2.2.1 59 7; rw [i3, t1, z])) (by decide)
/-- the rows of keys have changed, and the number of keys -/
theorem RSG.idx (ty : kTY σ) (ow : OWN σ) (po : POT σ) {il sl il' sl' : List Nat} {vs : List VR} {M T : Int32} {ri rs rh NK rt NT rn Nn te rc NC rm Nm ce : Nat} {ls : List (Nat × Nat)} (h : RSG σ il sl vs M T ri rs rh NK rt NT rn Nn te rc NC rm Nm ce ls) (e2 : u.2 = σ.2) (hI : ∀ h x, ¬ h = ri → ¬ h = rs → ¬ (h = 59 ∧ x = 13) → u.1 h x = σ.1 h x)
    (hc : u.1 59 13 = nI il'.length) (hl : il'.length ≤ vs.length) (hs : sl'.length = vs.length ∧ sl'.Nodup ∧ ∀ s ∈ sl', s < vs.length) (h1 : ∀ i k, il'[i]? = some k → u.1 ri i = nI k) (h2 : ∀ i k, sl'[i]? = some k → u.1 rs i = nI k) : RST u il' sl' vs M T ∧ OWN u ∧ POT u ∧ Ch false [(59, 13)] [(59, 3), (59, 4)] σ u := by
  obtain ⟨p1, p2, ⟨p3, p4⟩, p5, p6⟩ := h.ap ty ow
  obtain ⟨a1, a2, a3, ⟨⟨b1, b2, b3, b4, b5⟩, b6, b7, b8, b9, b10⟩, a5, a6, a7⟩ := h
  have eF : u.2.2.1 = σ.2.2.1 := congrArg (fun t => t.2.1) e2
  have eD : u.2.2.2.1 = σ.2.2.2.1 := congrArg (fun t => t.2.2.1) e2
  have eL : u.2.1 = σ.2.1 := congrArg (fun t => t.1) e2
  have ex : kEx σ u := ⟨by rw [e2]; exact Nat.le_refl _, fun h _ => by rw [eD], by rw [e2], by rw [e2]; exact Nat.le_refl _⟩
  have nri := (p2 ri (Or.inl rfl))
  have nrs := (p2 rs (Or.inr (Or.inl rfl)))
  have o59 : ∀ x, ¬ x = 13 → u.1 59 x = σ.1 59 x := fun x z => hI 59 x (fun y => nri.2 y.symm) (fun y => nrs.2 y.symm) (fun y => z y.2)
  obtain ⟨⟨i1, i2⟩, ⟨i3, i4⟩, ⟨i5, i6⟩, i7, i8⟩ := a1
  obtain ⟨⟨t1, t2⟩, ⟨t3, t4⟩, t5, t6, t7, t8, t9, t10⟩ := a2
  obtain ⟨⟨c1, c2⟩, ⟨c3, c4⟩, c5, c6, c7, c8, c9, c10⟩ := a3
  refine ⟨⟨ri, rs, rh, NK, rt, NT, rn, Nn, te, rc, NC, rm, Nm, ce, ls, ⟨⟨by rw [eF]; exact i1, by rw [eD]; exact i2⟩, ⟨by rw [eF]; exact i3, by rw [eD]; exact i4⟩, ⟨by rw [eF]; exact i5, by rw [eD]; exact i6⟩, i7, i8⟩, ⟨⟨by rw [eF]; exact t1, by rw [eD]; exact t2⟩, ⟨by rw [eF]; exact t3, by rw [eD]; exact t4⟩, t5, t6, t7, t8, (o59 9 (by decide)).trans t9, t10⟩, ⟨⟨by rw [eF]; exact c1, by rw [eD]; exact c2⟩, ⟨by rw [eF]; exact c3, by rw [eD]; exact c4⟩, c5, c6, c7, c8, (o59 12 (by decide)).trans c9, c10⟩, ⟨⟨hc, (o59 6 (by decide)).trans b2, hl, b4, b5⟩, hs, h1, h2, fun i r hr => by rw [eF]; exact b9 i r hr, b10⟩, ?_, (o59 14 (by decide)).trans a6, (o59 15 (by decide)).trans a7⟩, ow.same (fun p _ => by rw [eF]), po.same (fun p hp => kl_eq ty ex hp (by rw [eF])) (fun b q => ?_) (o59 6 (by decide)) ⟨by rw [e2], by rw [e2]⟩, ex, fun h x g1 _ g3 => ⟨?_, by rw [eL], by rw [eF]⟩, fun g g1 g2 g3 => ⟨funext fun x => ?_, by rw [eL], by rw [eF]⟩, fun p _ _ _ => Or.inl (by rw [eF])⟩
  · refine a5.fr (fun v hv => ⟨by rw [eD]; exact hv, funext fun x => hI v x (fun z => nri.1.2 (by rw [← z]; exact hv)) (fun z => nrs.1.2 (by rw [← z]; exact hv)) (fun z => ?_), by rw [eL]⟩) ⟨by rw [eD]; exact Nat.le_refl _, by rw [eD]; exact Nat.le_refl _⟩ (funext fun x => hI rt x (fun z => p5 z.symm) (fun z => p6 z.symm) (fun z => (p2 rt (by simp)).2 z.1)) (by rw [eL])
    exact k11 ty hv (show 59 < 76 by decide) z.1.symm
  · have kb := ob_k ty q
    exact hI b 2 (fun z => by have := nri.1.1; rw [← z, kb] at this; omega) (fun z => by have := nrs.1.1; rw [← z, kb] at this; omega) (fun z => by rw [z.1] at q; exact absurd q (by decide))
  · refine hI h x (fun z => ?_) (fun z => ?_) (fun z => g3 (by rw [z.1, z.2]; exact List.mem_cons_self))
    · have := nri.1.1; rw [← z] at this; omega
    · have := nrs.1.1; rw [← z] at this; omega
  · refine hI g x (fun z => g3 (59, 3) (by decide) (by rw [z]; exact i1)) (fun z => g3 (59, 4) (by decide) (by rw [z]; exact i3)) (fun z => ?_)
    rw [z.1, ty.k (h := 59) (by decide) rfl] at g1; exact absurd g1 (by decide)
theorem k_enter (ty : kTY σ) (ow : OWN σ) (po : POT σ) {il S fr : List Nat} {s : Nat} {vs : List VR} {M T : Int32} (h : RST σ il (S ++ s :: fr) vs M T) (hS : S.length = il.length) {p k : Nat} (hp : p ≤ il.length) (x1 x2 : Int32) (e1 : x1 = nI p) (e2 : x2 = nI k) :
    kjY kPP (kQQ Y) (d + 1) 133 0 (mjL0 4 [.ref 59, .int x1, .int x2]) [] σ (fun v u => v = none ∧ RST u (insL il p k) (insL S p s ++ fr) vs M T ∧ OWN u ∧ POT u ∧ Ch false [(59, 13)] [(59, 3), (59, 4)] σ u) := by
  obtain ⟨ri, rs, rh, NK, rt, NT, rn, Nn, te, rc, NC, rm, Nm, ce, ls, hG⟩ := h
  obtain ⟨p1, p2, -, -, -⟩ := hG.ap ty ow
  have hGo := hG
  obtain ⟨⟨⟨i1, i2⟩, ⟨i3, i4⟩, ⟨i5, i6⟩, i7, i8⟩, a2, a3, ⟨⟨b1, b2, b3, b4, b5⟩, ⟨b6, b6b, b6c⟩, b7, b8, b9, b10⟩, a5, a6, a7⟩ := hG
  have hlen : il.length + 1 + fr.length = vs.length := by rw [← b6, List.length_append, List.length_cons]; omega
  have nri := (p2 ri (Or.inl rfl))
  have nrs := (p2 rs (Or.inr (Or.inl rfl)))
  have vc : vp_in (σ.1 59 13) NK := by rw [b1]; exact vp_in_nI (by omega) (by omega)
  have cc : (σ.1 59 13).toNatClampNeg = il.length := by rw [b1]; exact nI_clamp (by omega)
  have es : σ.1 rs (σ.1 59 13).toNatClampNeg = nI s := by
    rw [cc]; refine b8 il.length s ?_
    rw [List.getElem?_append_right (by omega), hS, Nat.sub_self]; rfl
  have ep1 : x1 + Int32.ofInt 1 = nI (p + 1) := by rw [e1]; exact nI_1 p
  have ecp : σ.1 59 13 - x1 = nI (il.length - p) := by rw [b1, e1, pk_sub hp]
  have vp : vp_in x1 NK := by rw [e1]; exact vp_in_nI (by omega) (by omega)
  have cp : x1.toNatClampNeg = p := by rw [e1]; exact nI_clamp (by omega)
  refine kjZ_y rfl rfl 19 _ _ _ _ ty ?_
  refine (And.intro (ty.k (by decide) rfl) (Exists.intro _ (And.intro i3 (And.intro (ty.k (by decide) rfl) (Or.inl (And.intro (kdk i4) (And.intro (kdv i4 vc) (And.intro (Nat.le_of_ble_eq_true rfl) (And.intro (ty.k (by decide) rfl) (Exists.intro _ (And.intro i1 (And.intro (ty.k (by decide) rfl) (Exists.intro _ (And.intro i1 (And.intro (ty.k (by decide) rfl) (Exists.intro p (Exists.intro (p + 1) (Exists.intro (il.length - p) (And.intro ⟨e1, ep1, ecp⟩ (And.intro ⟨rfl, by rw [i2]; show _ ≤ NK; omega, by rw [i2]; show _ ≤ NK; omega⟩ (And.intro ⟨(Nat.le_of_ble_eq_true rfl), (Nat.le_of_ble_eq_true rfl)⟩ (Or.inl (And.intro (Or.inl (kdk i2)) (fun ty' => ?_))))))))))))))))))))))))
  have go1 : ∀ x3 u1, x3 = nI s → kTY u1 → u1 = (kUp σ.1 ri (va_cpy (σ.1 ri) (σ.1 ri) p (p + 1) (il.length - p)), σ.2) → kjY kPP (kQQ Y) (d + 1) 133 19 [some (.ref 59), some (.int x1), some (.int x2), some (.int x3)] [] u1 (fun v u => v = none ∧ RST u (insL il p k) (insL S p s ++ fr) vs M T ∧ OWN u ∧ POT u ∧ Ch false [(59, 13)] [(59, 3), (59, 4)] σ u) := by
    intro x3 u1 e3 ty1 eu1
    have j3 : u1.2.2.1 59 4 = some rs := by rw [eu1]; exact i3
    have j4 : u1.2.2.2.1 rs = (20, NK) := by rw [eu1]; exact i4
    have ecp1 : u1.1 59 13 - x1 = nI (il.length - p) := by rw [eu1]; show kUp σ.1 ri _ 59 13 - x1 = _; rw [kUp_n (fun z => nri.2 z.symm)]; exact ecp
    refine kjZ_y rfl rfl 13 _ _ _ _ ty1 ?_
    refine (And.intro (ty1.k (by decide) rfl) (Exists.intro _ (And.intro j3 (And.intro (ty1.k (by decide) rfl) (Exists.intro _ (And.intro j3 (And.intro (ty1.k (by decide) rfl) (Exists.intro p (Exists.intro (p + 1) (Exists.intro (il.length - p) (And.intro ⟨e1, ep1, ecp1⟩ (And.intro ⟨rfl, by rw [j4]; show _ ≤ NK; omega, by rw [j4]; show _ ≤ NK; omega⟩ (And.intro ⟨(Nat.le_of_ble_eq_true rfl), (Nat.le_of_ble_eq_true rfl)⟩ (Or.inl (And.intro (Or.inl (kdk j4)) (fun ty1' => ?_))))))))))))))))
    have go2 : ∀ u2, kTY u2 → u2 = (kUp u1.1 rs (va_cpy (u1.1 rs) (u1.1 rs) p (p + 1) (il.length - p)), u1.2) → kjY kPP (kQQ Y) (d + 1) 133 32 [some (.ref 59), some (.int x1), some (.int x2), some (.int x3)] [] u2 (fun v u => v = none ∧ RST u (insL il p k) (insL S p s ++ fr) vs M T ∧ OWN u ∧ POT u ∧ Ch false [(59, 13)] [(59, 3), (59, 4)] σ u) := by
      intro u2 ty2 eu2
      have e9 : u1.1 rs = σ.1 rs := by rw [eu1]; exact kUp_n (fun z => p1 z.symm)
      have e10 : u1.2 = σ.2 := by rw [eu1]
      rw [e9, e10] at eu2
      have l1 : u2.2.2.1 59 3 = some ri := by rw [eu2]; exact i1
      have l2 : u2.2.2.2.1 ri = (20, NK) := by rw [eu2]; exact i2
      have l3 : u2.2.2.1 59 4 = some rs := by rw [eu2]; exact i3
      have l4 : u2.2.2.2.1 rs = (20, NK) := by rw [eu2]; exact i4
      refine kjZ_y rfl rfl 10 _ _ _ _ ty2 ?_
      refine (And.intro (ty2.k (by decide) rfl) (Exists.intro _ (And.intro l1 (And.intro (kdk l2) (And.intro (kdv l2 vp) (fun ty2' => (And.intro (ty2'.k (by decide) rfl) (Exists.intro _ (And.intro l3 (And.intro (kdk l4) (And.intro (kdv l4 vp) (fun ty2'' => ?_))))))))))))
      have go3 : ∀ u3, kTY u3 → u3 = (mjIu (mjIu u2.1 ri x1.toNatClampNeg x2) rs x1.toNatClampNeg x3, u2.2) → kjY kPP (kQQ Y) (d + 1) 133 42 [some (.ref 59), some (.int x1), some (.int x2), some (.int x3)] [] u3 (fun v u => v = none ∧ RST u (insL il p k) (insL S p s ++ fr) vs M T ∧ OWN u ∧ POT u ∧ Ch false [(59, 13)] [(59, 3), (59, 4)] σ u) := by
        intro u3 ty3 eu3
        have e11 : u2.2 = σ.2 := by rw [eu2]
        rw [cp, e11] at eu3
        have e13 : u3.1 59 13 + Int32.ofInt 1 = nI (il.length + 1) := by
          have : u3.1 59 13 = σ.1 59 13 := by
            rw [eu3]; show mjIu (mjIu u2.1 ri p x2) rs p x3 59 13 = _
            rw [mjIu_n (fun z => nrs.2 z.symm), mjIu_n (fun z => nri.2 z.symm), eu2]; show kUp u1.1 rs _ 59 13 = _
            rw [kUp_n (fun z => nrs.2 z.symm), eu1]; show kUp σ.1 ri _ 59 13 = _
            rw [kUp_n (fun z => nri.2 z.symm)]
          rw [this, b1]; exact nI_1 _
        refine kjZ_y rfl rfl 7 _ _ _ _ ty3 ?_
        refine (And.intro (ty3.k (by decide) rfl) (And.intro (ty3.k (by decide) rfl) (And.intro (Or.inl rfl) (fun ty3' => And.intro rfl (And.intro rfl ?_)))))
        have go4 : ∀ u4 : kS, u4 = (mjIu u3.1 59 13 (u3.1 59 13 + Int32.ofInt 1), u3.2) → RST u4 (insL il p k) (insL S p s ++ fr) vs M T ∧ OWN u4 ∧ POT u4 ∧ Ch false [(59, 13)] [(59, 3), (59, 4)] σ u4 := ?_
        · exact ⟨rfl, go4 _ rfl⟩
        intro u4 eu4
        rw [e13] at eu4
        subst eu4
        have eri : ∀ j, mjIu (mjIu u2.1 ri p x2) rs p x3 ri j = if j = p then x2 else va_cpy (σ.1 ri) (σ.1 ri) p (p + 1) (il.length - p) j := by
          intro j
          rw [mjIu_n p1, mjIu_s]
          by_cases z : j = p
          · rw [if_pos z, if_pos z]
          · rw [if_neg z, if_neg z, eu2]; show kUp u1.1 rs _ ri j = _
            rw [kUp_n p1, eu1]; show kUp σ.1 ri _ ri j = _
            rw [kUp_s]
        have ers : ∀ j, mjIu (mjIu u2.1 ri p x2) rs p x3 rs j = if j = p then x3 else va_cpy (σ.1 rs) (σ.1 rs) p (p + 1) (il.length - p) j := by
          intro j
          rw [mjIu_s]
          by_cases z : j = p
          · rw [if_pos z, if_pos z]
          · rw [if_neg z, if_neg z, mjIu_n (fun y => p1 y.symm), eu2]; show kUp u1.1 rs _ rs j = _
            rw [kUp_s]
        have er1 : u3.1 ri = mjIu (mjIu u2.1 ri p x2) rs p x3 ri := by rw [eu3]
        have er2 : u3.1 rs = mjIu (mjIu u2.1 ri p x2) rs p x3 rs := by rw [eu3]
        refine hGo.idx (u := (mjIu u3.1 59 13 (nI (il.length + 1)), u3.2)) ty ow po (by show u3.2 = _; rw [eu3]) (fun h x z1 z2 z3 => ?_) ?_ ?_ ⟨?_, ?_, ?_⟩ (fun j q hq => ?_) (fun j q hq => ?_)
        · show mjIu u3.1 59 13 _ h x = _
          rw [mjIu_at, if_neg z3, eu3]; show mjIu (mjIu u2.1 ri p x2) rs p x3 h x = _
          rw [mjIu_n z2, mjIu_n z1, eu2]; show kUp u1.1 rs _ h x = _
          rw [kUp_n z2, eu1]; show kUp σ.1 ri _ h x = _
          rw [kUp_n z1]
        · show mjIu u3.1 59 13 (nI (il.length + 1)) 59 13 = _; rw [mjIu_at, if_pos ⟨rfl, rfl⟩, insL_len]
        · rw [insL_len]; omega
        · rw [List.length_append, insL_len]; omega
        · have hperm : (insL S p s ++ fr).Perm (S ++ s :: fr) := by
            have q1 : (insL S p s).Perm (s :: S) := by
              unfold insL
              refine (List.perm_middle).trans ?_
              rw [List.take_append_drop]
            exact (q1.append_right fr).trans (by rw [List.cons_append]; exact List.perm_middle.symm)
          exact hperm.symm.nodup b6b
        · intro q hq
          refine b6c q ?_
          rcases List.mem_append.mp hq with z | z
          · unfold insL at z
            rcases List.mem_append.mp z with z | z
            · exact List.mem_append_left _ (List.mem_of_mem_take z)
            · rcases List.mem_cons.mp z with z | z
              · rw [z]; exact List.mem_append_right _ List.mem_cons_self
              · exact List.mem_append_left _ (List.mem_of_mem_drop z)
          · exact List.mem_append_right _ (List.mem_cons_of_mem _ z)
        · show mjIu u3.1 59 13 _ ri j = _
          rw [mjIu_n nri.2, er1, eri]
          rw [insL_get hp] at hq
          by_cases z : j < p
          · rw [if_pos z] at hq; rw [if_neg (by omega), pk_cpy_out (Or.inl (by omega))]; exact b7 j q hq
          · rw [if_neg z] at hq
            by_cases z2 : j = p
            · rw [if_pos z2] at hq ⊢; cases hq; exact e2
            · rw [if_neg z2] at hq ⊢
              have hj := (List.getElem?_eq_some_iff.mp hq).1
              rw [pk_cpy_in (by omega) (by omega), show p + (j - (p + 1)) = j - 1 by omega]; exact b7 _ q hq
        · show mjIu u3.1 59 13 _ rs j = _
          rw [mjIu_n nrs.2, er2, ers]
          rcases app_get hq with ⟨w1, w2⟩ | ⟨w1, w2⟩
          · rw [insL_len] at w1
            rw [insL_get (by omega)] at w2
            by_cases z : j < p
            · rw [if_pos z] at w2; rw [if_neg (by omega), pk_cpy_out (Or.inl (by omega))]
              exact b8 j q (by rw [List.getElem?_append_left (by omega)]; exact w2)
            · rw [if_neg z] at w2
              by_cases z2 : j = p
              · rw [if_pos z2] at w2 ⊢; cases w2; exact e3
              · rw [if_neg z2] at w2 ⊢
                have hj := (List.getElem?_eq_some_iff.mp w2).1
                rw [pk_cpy_in (by omega) (by omega), show p + (j - (p + 1)) = j - 1 by omega]
                exact b8 _ q (by rw [List.getElem?_append_left (by omega)]; exact w2)
          · rw [insL_len] at w1 w2
            rw [if_neg (by omega), pk_cpy_out (Or.inr (by omega))]
            refine b8 j q ?_
            rw [List.getElem?_append_right (by omega), show j - S.length = (j - (S.length + 1)) + 1 by omega, List.getElem?_cons_succ]; exact w2
      exact go3 _ ty2'' rfl
    exact go2 _ ty1' rfl
  exact go1 _ _ es ty' rfl
theorem k_leave (ty : kTY σ) (ow : OWN σ) (po : POT σ) {il S fr : List Nat} {s : Nat} {vs : List VR} {M T : Int32} (h : RST σ il (S ++ fr) vs M T) (hS : S.length = il.length) {p : Nat} (hp : S[p]? = some s) (x1 : Int32) (e1 : x1 = nI p) :
    kjY kPP (kQQ Y) (d + 1) 135 0 (mjL0 3 [.ref 59, .int x1]) [] σ (fun v u => v = none ∧ RST u (cutL il p 1) (cutL S p 1 ++ s :: fr) vs M T ∧ OWN u ∧ POT u ∧ Ch false [(59, 13)] [(59, 3), (59, 4)] σ u) := by
  obtain ⟨ri, rs, rh, NK, rt, NT, rn, Nn, te, rc, NC, rm, Nm, ce, ls, hG⟩ := h
  obtain ⟨p1, p2, -, -, -⟩ := hG.ap ty ow
  have hGo := hG
  obtain ⟨⟨⟨i1, i2⟩, ⟨i3, i4⟩, ⟨i5, i6⟩, i7, i8⟩, a2, a3, ⟨⟨b1, b2, b3, b4, b5⟩, ⟨b6, b6b, b6c⟩, b7, b8, b9, b10⟩, a5, a6, a7⟩ := hG
  have hpl : p < il.length := by rw [← hS]; exact (List.getElem?_eq_some_iff.mp hp).1
  have hlen : il.length + fr.length = vs.length := by rw [← b6, List.length_append]; omega
  have nri := (p2 ri (Or.inl rfl))
  have nrs := (p2 rs (Or.inr (Or.inl rfl)))
  have vp : vp_in x1 NK := by rw [e1]; exact vp_in_nI (by omega) (by omega)
  have cp : x1.toNatClampNeg = p := by rw [e1]; exact nI_clamp (by omega)
  have es : σ.1 rs x1.toNatClampNeg = nI s := by
    rw [cp]; exact b8 p s (by rw [List.getElem?_append_left (by omega)]; exact hp)
  have ep1 : x1 + Int32.ofInt 1 = nI (p + 1) := by rw [e1]; exact nI_1 p
  have e13 : σ.1 59 13 - Int32.ofInt 1 = nI (il.length - 1) := by rw [b1]; exact pk_sub (b := 1) (by omega)
  have vc : vp_in (nI (il.length - 1)) NK := vp_in_nI (by omega) (by omega)
  have cc : (nI (il.length - 1)).toNatClampNeg = il.length - 1 := nI_clamp (by omega)
  refine kjZ_y rfl rfl 11 _ _ _ _ ty ?_
  refine (And.intro (ty.k (by decide) rfl) (Exists.intro _ (And.intro i3 (Or.inl (And.intro (kdk i4) (And.intro (kdv i4 vp) (And.intro (Nat.le_of_ble_eq_true rfl) (And.intro (ty.k (by decide) rfl) (And.intro (ty.k (by decide) rfl) (And.intro (Or.inl rfl) (fun ty' => ?_)))))))))))
  have go1 : ∀ x3 u1, x3 = nI s → kTY u1 → u1 = (mjIu σ.1 59 13 (σ.1 59 13 - Int32.ofInt 1), σ.2) → kjY kPP (kQQ Y) (d + 1) 135 11 [some (.ref 59), some (.int x1), some (.int x3)] [] u1 (fun v u => v = none ∧ RST u (cutL il p 1) (cutL S p 1 ++ s :: fr) vs M T ∧ OWN u ∧ POT u ∧ Ch false [(59, 13)] [(59, 3), (59, 4)] σ u) := by
    intro x3 u1 e3 ty1 eu1
    rw [e13] at eu1
    have j1 : u1.2.2.1 59 3 = some ri := by rw [eu1]; exact i1
    have j2 : u1.2.2.2.1 ri = (20, NK) := by rw [eu1]; exact i2
    have f13 : u1.1 59 13 = nI (il.length - 1) := by rw [eu1]; show mjIu σ.1 59 13 (nI (il.length - 1)) 59 13 = _; rw [mjIu_at, if_pos ⟨rfl, rfl⟩]
    have ecp1 : u1.1 59 13 - x1 = nI (il.length - 1 - p) := by rw [f13, e1, pk_sub (by omega)]
    refine kjZ_y rfl rfl 13 _ _ _ _ ty1 ?_
    refine (And.intro (ty1.k (by decide) rfl) (Exists.intro _ (And.intro j1 (And.intro (ty1.k (by decide) rfl) (Exists.intro _ (And.intro j1 (And.intro (ty1.k (by decide) rfl) (Exists.intro (p + 1) (Exists.intro p (Exists.intro (il.length - 1 - p) (And.intro ⟨ep1, e1, ecp1⟩ (And.intro ⟨rfl, by rw [j2]; show _ ≤ NK; omega, by rw [j2]; show _ ≤ NK; omega⟩ (And.intro ⟨(Nat.le_of_ble_eq_true rfl), (Nat.le_of_ble_eq_true rfl)⟩ (Or.inl (And.intro (Or.inl (kdk j2)) (fun ty1' => ?_))))))))))))))))
    have go2 : ∀ u2, kTY u2 → u2 = (kUp u1.1 ri (va_cpy (u1.1 ri) (u1.1 ri) (p + 1) p (il.length - 1 - p)), u1.2) → kjY kPP (kQQ Y) (d + 1) 135 24 [some (.ref 59), some (.int x1), some (.int x3)] [] u2 (fun v u => v = none ∧ RST u (cutL il p 1) (cutL S p 1 ++ s :: fr) vs M T ∧ OWN u ∧ POT u ∧ Ch false [(59, 13)] [(59, 3), (59, 4)] σ u) := by
      intro u2 ty2 eu2
      have e9 : u1.1 ri = σ.1 ri := by rw [eu1]; exact mjIu_n nri.2
      have e10 : u1.2 = σ.2 := by rw [eu1]
      rw [e9, e10] at eu2
      have l3 : u2.2.2.1 59 4 = some rs := by rw [eu2]; exact i3
      have l4 : u2.2.2.2.1 rs = (20, NK) := by rw [eu2]; exact i4
      have f2 : u2.1 59 13 = nI (il.length - 1) := by rw [eu2]; show kUp u1.1 ri _ 59 13 = _; rw [kUp_n (fun z => nri.2 z.symm), f13]
      have ecp2 : u2.1 59 13 - x1 = nI (il.length - 1 - p) := by rw [f2, e1, pk_sub (by omega)]
      refine kjZ_y rfl rfl 13 _ _ _ _ ty2 ?_
      refine (And.intro (ty2.k (by decide) rfl) (Exists.intro _ (And.intro l3 (And.intro (ty2.k (by decide) rfl) (Exists.intro _ (And.intro l3 (And.intro (ty2.k (by decide) rfl) (Exists.intro (p + 1) (Exists.intro p (Exists.intro (il.length - 1 - p) (And.intro ⟨ep1, e1, ecp2⟩ (And.intro ⟨rfl, by rw [l4]; show _ ≤ NK; omega, by rw [l4]; show _ ≤ NK; omega⟩ (And.intro ⟨(Nat.le_of_ble_eq_true rfl), (Nat.le_of_ble_eq_true rfl)⟩ (Or.inl (And.intro (Or.inl (kdk l4)) (fun ty2' => ?_))))))))))))))))
      have go3 : ∀ u3, kTY u3 → u3 = (kUp u2.1 rs (va_cpy (u2.1 rs) (u2.1 rs) (p + 1) p (il.length - 1 - p)), u2.2) → kjY kPP (kQQ Y) (d + 1) 135 37 [some (.ref 59), some (.int x1), some (.int x3)] [] u3 (fun v u => v = none ∧ RST u (cutL il p 1) (cutL S p 1 ++ s :: fr) vs M T ∧ OWN u ∧ POT u ∧ Ch false [(59, 13)] [(59, 3), (59, 4)] σ u) := by
        intro u3 ty3 eu3
        have e11 : u2.1 rs = σ.1 rs := by
          rw [eu2]; show kUp u1.1 ri _ rs = _
          rw [kUp_n (fun z => p1 z.symm), eu1]; exact mjIu_n nrs.2
        have e12 : u2.2 = σ.2 := by rw [eu2]
        rw [e11, e12] at eu3
        have m3 : u3.2.2.1 59 4 = some rs := by rw [eu3]; exact i3
        have m4 : u3.2.2.2.1 rs = (20, NK) := by rw [eu3]; exact i4
        have f3 : u3.1 59 13 = nI (il.length - 1) := by rw [eu3]; show kUp u2.1 rs _ 59 13 = _; rw [kUp_n (fun z => nrs.2 z.symm), f2]
        refine kjZ_y rfl rfl 7 _ _ _ _ ty3 ?_
        refine (And.intro (ty3.k (by decide) rfl) (Exists.intro _ (And.intro m3 (And.intro (ty3.k (by decide) rfl) (And.intro (kdk m4) (And.intro (kdv m4 (by rw [f3]; exact vc)) (fun ty3' => And.intro rfl (And.intro rfl ?_))))))))
        have go4 : ∀ u4 : kS, u4 = (mjIu u3.1 rs (u3.1 59 13).toNatClampNeg x3, u3.2) → RST u4 (cutL il p 1) (cutL S p 1 ++ s :: fr) vs M T ∧ OWN u4 ∧ POT u4 ∧ Ch false [(59, 13)] [(59, 3), (59, 4)] σ u4 := ?_
        · exact ⟨rfl, go4 _ rfl⟩
        intro u4 eu4
        rw [f3, cc] at eu4
        subst eu4
        have eri : ∀ j, mjIu u3.1 rs (il.length - 1) x3 ri j = va_cpy (σ.1 ri) (σ.1 ri) (p + 1) p (il.length - 1 - p) j := by
          intro j
          rw [mjIu_n p1, eu3]; show kUp u2.1 rs _ ri j = _
          rw [kUp_n p1, eu2]; show kUp u1.1 ri _ ri j = _
          rw [kUp_s]
        have ers : ∀ j, mjIu u3.1 rs (il.length - 1) x3 rs j = if j = il.length - 1 then x3 else va_cpy (σ.1 rs) (σ.1 rs) (p + 1) p (il.length - 1 - p) j := by
          intro j
          rw [mjIu_s]
          by_cases z : j = il.length - 1
          · rw [if_pos z, if_pos z]
          · rw [if_neg z, if_neg z, eu3]; show kUp u2.1 rs _ rs j = _
            rw [kUp_s]
        have hS1 : (cutL S p 1).length = S.length - 1 := cutL_len (by omega)
        refine hGo.idx (u := (mjIu u3.1 rs (il.length - 1) x3, u3.2)) ty ow po (by show u3.2 = _; rw [eu3]) (fun h x z1 z2 z3 => ?_) ?_ ?_ ⟨?_, ?_, ?_⟩ (fun j q hq => ?_) (fun j q hq => ?_)
        · show mjIu u3.1 rs _ _ h x = _
          rw [mjIu_n z2, eu3]; show kUp u2.1 rs _ h x = _
          rw [kUp_n z2, eu2]; show kUp u1.1 ri _ h x = _
          rw [kUp_n z1, eu1]; show mjIu σ.1 59 13 _ h x = _
          rw [mjIu_at, if_neg z3]
        · show mjIu u3.1 rs _ _ 59 13 = _; rw [mjIu_n (fun z => nrs.2 z.symm), f3, cutL_len (by omega)]
        · rw [cutL_len (by omega)]; omega
        · rw [List.length_append, List.length_cons, hS1]; omega
        · have hperm : (cutL S p 1 ++ s :: fr).Perm (S ++ fr) := by
            have q0 : S = S.take p ++ s :: S.drop (p + 1) := by
              obtain ⟨h1, h2⟩ := List.getElem?_eq_some_iff.mp hp
              rw [← h2, List.getElem_cons_drop, List.take_append_drop]
            have q1 : (s :: cutL S p 1).Perm S := by
              unfold cutL
              conv => rhs; rw [q0]
              exact List.perm_middle.symm
            exact List.perm_middle.trans (q1.append_right fr)
          exact hperm.symm.nodup b6b
        · intro q hq
          refine b6c q ?_
          rcases List.mem_append.mp hq with z | z
          · unfold cutL at z
            rcases List.mem_append.mp z with z | z
            · exact List.mem_append_left _ (List.mem_of_mem_take z)
            · exact List.mem_append_left _ (List.mem_of_mem_drop z)
          · rcases List.mem_cons.mp z with z | z
            · rw [z]; exact List.mem_append_left _ (List.mem_of_getElem? hp)
            · exact List.mem_append_right _ z
        · show mjIu u3.1 rs _ _ ri j = _
          rw [eri]
          have hj := (List.getElem?_eq_some_iff.mp hq).1
          rw [cutL_len (by omega)] at hj
          rw [cutL_get (by omega)] at hq
          by_cases z : j < p
          · rw [if_pos z] at hq; rw [pk_cpy_out (Or.inl (by omega))]; exact b7 j q hq
          · rw [if_neg z] at hq
            rw [pk_cpy_in (by omega) (by omega), show p + 1 + (j - p) = j + 1 by omega]; exact b7 _ q hq
        · show mjIu u3.1 rs _ _ rs j = _
          rw [ers]
          rcases app_get hq with ⟨w1, w2⟩ | ⟨w1, w2⟩
          · rw [hS1] at w1
            rw [cutL_get (by omega)] at w2
            rw [if_neg (by omega)]
            by_cases z : j < p
            · rw [if_pos z] at w2; rw [pk_cpy_out (Or.inl (by omega))]
              exact b8 j q (by rw [List.getElem?_append_left (by omega)]; exact w2)
            · rw [if_neg z] at w2
              rw [pk_cpy_in (by omega) (by omega), show p + 1 + (j - p) = j + 1 by omega]
              exact b8 _ q (by rw [List.getElem?_append_left (by omega)]; exact w2)
          · rw [hS1] at w1 w2
            by_cases z : j = il.length - 1
            · rw [if_pos z]
              rw [show j - (S.length - 1) = 0 by omega] at w2
              cases w2; exact e3
            · rw [if_neg z, pk_cpy_out (Or.inr (by omega))]
              refine b8 j q ?_
              rw [show j - (S.length - 1) = (j - S.length) + 1 by omega, List.getElem?_cons_succ] at w2
              rw [List.getElem?_append_right (by omega)]; exact w2
      exact go3 _ ty2' rfl
    exact go2 _ ty1' rfl
  exact go1 _ _ es ty' rfl
end KIDX
