/-! Keys: a value at a place; a value becomes another sort, is cleared, has an end. -/
def NEV : Int64 := 9223372036854775807
def emC (k : Nat) : List (List Int64) := List.replicate (pts k) []
/-- a step that changes a value, the row of cells, what is counted -/
def Vsu (v rc : Nat) (σ u : kS) : Prop := u.2.2 = σ.2.2 ∧ (∀ h x, ¬ h = v → ¬ (h = 59 ∧ (x = 14 ∨ x = 15)) → u.1 h x = σ.1 h x) ∧ ∀ h x, ¬ h = v → ¬ h = rc → u.2.1 h x = σ.2.1 h x
theorem Vsu.tr {v rc : Nat} {σ u w : kS} (a : Vsu v rc σ u) (b : Vsu v rc u w) : Vsu v rc σ w := ⟨b.1.trans a.1, fun h x z y => (b.2.1 h x z y).trans (a.2.1 h x z y), fun h x z1 z2 => (b.2.2 h x z1 z2).trans (a.2.2 h x z1 z2)⟩
theorem Vst.su {v rc : Nat} {σ u : kS} (a : Vst v rc σ u) : Vsu v rc σ u := ⟨a.1, fun h x z _ => a.2.1 h x z, a.2.2⟩
theorem Vsu.iv {v rc x : Nat} {y : Int32} {σ : kS} : Vsu v rc σ (mjIu σ.1 v x y, σ.2) := ⟨rfl, fun h z q _ => by show mjIu σ.1 v x y h z = _; rw [mjIu_n q], fun _ _ _ _ => rfl⟩
theorem Vsu.lv {v rc x : Nat} {y : Int64} {σ : kS} : Vsu v rc σ (σ.1, mjLu σ.2.1 v x y, σ.2.2) := ⟨rfl, fun _ _ _ _ => rfl, fun h z q _ => by show mjLu σ.2.1 v x y h z = _; rw [mjLu_n q]⟩
theorem Vsu.mt {v rc x : Nat} {y : Int32} {σ : kS} (hx : x = 14 ∨ x = 15) : Vsu v rc σ (mjIu σ.1 59 x y, σ.2) := ⟨rfl, fun h z _ q => by show mjIu σ.1 59 x y h z = _; rw [mjIu_at, if_neg (fun e => q ⟨e.1, by rw [e.2]; exact hx⟩)], fun _ _ _ _ => rfl⟩
abbrev mtF : List (Nat × Nat) := [(59, 14), (59, 15)]
section KIDX2
variable {Y : Nat → MethodName × ByteArray} {d : Nat} {σ u : kS}
theorem Vsu.all (ty : kTY σ) (ow : OWN σ) (po : POT σ) {v rc NC : Nat} (hv : σ.2.2.2.1 v = (11, 0)) (fc : σ.2.2.1 59 10 = some rc) (kc : σ.2.2.2.1 rc = (23, NC)) (h : Vsu v rc σ u) : OWN u ∧ POT u ∧ Ch true mtF [(59, 10)] σ u := by
  obtain ⟨e2, hI, hL⟩ := h
  have eF : u.2.2.1 = σ.2.2.1 := congrArg (fun t => t.1) e2
  have eD : u.2.2.2.1 = σ.2.2.2.1 := congrArg (fun t => t.2.1) e2
  have ex : kEx σ u := ⟨by rw [e2]; exact Nat.le_refl _, fun h _ => by rw [eD], by rw [e2], by rw [e2]; exact Nat.le_refl _⟩
  have hb : ∀ b ∈ OWb, b < 76 ∧ ¬ b = 59 := by decide
  refine ⟨ow.same (fun p _ => by rw [eF]), po.same (fun p hp => kl_eq ty ex hp (by rw [eF])) (fun b q => hI b 2 (k11 ty hv (hb b q).1) (fun z => (hb b q).2 z.1)) (hI 59 6 (k11 ty hv (by decide)) (fun z => by omega)) ⟨by rw [e2], by rw [e2]⟩, ex, fun h x h1 h2 h3 => ?_, fun g h1 h2 h3 => ?_, fun p _ _ _ => Or.inl (by rw [eF])⟩
  · have n1 : ¬ h = v := fun z => h2 rfl (by rw [z, hv])
    have n2 : ¬ h = rc := fun z => by rw [z, kc] at h1; exact absurd h1 (show ¬ (23 : Nat) < 20 by decide)
    refine ⟨hI h x n1 (fun z => h3 ?_), hL h x n1 n2, by rw [eF]⟩
    rcases z.2 with y | y
    · rw [z.1, y]; decide
    · rw [z.1, y]; decide
  · have n1 : ¬ g = v := fun z => by rw [z, hv] at h1; exact absurd h1 (by decide)
    have n2 : ¬ g = rc := fun z => h3 (59, 10) List.mem_cons_self (by rw [z]; exact fc)
    have n3 : ¬ g = 59 := fun z => by rw [z, ty.k (h := 59) (by decide) rfl] at h1; exact absurd h1 (by decide)
    exact ⟨funext fun x => hI g x n1 (fun z => n3 z.1), funext fun x => hL g x n1 n2, by rw [eF]⟩
/-- one value has changed, with its place -/
theorem RSG.upg (ty : kTY σ) (ow : OWN σ) (po : POT σ) {il sl : List Nat} {vs : List VR} {M T : Int32} {ri rs rh NK rt NT rn Nn te rc NC rm Nm ce : Nat} {ls : List (Nat × Nat)} (h : RSG σ il sl vs M T ri rs rh NK rt NT rn Nn te rc NC rm Nm ce ls) {s : Nat} {r r' : VR} {l l' : Nat × Nat} (hs : vs[s]? = some r) (hl : ls[s]? = some l) (hv : r'.1 = r.1) (hst : Vsu r.1 rc σ u)
    (hC : ∀ j, ¬ ((¬ r.2.1 = 0) ∧ l.1 ≤ j ∧ j < l.1 + pts r.2.1 * l.2) → u.2.1 rc j = σ.2.1 rc j) (hnew : VOK u rt rc te ce r' l') (hout : ∀ i q k, ¬ i = s → vs[i]? = some q → ls[i]? = some k → LD r' l' q k) : RST u il sl (vs.set s r') (u.1 59 14) (u.1 59 15) ∧ OWN u ∧ POT u ∧ Ch true mtF [(59, 10)] σ u := by
  have hd := (h.2.2.2.2.1.2.1 s r l hs hl).1.1
  have hall := hst.all ty ow po hd h.2.2.1.1.1 h.2.2.1.1.2
  obtain ⟨h1, h2, h3, h4, h5, h6, h7⟩ := h
  obtain ⟨e2, hI, hL⟩ := hst
  have eF : u.2.2.1 = σ.2.2.1 := congrArg (fun t => t.1) e2
  have eD : u.2.2.2.1 = σ.2.2.2.1 := congrArg (fun t => t.2.1) e2
  have n59 : ¬ 59 = r.1 := k11 ty hd (by decide)
  have nk : ∀ {g : Nat} {c : Nat × Nat}, σ.2.2.2.1 g = c → 20 ≤ c.1 → (¬ g = r.1) ∧ ¬ g = 59 := fun e c => ⟨fun z => by rw [z, hd] at e; rw [← e] at c; exact absurd c (by decide), fun z => by
    have k := ty.k (h := 59) (c := 4) (by decide) rfl
    rw [← z, e] at k; omega⟩
  have nri := nk h1.1.2 (by simp)
  have nrs := nk h1.2.1.2 (by simp)
  have nrt := nk h2.1.2 (by simp)
  have o59 : ∀ x, ¬ (x = 14 ∨ x = 15) → u.1 59 x = σ.1 59 x := fun x z => hI 59 x n59 (fun y => z y.2)
  obtain ⟨⟨i1, i2⟩, ⟨i3, i4⟩, ⟨i5, i6⟩, i7, i8⟩ := h1
  obtain ⟨⟨t1, t2⟩, ⟨t3, t4⟩, t5, t6, t7, t8, t9, t10⟩ := h2
  obtain ⟨⟨c1, c2⟩, ⟨c3, c4⟩, c5, c6, c7, c8, c9, c10⟩ := h3
  refine ⟨⟨ri, rs, rh, NK, rt, NT, rn, Nn, te, rc, NC, rm, Nm, ce, ls.set s l', ⟨⟨by rw [eF]; exact i1, by rw [eD]; exact i2⟩, ⟨by rw [eF]; exact i3, by rw [eD]; exact i4⟩, ⟨by rw [eF]; exact i5, by rw [eD]; exact i6⟩, i7, i8⟩, ⟨⟨by rw [eF]; exact t1, by rw [eD]; exact t2⟩, ⟨by rw [eF]; exact t3, by rw [eD]; exact t4⟩, t5, t6, t7, t8, (o59 9 (by decide)).trans t9, t10⟩, ⟨⟨by rw [eF]; exact c1, by rw [eD]; exact c2⟩, ⟨by rw [eF]; exact c3, by rw [eD]; exact c4⟩, c5, c6, c7, c8, (o59 12 (by decide)).trans c9, c10⟩, h4.upd hs hv (o59 13 (by decide)) (o59 6 (by decide)) (funext fun x => hI ri x nri.1 (fun z => nri.2 z.1)) (funext fun x => hI rs x nrs.1 (fun z => nrs.2 z.1)) (by rw [eF]), ?_, rfl, rfl⟩, hall⟩
  refine h5.upd h4.2.2.2.2.2 hs hl (Nat.le_refl _) (Nat.le_refl _) ⟨by rw [eD]; exact Nat.le_refl _, by rw [eD]; exact Nat.le_refl _⟩ (fun v hv2 => by rw [eD]; exact hv2) (fun v x hv2 z => ⟨hI v x z (fun y => k11 ty hv2 (show 59 < 76 by decide) y.1.symm), hL v x z (fun y => ?_)⟩) (fun j _ _ => hI rt j nrt.1 (fun z => nrt.2 z.1)) (fun j _ z => hC j z) hnew hout
  rw [y, c2] at hv2; exact absurd hv2 (by simp)
theorem VOK.em {rt rc te ce v k : Nat} {w c : Int32} {e : Int64} (a : σ.2.2.2.1 v = (11, 0) ∧ k ≤ 4 ∧ σ.1 v 1 = nI k ∧ σ.1 v 2 = nI (pts k) ∧ σ.2.1 v 3 = e ∧ σ.1 v 4 = w ∧ σ.1 v 5 = c) (b : σ.1 v 6 = 0 ∧ σ.1 v 7 = 0 ∧ σ.1 v 8 = 0) : VOK σ rt rc te ce (v, k, 0, w, c, e, [], emC k) (0, 0) := by
  refine ⟨a, b, Nat.le_refl _, fun z => ⟨rfl, Or.inl ?_, Nat.zero_le _, Or.inl (Nat.zero_le _), rfl⟩, fun z => ⟨rfl, Or.inl List.length_replicate, Or.inl (by show 0 + pts k * 0 ≤ ce; omega), fun p q hp => ?_⟩⟩
  · have z : k = 0 := z
    subst z; rfl
  · have hq := List.mem_of_getElem? hp
    have := List.eq_of_mem_replicate hq
    rw [this]; rfl
/-- no key has it -/
theorem VOK.fl {rt rc te ce v k : Nat} {w c : Int32} {e : Int64} (a : σ.2.2.2.1 v = (11, 0) ∧ k ≤ 4 ∧ σ.1 v 1 = nI k ∧ σ.1 v 2 = nI (pts k) ∧ σ.2.1 v 3 = e ∧ σ.1 v 4 = w ∧ σ.1 v 5 = c) (b : σ.1 v 6 = 0 ∧ σ.1 v 7 = 0 ∧ σ.1 v 8 = 0) : VOK σ rt rc te ce (v, k, 0, w, c, e, [], flC k) (0, 0) := by
  refine ⟨a, b, Nat.le_refl _, fun z => ⟨rfl, Or.inr ⟨?_, rfl⟩, Nat.zero_le _, Or.inl (Nat.zero_le _), rfl⟩, fun z => ⟨rfl, Or.inr ⟨?_, rfl⟩, Or.inl (by show 0 + pts k * 0 ≤ ce; omega), fun p q hp => ?_⟩⟩
  · have z : k = 0 := z
    subst z; rfl
  · show flC k = []
    unfold flC; exact if_neg z
  · have hp : (flC k)[p]? = some q := hp
    unfold flC at hp; rw [if_neg z] at hp; cases hp
theorem LD.em {v k : Nat} {w c : Int32} {e : Int64} {cs : List (List Int64)} {q : VR} {l : Nat × Nat} : LD (v, k, 0, w, c, e, [], cs) (0, 0) q l := fun _ => Or.inl (by unfold spc; show 0 + (if k = 0 then 0 else pts k * 0) ≤ l.1; split <;> omega)
/-- what a value's change of place leaves -/
def vgP (σ : kS) (il sl : List Nat) (vs : List VR) (M T : Int32) : kK := fun v u => v = none ∧ RST u il sl vs M T ∧ OWN u ∧ POT u ∧ Ch true mtF [(59, 10)] σ u
theorem k_clear (ty : kTY σ) (ow : OWN σ) (po : POT σ) {il sl : List Nat} {vs : List VR} {M T : Int32} (h : RST σ il sl vs M T) {s v k n : Nat} {w c : Int32} {e : Int64} {t : List Int32} {cs : List (List Int64)} (hs : vs[s]? = some (v, k, n, w, c, e, t, cs)) :
    kjY kPP (kQQ Y) d 114 0 (mjL0 1 [.ref v]) [] σ (vgP σ il sl (vs.set s (v, k, 0, w, c, e, [], flC k)) M T) := by
  obtain ⟨ri, rs, rh, NK, rt, NT, rn, Nn, te, rc, NC, rm, Nm, ce, ls, hG⟩ := h
  obtain ⟨l, hl, hV, -⟩ := hG.v hs
  obtain ⟨⟨a1, a2, a3, a4, a5, a6, a7⟩, -⟩ := hV
  have a1 : σ.2.2.2.1 v = (11, 0) := a1
  have kv : (σ.2.2.2.1 v).1 = 11 := by rw [a1]
  refine kjZ_y rfl rfl 10 _ _ _ _ ty ?_
  refine (And.intro (by assumption) (And.intro (Or.inl rfl) (fun ty' => (And.intro (by assumption) (And.intro (Or.inl rfl) (fun ty'' => (And.intro (by assumption) (And.intro (Or.inl rfl) (fun ty''' => And.intro rfl (And.intro rfl ?_))))))))))
  have eI : ∀ h x, mjIu (mjIu (mjIu σ.1 v 6 0) v 7 0) v 8 0 h x = if h = v ∧ (x = 6 ∨ x = 7 ∨ x = 8) then 0 else σ.1 h x := by
    intro h x
    rw [mjIu_at, mjIu_at, mjIu_at]
    by_cases z : h = v
    · rw [z]
      by_cases z8 : x = 8
      · rw [if_pos ⟨rfl, z8⟩, if_pos ⟨rfl, by omega⟩]
      · rw [if_neg (fun q => z8 q.2)]
        by_cases z7 : x = 7
        · rw [if_pos ⟨rfl, z7⟩, if_pos ⟨rfl, by omega⟩]
        · rw [if_neg (fun q => z7 q.2)]
          by_cases z6 : x = 6
          · rw [if_pos ⟨rfl, z6⟩, if_pos ⟨rfl, by omega⟩]
          · rw [if_neg (fun q => z6 q.2), if_neg (fun q => by omega)]
    · rw [if_neg (fun q => z q.1), if_neg (fun q => z q.1), if_neg (fun q => z q.1), if_neg (fun q => z q.1)]
  have n59 : ¬ 59 = v := k11 ty a1 (by decide)
  have hu := hG.upg (u := (mjIu (mjIu (mjIu σ.1 v 6 0) v 7 0) v 8 0, σ.2)) (r' := (v, k, 0, w, c, e, [], flC k)) (l' := (0, 0)) ty ow po hs hl rfl ⟨rfl, fun h x z _ => (eI h x).trans (if_neg (fun q => z q.1)), fun _ _ _ _ => rfl⟩ (fun _ _ => rfl) (VOK.fl ⟨a1, a2, (eI v 1).trans ((if_neg (fun q => by omega)).trans a3), (eI v 2).trans ((if_neg (fun q => by omega)).trans a4), a5, (eI v 4).trans ((if_neg (fun q => by omega)).trans a6), (eI v 5).trans ((if_neg (fun q => by omega)).trans a7)⟩ ⟨(eI v 6).trans (if_pos ⟨rfl, by omega⟩), (eI v 7).trans (if_pos ⟨rfl, by omega⟩), (eI v 8).trans (if_pos ⟨rfl, by omega⟩)⟩) (fun _ _ _ _ _ _ => LD.em)
  obtain ⟨u1, u2, u3, u4⟩ := hu
  have m1 : mjIu (mjIu (mjIu σ.1 v 6 0) v 7 0) v 8 0 59 14 = M := (eI 59 14).trans ((if_neg (fun q => n59 q.1)).trans hG.2.2.2.2.2.1)
  have m2 : mjIu (mjIu (mjIu σ.1 v 6 0) v 7 0) v 8 0 59 15 = T := (eI 59 15).trans ((if_neg (fun q => n59 q.1)).trans hG.2.2.2.2.2.2)
  refine ⟨rfl, ?_, u2, u3, u4⟩
  have u1 : RST _ il sl (vs.set s (v, k, 0, w, c, e, [], flC k)) (mjIu (mjIu (mjIu σ.1 v 6 0) v 7 0) v 8 0 59 14) (mjIu (mjIu (mjIu σ.1 v 6 0) v 7 0) v 8 0 59 15) := u1
  rw [m1, m2] at u1; exact u1
theorem k_become (ty : kTY σ) (ow : OWN σ) (po : POT σ) {il sl : List Nat} {vs : List VR} {M T : Int32} (h : RST σ il sl vs M T) {s v k n : Nat} {w c : Int32} {e : Int64} {t : List Int32} {cs : List (List Int64)} (hs : vs[s]? = some (v, k, n, w, c, e, t, cs)) {k' : Nat} (hk : k' ≤ 4) (x : Int32) (ex : x = nI k') :
    kjY kPP (kQQ Y) (d + 1) 113 0 (mjL0 2 [.ref v, .int x]) [] σ (vgP σ il sl (vs.set s (v, k', 0, w, c, e, [], emC k')) M T) := by
  obtain ⟨ri, rs, rh, NK, rt, NT, rn, Nn, te, rc, NC, rm, Nm, ce, ls, hG⟩ := h
  obtain ⟨l, hl, hV, -⟩ := hG.v hs
  obtain ⟨⟨a1, a2, a3, a4, a5, a6, a7⟩, -⟩ := hV
  have a1 : σ.2.2.2.1 v = (11, 0) := a1
  have kv : (σ.2.2.2.1 v).1 = 11 := by rw [a1]
  have n59 : ¬ 59 = v := k11 ty a1 (by decide)
  -- the end, with the number of parts on the stack
  have fin : ∀ u0 y, kTY u0 → u0 = (mjIu σ.1 v 1 x, σ.2) → y = nI (pts k') → kjY kPP (kQQ Y) (d + 1) 113 19 [some (.ref v), some (.int x)] [.int y, .ref v] u0 (vgP σ il sl (vs.set s (v, k', 0, w, c, e, [], emC k')) M T) := by
    intro u0 y tu0 eu0 ey
    rw [ex] at eu0
    have kv0 : (u0.2.2.2.1 v).1 = 11 := by rw [eu0]; exact kv
    refine kjZ_y rfl rfl 1 _ _ _ _ tu0 ?_
    refine (And.intro (by assumption) (And.intro (Or.inl rfl) (fun tu0' => ?_)))
    have go : ∀ u1, kTY u1 → u1 = (mjIu u0.1 v 2 y, u0.2) → kjY kPP (kQQ Y) (d + 1) 113 20 [some (.ref v), some (.int x)] [] u1 (vgP σ il sl (vs.set s (v, k', 0, w, c, e, [], emC k')) M T) := by
      intro u1 tu1 eu1
      have eu1 : u1 = (mjIu (mjIu σ.1 v 1 (nI k')) v 2 (nI (pts k')), σ.2) := by rw [eu1, ey, eu0]
      have kv1 : (u1.2.2.2.1 v).1 = 11 := by rw [eu1]; exact kv
      have eI1 : ∀ h z, u1.1 h z = if h = v ∧ z = 2 then nI (pts k') else if h = v ∧ z = 1 then nI k' else σ.1 h z := fun h z => by
        rw [eu1]; show mjIu (mjIu σ.1 v 1 _) v 2 _ h z = _
        rw [mjIu_at, mjIu_at]
      refine kjZ_y rfl rfl 1 _ _ _ _ tu1 ?_
      refine kjZ_y rfl rfl 1 _ _ _ _ tu1 ?_
      refine (And.intro (Nat.le_of_ble_eq_true rfl) (And.intro (Or.inl ⟨(Nat.le_of_ble_eq_true rfl), (by assumption)⟩) (And.intro (Nat.le_of_ble_eq_true rfl) (And.intro (Nat.le_of_ble_eq_true rfl) (kjY_mono tu1 (fun q_ u2 ty2 xu2 h_ => ?_) (?_ : kjY kPP (kQQ Y) d 114 0 (mjL0 1 [.ref v]) [] u1 (vgP σ il sl (vs.set s (v, k', 0, w, c, e, [], emC k')) M T)))))))
      · intro _ _
        obtain ⟨rfl, q⟩ := h_
        refine kjZ_y rfl rfl 1 _ _ _ _ ty2 ?_
        refine And.intro rfl (And.intro rfl ?_)
        exact ⟨rfl, q⟩
      · refine kjZ_y rfl rfl 10 _ _ _ _ tu1 ?_
        refine (And.intro (by assumption) (And.intro (Or.inl rfl) (fun tu1' => (And.intro (by assumption) (And.intro (Or.inl rfl) (fun tu1'' => (And.intro (by assumption) (And.intro (Or.inl rfl) (fun tu1''' => And.intro rfl (And.intro rfl ?_))))))))))
        have eI : ∀ h z, mjIu (mjIu (mjIu u1.1 v 6 0) v 7 0) v 8 0 h z = if h = v ∧ (z = 6 ∨ z = 7 ∨ z = 8) then 0 else u1.1 h z := by
          intro h x
          rw [mjIu_at, mjIu_at, mjIu_at]
          by_cases z : h = v
          · rw [z]
            by_cases z8 : x = 8
            · rw [if_pos ⟨rfl, z8⟩, if_pos ⟨rfl, by omega⟩]
            · rw [if_neg (fun q => z8 q.2)]
              by_cases z7 : x = 7
              · rw [if_pos ⟨rfl, z7⟩, if_pos ⟨rfl, by omega⟩]
              · rw [if_neg (fun q => z7 q.2)]
                by_cases z6 : x = 6
                · rw [if_pos ⟨rfl, z6⟩, if_pos ⟨rfl, by omega⟩]
                · rw [if_neg (fun q => z6 q.2), if_neg (fun q => by omega)]
          · rw [if_neg (fun q => z q.1), if_neg (fun q => z q.1), if_neg (fun q => z q.1), if_neg (fun q => z q.1)]
        have eo : ∀ h z, ¬ h = v → mjIu (mjIu (mjIu u1.1 v 6 0) v 7 0) v 8 0 h z = σ.1 h z := fun h z q => by rw [eI, if_neg (fun y => q y.1), eI1, if_neg (fun y => q y.1), if_neg (fun y => q y.1)]
        have hu := hG.upg (u := (mjIu (mjIu (mjIu u1.1 v 6 0) v 7 0) v 8 0, u1.2)) (r' := (v, k', 0, w, c, e, [], emC k')) (l' := (0, 0)) ty ow po hs hl rfl ⟨by rw [eu1], fun h z q _ => eo h z q, fun _ _ _ _ => by rw [eu1]⟩ (fun _ _ => by rw [eu1]) (VOK.em ⟨by rw [eu1]; exact a1, hk, by show mjIu _ _ _ _ _ _ = _; rw [eI, if_neg (fun q => by omega), eI1, if_neg (fun q => by omega), if_pos ⟨rfl, rfl⟩], by show mjIu _ _ _ _ _ _ = _; rw [eI, if_neg (fun q => by omega), eI1, if_pos ⟨rfl, rfl⟩], by rw [eu1]; exact a5, by show mjIu _ _ _ _ _ _ = _; rw [eI, if_neg (fun q => by omega), eI1, if_neg (fun q => by omega), if_neg (fun q => by omega)]; exact a6, by show mjIu _ _ _ _ _ _ = _; rw [eI, if_neg (fun q => by omega), eI1, if_neg (fun q => by omega), if_neg (fun q => by omega)]; exact a7⟩ ⟨(eI v 6).trans (if_pos ⟨rfl, by omega⟩), (eI v 7).trans (if_pos ⟨rfl, by omega⟩), (eI v 8).trans (if_pos ⟨rfl, by omega⟩)⟩) (fun _ _ _ _ _ _ => LD.em)
        obtain ⟨w1, w2, w3, w4⟩ := hu
        refine ⟨rfl, ?_, w2, w3, w4⟩
        have w1 : RST _ il sl (vs.set s (v, k', 0, w, c, e, [], emC k')) (mjIu (mjIu (mjIu u1.1 v 6 0) v 7 0) v 8 0 59 14) (mjIu (mjIu (mjIu u1.1 v 6 0) v 7 0) v 8 0 59 15) := w1
        rw [eo 59 14 n59, eo 59 15 n59, hG.2.2.2.2.2.1, hG.2.2.2.2.2.2] at w1; exact w1
    exact go _ tu0' rfl
  refine kjZ_y rfl rfl 6 _ _ _ _ ty ?_
  refine (And.intro (by assumption) (And.intro (Or.inl rfl) (fun ty' => And.intro (fun c1 => ?_) (fun c1 => ?_))))
  · refine kjZ_y rfl rfl 3 _ _ _ _ ty' ?_
    refine And.intro (fun c2 => ?_) (fun c2 => ?_)
    · refine kjZ_y rfl rfl 3 _ _ _ _ ty' ?_
      refine And.intro (fun c3 => ?_) (fun c3 => ?_)
      · refine kjZ_y rfl rfl 1 _ _ _ _ ty' ?_
        refine fin _ _ ty' rfl ?_
        have n0 : ¬ k' = 0 := fun z => by
          have c1 : ¬ x = 0 := c1
          exact c1 (by rw [ex, z]; rfl)
        have n4 : ¬ k' = 4 := fun z => c2 (by rw [ex, z]; rfl)
        have n2 : ¬ k' = 2 := fun z => c3 (by rw [ex, z]; rfl)
        unfold pts; rw [if_neg n0, if_neg n4, if_neg n2]; rfl
      · refine kjZ_y rfl rfl 2 _ _ _ _ ty' ?_
        refine fin _ _ ty' rfl ?_
        have c3 : x = Int32.ofInt 2 := Decidable.not_not.mp c3
        rw [ex] at c3
        have : k' = 2 := (nI_eq (b := 2) (by omega) (by decide)).mp c3
        rw [this]; rfl
    · refine kjZ_y rfl rfl 2 _ _ _ _ ty' ?_
      refine fin _ _ ty' rfl ?_
      have c2 : x = Int32.ofInt 4 := Decidable.not_not.mp c2
      rw [ex] at c2
      have : k' = 4 := (nI_eq (b := 4) (by omega) (by decide)).mp c2
      rw [this]; rfl
  · refine kjZ_y rfl rfl 2 _ _ _ _ ty' ?_
    refine fin _ _ ty' rfl ?_
    have c1 : x = 0 := Decidable.not_not.mp c1
    rw [ex] at c1
    have : k' = 0 := (nI_eq (b := 0) (by omega) (by decide)).mp c1
    rw [this]; rfl
end KIDX2
