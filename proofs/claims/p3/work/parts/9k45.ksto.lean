/-! The class's keys as the list that the reference keeps. -/
theorem sl_perm {sl : List Nat} {m : Nat} (h1 : sl.length = m) (h2 : sl.Nodup) (h3 : ∀ s ∈ sl, s < m) : sl.Perm (List.range m) := by
  refine (List.perm_ext_iff_of_nodup h2 List.nodup_range).mpr (fun s => ⟨fun h => List.mem_range.mpr (h3 s h), fun h => ?_⟩)
  refine Decidable.byContradiction fun hn => ?_
  have hd : (s :: sl).Nodup := List.nodup_cons.mpr ⟨hn, h2⟩
  have := List.Nodup.length_le_of_subset (l₂ := List.range m) hd (fun x hx => by
    rcases List.mem_cons.mp hx with z | z
    · rw [z]; exact h
    · exact List.mem_range.mpr (h3 x z))
  rw [List.length_cons, List.length_range] at this
  omega
theorem sum_perm {α : Type} {f : α → Nat} {a b : List α} (h : a.Perm b) : (a.map f).sum = (b.map f).sum := by
  induction h with
  | nil => rfl
  | cons x _ ih => rw [List.map_cons, List.map_cons, List.sum_cons, List.sum_cons, ih]
  | swap x y l => rw [List.map_cons, List.map_cons, List.map_cons, List.map_cons, List.sum_cons, List.sum_cons, List.sum_cons, List.sum_cons]; omega
  | trans _ _ ih1 ih2 => exact ih1.trans ih2
theorem range_sum {α : Type} (f : α → Nat) (dflt : α) (l : List α) : ((List.range l.length).map (fun s => f (l.getD s dflt))).sum = (l.map f).sum := by
  congr 1
  refine List.ext_getElem? fun i => ?_
  rw [List.getElem?_map, List.getElem?_map]
  by_cases c : i < l.length
  · rw [List.getElem?_range c, List.getElem?_eq_getElem c]
    show some (f (l.getD i dflt)) = some (f l[i])
    rw [List.getD_eq_getElem?_getD, List.getElem?_eq_getElem c]; rfl
  · rw [List.getElem?_eq_none (by rw [List.length_range]; omega), List.getElem?_eq_none (by omega)]; rfl
theorem txS_sum (vs : List VR) : txS vs = (vs.map (fun r => if r.2.1 = 0 then r.2.2.1 else 0)).sum := by
  induction vs with
  | nil => rfl
  | cons x r ih => rw [List.map_cons, List.sum_cons, ← ih]; rfl
theorem clS_sum (vs : List VR) : clS vs = (vs.map (fun r => pts r.2.1 * r.2.2.1)).sum := by
  induction vs with
  | nil => rfl
  | cons x r ih => rw [List.map_cons, List.sum_cons, ← ih]; rfl
/-- a row of cells holds the numbers of these words -/
def IDL (nm : List (List Int32)) (q : List Int64) (ws : List (List Int32)) : Prop := q.length = ws.length ∧ ∀ (j : Nat) (w : List Int32), ws[j]? = some w → ∃ k : Nat, q[j]? = some (nI k).toInt64 ∧ nm[k]? = some w
def PRE (nm nm' : List (List Int32)) : Prop := ∃ x, nm' = nm ++ x
theorem PRE.rf {nm : List (List Int32)} : PRE nm nm := ⟨[], (List.append_nil nm).symm⟩
theorem PRE.tr {a b c : List (List Int32)} (h : PRE a b) (g : PRE b c) : PRE a c := by
  obtain ⟨x, rfl⟩ := h
  obtain ⟨y, rfl⟩ := g
  exact ⟨x ++ y, List.append_assoc _ _ _⟩
theorem PRE.get {a b : List (List Int32)} (h : PRE a b) {k : Nat} {w : List Int32} (g : a[k]? = some w) : b[k]? = some w := by
  obtain ⟨x, rfl⟩ := h
  rw [List.getElem?_append_left (List.getElem?_eq_some_iff.mp g).1]; exact g
theorem IDL.mono {nm nm' : List (List Int32)} {q : List Int64} {ws : List (List Int32)} (h : IDL nm q ws) (p : PRE nm nm') : IDL nm' q ws := ⟨h.1, fun j w hj => by
  obtain ⟨k, h1, h2⟩ := h.2 j w hj
  exact ⟨k, h1, p.get h2⟩⟩
def CSM (nm : List (List Int32)) (k : Nat) (cs : List (List Int64)) (es : List AE) : Prop :=
  (k = 0 → es = [] ∧ cs = []) ∧ (k = 1 ∨ k = 3 → ∃ q, cs = [q] ∧ IDL nm q (es.map (fun z => z.1))) ∧ (k = 2 → ∃ q0 q1, cs = [q0, q1] ∧ IDL nm q0 (es.map (fun z => z.1)) ∧ IDL nm q1 (es.map (fun z => z.2.1))) ∧
  (k = 4 → ∃ q0 q1 q2 q3 fs, cs = [q0, q1, q2, q3] ∧ IDL nm q1 (es.map (fun z => z.1)) ∧ q3 = es.map (fun z => z.2.2) ∧ IDL nm q0 (fs.map (fun z => z.1)) ∧ q2 = fs.map (fun z => z.2.2) ∧ fs.Perm es ∧ SP fs)
theorem CSM.mono {nm nm' : List (List Int32)} {k : Nat} {cs : List (List Int64)} {es : List AE} (h : CSM nm k cs es) (p : PRE nm nm') : CSM nm' k cs es := by
  obtain ⟨h0, h1, h2, h4⟩ := h
  refine ⟨h0, fun z => ?_, fun z => ?_, fun z => ?_⟩
  · obtain ⟨q, a, b⟩ := h1 z; exact ⟨q, a, b.mono p⟩
  · obtain ⟨q0, q1, a, b, c⟩ := h2 z; exact ⟨q0, q1, a, b.mono p, c.mono p⟩
  · obtain ⟨q0, q1, q2, q3, fs, a, b, c, d, e, f⟩ := h4 z; exact ⟨q0, q1, q2, q3, fs, a, b.mono p, c, d.mono p, e, f⟩
def endE (a : AK) : Int64 := if a.2.2.1 = 0 then NEV else a.2.2.2.1
/-- a value is what a key has -/
def AV (nm : List (List Int32)) (r : VR) (a : AK) : Prop := a.2.1 = nI r.2.1 ∧ r.2.1 ≤ 4 ∧ r.2.2.2.2.2.1 = endE a ∧ r.2.2.2.2.2.2.1 = a.2.2.2.2.1 ∧ r.2.2.1 = (if r.2.1 = 0 then a.2.2.2.2.1.length else a.2.2.2.2.2.length) ∧ CSM nm r.2.1 r.2.2.2.2.2.2.2 a.2.2.2.2.2
theorem AV.mono {nm nm' : List (List Int32)} {r : VR} {a : AK} (h : AV nm r a) (p : PRE nm nm') : AV nm' r a := ⟨h.1, h.2.1, h.2.2.1, h.2.2.2.1, h.2.2.2.2.1, h.2.2.2.2.2.mono p⟩
/-- a key: the value's thing, the name's number, the slot, the weight, what is counted, what it has -/
abbrev KC : Type := Nat × Nat × Nat × Int32 × Int32 × AK
def cSum : List KC → Int32
  | [] => 0
  | x :: r => x.2.2.2.2.1 + cSum r
def tSum : List KC → Int32
  | [] => 0
  | x :: r => nvI (endE x.2.2.2.2.2) + tSum r
def skA (ks : List KC) : List AK := ks.map (fun x => x.2.2.2.2.2)
def STV (nm : List (List Int32)) (ks : List KC) (fr : List Nat) (vs : List VR) : Prop := (∀ x ∈ ks, ∃ r, vs[x.2.2.1]? = some r ∧ r.1 = x.1 ∧ r.2.2.2.1 = x.2.2.2.1 ∧ r.2.2.2.2.1 = x.2.2.2.2.1 ∧ AV nm r x.2.2.2.2.2 ∧ nm[x.2.1]? = some x.2.2.2.2.2.1) ∧ (∀ s ∈ fr, ∃ r, vs[s]? = some r ∧ r.2.2.1 = 0 ∧ r.2.2.2.2.1 = 0 ∧ r.2.2.2.2.2.1 = NEV ∧ r.2.2.2.2.2.2.2 = flC r.2.1) ∧ SRN (anm (skA ks))
def STO (σ : kS) (nm : List (List Int32)) (ks : List KC) : Prop := ∃ fr vs, RST σ (ks.map (fun x => x.2.1)) (ks.map (fun x => x.2.2.1) ++ fr) vs (cSum ks) (tSum ks) ∧ STV nm ks fr vs
theorem STV.mono {nm nm' : List (List Int32)} {ks : List KC} {fr : List Nat} {vs : List VR} (h : STV nm ks fr vs) (p : PRE nm nm') : STV nm' ks fr vs := by
  obtain ⟨h1, h2, h3⟩ := h
  refine ⟨fun x hx => ?_, h2, h3⟩
  obtain ⟨r, a1, a2, a3, a4, a5, a6⟩ := h1 x hx
  exact ⟨r, a1, a2, a3, a4, a5.mono p, p.get a6⟩
theorem STO.mono {σ : kS} {nm nm' : List (List Int32)} {ks : List KC} (h : STO σ nm ks) (p : PRE nm nm') : STO σ nm' ks := by
  obtain ⟨fr, vs, h1, h2⟩ := h
  exact ⟨fr, vs, h1, h2.mono p⟩
/-- a measure of all values is that of the keys, where free values have none -/
theorem vs_sum {σ : kS} {nm : List (List Int32)} {ks : List KC} {fr : List Nat} {vs : List VR} {il : List Nat} {M T : Int32} (h : RST σ il (ks.map (fun x => x.2.2.1) ++ fr) vs M T) (g : STV nm ks fr vs) (f : VR → Nat) (F : AK → Nat) (hf : ∀ r a, AV nm r a → f r = F a) (h0 : ∀ r : VR, r.2.2.1 = 0 → f r = 0) : (vs.map f).sum = ((skA ks).map F).sum := by
  obtain ⟨ri, rs, rh, NK, rt, NT, rn, Nn, te, rc, NC, rm, Nm, ce, ls, hG⟩ := h
  obtain ⟨b6, b7, b8⟩ := hG.2.2.2.1.2.1
  have hp := sl_perm b6 b7 b8
  rw [← range_sum f (0, 0, 0, 0, 0, 0, [], []) vs, ← sum_perm hp, List.map_append, List.sum_append]
  obtain ⟨g1, g2, -⟩ := g
  have e1 : ((ks.map (fun x => x.2.2.1)).map (fun s => f (vs.getD s (0, 0, 0, 0, 0, 0, [], [])))).sum = ((skA ks).map F).sum := by
    unfold skA
    rw [List.map_map, List.map_map]
    congr 1
    refine List.map_congr_left fun x hx => ?_
    obtain ⟨r, a1, a2, a3, a4, a5, a6⟩ := g1 x hx
    show f (vs.getD x.2.2.1 _) = F x.2.2.2.2.2
    rw [List.getD_eq_getElem?_getD, a1]; exact hf r _ a5
  have e2 : (fr.map (fun s => f (vs.getD s (0, 0, 0, 0, 0, 0, [], [])))).sum = 0 := by
    have : ∀ l : List Nat, (∀ s ∈ l, s ∈ fr) → (l.map (fun s => f (vs.getD s (0, 0, 0, 0, 0, 0, [], [])))).sum = 0 := by
      intro l
      induction l with
      | nil => intro _; rfl
      | cons s l ih =>
        intro hl
        rw [List.map_cons, List.sum_cons, ih (fun x hx => hl x (List.mem_cons_of_mem _ hx))]
        obtain ⟨r, a1, a2, -⟩ := g2 s (hl s List.mem_cons_self)
        rw [List.getD_eq_getElem?_getD, a1]; exact h0 r a2
    exact this fr (fun _ h => h)
  omega
/-- how much the texts hold, how many cells there are -/
def xtA (A : List AK) : Nat := (A.map (fun a => if a.2.1 = 0 then a.2.2.2.2.1.length else 0)).sum
def ptI (s : Int32) : Nat := pts s.toNatClampNeg
def clA (A : List AK) : Nat := (A.map (fun a => ptI a.2.1 * a.2.2.2.2.2.length)).sum
theorem AV.tx {nm : List (List Int32)} {r : VR} {a : AK} (h : AV nm r a) : (if r.2.1 = 0 then r.2.2.1 else 0) = if a.2.1 = 0 then a.2.2.2.2.1.length else 0 := by
  obtain ⟨h1, h2, h3, h4, h5, h6⟩ := h
  by_cases c : r.2.1 = 0
  · rw [if_pos c, if_pos (by rw [h1, c]; rfl), h5, if_pos c]
  · have c2 : ¬ a.2.1 = 0 := fun z => c ((nI_eq (b := 0) (by omega) (by decide)).mp (h1.symm.trans z))
    rw [if_neg c, if_neg c2]
theorem AV.cl {nm : List (List Int32)} {r : VR} {a : AK} (h : AV nm r a) : pts r.2.1 * r.2.2.1 = ptI a.2.1 * a.2.2.2.2.2.length := by
  obtain ⟨h1, h2, h3, h4, h5, h6⟩ := h
  unfold ptI; rw [h1, nI_clamp (by omega), h5]
  by_cases c : r.2.1 = 0
  · rw [c]; show 0 * _ = 0 * _; rw [Nat.zero_mul, Nat.zero_mul]
  · rw [if_neg c]
theorem STO.ms {σ : kS} {nm : List (List Int32)} {ks : List KC} {fr : List Nat} {vs : List VR} {il : List Nat} {M T : Int32} (h : RST σ il (ks.map (fun x => x.2.2.1) ++ fr) vs M T) (g : STV nm ks fr vs) : txS vs = xtA (skA ks) ∧ clS vs = clA (skA ks) := by
  refine ⟨?_, ?_⟩
  · rw [txS_sum]; exact vs_sum h g _ _ (fun r a ha => ha.tx) (fun r hr => by by_cases c : r.2.1 = 0 <;> simp [c, hr])
  · rw [clS_sum]; exact vs_sum h g _ _ (fun r a ha => ha.cl) (fun r hr => by rw [hr]; rfl)
abbrev stKf : List (Nat × Nat) := [(59, 3), (59, 4), (59, 5), (59, 6), (59, 7), (59, 8), (59, 9), (59, 10), (59, 11), (59, 12), (59, 13), (59, 14), (59, 15)]
abbrev stKo : List (Nat × Nat) := [(59, 3), (59, 4), (59, 5), (59, 7), (59, 8), (59, 10), (59, 11)]
theorem RST.fr {σ u : kS} (ty : kTY σ) (ow : OWN σ) {il sl : List Nat} {vs : List VR} {M T : Int32} (h : RST σ il sl vs M T) {fs os : List (Nat × Nat)} (ch : Ch false fs os σ u) (hf : ∀ p ∈ fs, p.1 < 76 ∧ ¬ p ∈ stKf) (ho : ∀ p ∈ os, p ∈ OWs ∧ ¬ p ∈ stKo) : RST u il sl vs M T := by
  obtain ⟨ri, rs, rh, NK, rt, NT, rn, Nn, te, rc, NC, rm, Nm, ce, ls, hG⟩ := h
  obtain ⟨⟨⟨i1, i2⟩, ⟨i3, i4⟩, ⟨i5, i6⟩, i7, i8⟩, ⟨⟨t1, t2⟩, ⟨t3, t4⟩, t5, t6, t7, t8, t9, t10⟩, ⟨⟨c1, c2⟩, ⟨c3, c4⟩, c5, c6, c7, c8, c9, c10⟩, ⟨⟨b1, b2, b3, b4, b5⟩, b6, b7, b8, b9, b10⟩, a5, a6, a7⟩ := hG
  obtain ⟨ex, h1, h2, h3⟩ := ch
  have k59 : (σ.2.2.2.1 59).1 = 4 := ty.k (by decide) rfl
  have f59 : ∀ x, (59, x) ∈ stKf → u.1 59 x = σ.1 59 x ∧ u.2.1 59 x = σ.2.1 59 x ∧ u.2.2.1 59 x = σ.2.2.1 59 x := fun x hx => h1 59 x (by rw [k59]; decide) (fun z => by cases z) (fun z => (hf _ z).2 hx)
  have row : ∀ {g x k N : Nat}, σ.2.2.1 59 x = some g → σ.2.2.2.1 g = (k, N) → (59, x) ∈ stKo → 20 ≤ k ∧ k ≤ 25 → u.2.2.2.1 g = (k, N) ∧ u.1 g = σ.1 g ∧ u.2.1 g = σ.2.1 g ∧ u.2.2.1 g = σ.2.2.1 g := fun {g x k N} e1 e2 e3 e4 => by
    have hl := ty.lr e2 (by omega)
    refine ⟨by rw [ex.2.1 g hl]; exact e2, h2 g (by rw [e2]; exact e4.1) (by rw [e2]; exact e4.2) (fun p hp z => ?_)⟩
    have := ow p (ho p hp).1 (59, x) ((by decide : ∀ p ∈ stKo, p ∈ OWs) _ e3) (by rw [z]; exact e1.symm)
    exact (ho p hp).2 (by rw [this]; exact e3)
  obtain ⟨r1, r1', -, -⟩ := row i1 i2 (by decide) (by decide)
  obtain ⟨r2, r2', -, -⟩ := row i3 i4 (by decide) (by decide)
  obtain ⟨r3, -, -, r3'⟩ := row i5 i6 (by decide) (by decide)
  obtain ⟨r4, r4', -, -⟩ := row t1 t2 (by decide) (by decide)
  obtain ⟨r5, -, -, -⟩ := row t3 t4 (by decide) (by decide)
  obtain ⟨r6, -, r6', -⟩ := row c1 c2 (by decide) (by decide)
  obtain ⟨r7, -, -, -⟩ := row c3 c4 (by decide) (by decide)
  refine ⟨ri, rs, rh, NK, rt, NT, rn, Nn, te, rc, NC, rm, Nm, ce, ls, ⟨⟨by rw [(f59 3 (by decide)).2.2]; exact i1, r1⟩, ⟨by rw [(f59 4 (by decide)).2.2]; exact i3, r2⟩, ⟨by rw [(f59 5 (by decide)).2.2]; exact i5, r3⟩, i7, i8⟩, ⟨⟨by rw [(f59 7 (by decide)).2.2]; exact t1, r4⟩, ⟨by rw [(f59 8 (by decide)).2.2]; exact t3, r5⟩, t5, t6, t7, t8, (f59 9 (by decide)).1.trans t9, t10⟩, ⟨⟨by rw [(f59 10 (by decide)).2.2]; exact c1, r6⟩, ⟨by rw [(f59 11 (by decide)).2.2]; exact c3, r7⟩, c5, c6, c7, c8, (f59 12 (by decide)).1.trans c9, c10⟩, ⟨⟨(f59 13 (by decide)).1.trans b1, (f59 6 (by decide)).1.trans b2, b3, b4, b5⟩, b6, fun i k hk => by rw [r1']; exact b7 i k hk, fun i k hk => by rw [r2']; exact b8 i k hk, fun i r hr => by rw [r3']; exact b9 i r hr, b10⟩, a5.fr (fun v hv => ?_) ⟨by rw [r4, t2]; exact Nat.le_refl _, by rw [r6, c2]; exact Nat.le_refl _⟩ r4' r6', (f59 14 (by decide)).1.trans a6, (f59 15 (by decide)).1.trans a7⟩
  have hl := ty.lt (h := v) (by rw [hv]; decide)
  have nv : ∀ x, ¬ (v, x) ∈ fs := fun x z => k11 ty hv (hf _ z).1 rfl
  exact ⟨by rw [ex.2.1 v hl]; exact hv, funext fun x => (h1 v x (by rw [hv]; decide) (fun z => by cases z) (nv x)).1, funext fun x => (h1 v x (by rw [hv]; decide) (fun z => by cases z) (nv x)).2.1⟩
