/-! What comes of several sets, by the class and by the reference. -/
theorem SN_nd {ms : List (List Int32)} (h : SN ms) : ms.Nodup := List.Pairwise.imp (fun {a b} (z : cmpW a b < 0) e => by rw [e, cmpW_self] at z; exact absurd z (by decide)) h
theorem SN_ext {a b : List (List Int32)} (ha : SN a) (hb : SN b) (h : ∀ x, x ∈ a ↔ x ∈ b) : a = b :=
  List.Perm.eq_of_pairwise (fun x y _ _ (z1 : cmpW x y < 0) (z2 : cmpW y x < 0) => by rw [cmpW_anti x y] at z2; omega) ha hb ((List.perm_ext_iff_of_nodup (SN_nd ha) (SN_nd hb)).mpr h)
def B8 (v : List Int32) : Prop := ∀ x ∈ v, x.toInt8.toInt32 = x
theorem mem_adW {v y : List Int32} {ms : List (List Int32)} (hv : B8 v) (hm : ∀ x ∈ ms, B8 x) : y ∈ adW v ms ↔ y = v ∨ y ∈ ms := by
  unfold adW
  by_cases c : fdF v ms = true
  · rw [if_pos c]
    refine ⟨Or.inr, fun z => z.elim (fun e => ?_) id⟩
    unfold fdF at c
    cases h : ms[plF ms v]? with
    | none => rw [h] at c; exact absurd c Bool.false_ne_true
    | some q =>
      rw [h] at c
      have hq := List.mem_of_getElem? h
      rw [e, ← cmpW_eq q v (hm q hq) hv (of_decide_eq_true c)]; exact hq
  · rw [if_neg c]; unfold insL
    rw [List.mem_append, List.mem_cons]
    have e : y ∈ ms ↔ y ∈ ms.take (plF ms v) ∨ y ∈ ms.drop (plF ms v) := by rw [← List.mem_append, List.take_append_drop]
    rw [e]
    constructor
    · rintro (h | h | h)
      · exact Or.inr (Or.inl h)
      · exact Or.inl h
      · exact Or.inr (Or.inr h)
    · rintro (h | h | h)
      · exact Or.inr (Or.inl h)
      · exact Or.inl h
      · exact Or.inr (Or.inr h)
def nmE (y : List Int32) (es : List AE) : Prop := ∃ z ∈ es, z.1 = y
theorem mem_adL {y : List Int32} : ∀ (es : List AE) (ms : List (List Int32)), (∀ z ∈ es, B8 z.1) → (∀ x ∈ ms, B8 x) → (y ∈ adL ms es ↔ y ∈ ms ∨ nmE y es) := by
  intro es
  induction es with
  | nil => intro ms _ _; exact ⟨Or.inl, fun z => z.elim id (fun ⟨z, h, _⟩ => by cases h)⟩
  | cons z r ih =>
    intro ms h1 h2
    have hz := h1 z List.mem_cons_self
    show y ∈ adL (adW z.1 ms) r ↔ _
    rw [ih (adW z.1 ms) (fun x hx => h1 x (List.mem_cons_of_mem _ hx)) (fun x hx => ((mem_adW hz h2).mp hx).elim (fun e => by rw [e]; exact hz) (h2 x)), mem_adW hz h2]
    constructor
    · rintro ((h | h) | ⟨t, h, e⟩)
      · exact Or.inr ⟨z, List.mem_cons_self, h.symm⟩
      · exact Or.inl h
      · exact Or.inr ⟨t, List.mem_cons_of_mem _ h, e⟩
    · rintro (h | ⟨t, h, e⟩)
      · exact Or.inl (Or.inr h)
      · rcases List.mem_cons.mp h with q | q
        · exact Or.inl (Or.inl (by rw [← e, q]))
        · exact Or.inr ⟨t, q, e⟩
theorem mem_amE {v y : List Int32} {ms : List (List Int32)} : y ∈ amE v ms ↔ y = v ∨ y ∈ ms := by
  unfold amE
  rw [List.mem_append, List.mem_cons]
  generalize ms.length - amR v ms.reverse = p
  have e : y ∈ ms ↔ y ∈ ms.take p ∨ y ∈ ms.drop p := by rw [← List.mem_append, List.take_append_drop]
  rw [e]
  constructor
  · rintro (h | h | h)
    · exact Or.inr (Or.inl h)
    · exact Or.inl h
    · exact Or.inr (Or.inr h)
  · rintro (h | h | h)
    · exact Or.inr (Or.inl h)
    · exact Or.inl h
    · exact Or.inr (Or.inr h)
theorem mem_rcF (T : AE → Bool) {y : List Int32} : ∀ (es : List AE) (ms : List (List Int32)), y ∈ rcF T ms es ↔ y ∈ ms ∨ ∃ z ∈ es, T z = true ∧ z.1 = y := by
  intro es
  induction es with
  | nil => intro ms; exact ⟨Or.inl, fun z => z.elim id (fun ⟨z, h, _⟩ => by cases h)⟩
  | cons z r ih =>
    intro ms
    show y ∈ rcF T (if T z = true then amE z.1 ms else ms) r ↔ _
    rw [ih]
    have e : y ∈ (if T z = true then amE z.1 ms else ms) ↔ y ∈ ms ∨ (T z = true ∧ z.1 = y) := by
      by_cases c : T z = true
      · rw [if_pos c, mem_amE]
        exact ⟨fun h => h.elim (fun q => Or.inr ⟨c, q.symm⟩) Or.inl, fun h => h.elim Or.inr (fun q => Or.inl q.2.symm)⟩
      · rw [if_neg c]; exact ⟨Or.inl, fun h => h.elim id (fun q => absurd q.1 c)⟩
    rw [e]
    constructor
    · rintro ((h | h) | ⟨t, h, q⟩)
      · exact Or.inl h
      · exact Or.inr ⟨z, List.mem_cons_self, h⟩
      · exact Or.inr ⟨t, List.mem_cons_of_mem _ h, q⟩
    · rintro (h | ⟨t, h, q⟩)
      · exact Or.inl (Or.inl h)
      · rcases List.mem_cons.mp h with p | p
        · rw [p] at q; exact Or.inl (Or.inr q)
        · exact Or.inr ⟨t, p, q⟩
theorem skT_in {v : List Int32} {es : List AE} (hs : SP es) (hv : B8 v) (he : ∀ z ∈ es, B8 z.1) : skT v es = true ↔ nmE v es := by
  constructor
  · intro h
    obtain ⟨z, h1, h2, -⟩ := skT_at h
    have hm := List.mem_of_getElem? h1
    exact ⟨z, hm, cmpW_eq _ _ (he z hm) hv h2⟩
  · rintro ⟨z, hz, e⟩
    obtain ⟨i, hi, g⟩ := List.mem_iff_getElem.mp hz
    have hp : skI v es = i := by
      rcases Nat.lt_trichotomy (skI v es) i with h | h | h
      · exfalso
        have h1 := List.getElem?_eq_getElem (show skI v es < es.length by omega)
        have h2 := skI_ge v es hs _ _ (Nat.le_refl _) h1
        have h3 := List.pairwise_iff_getElem.mp hs _ _ (by omega) hi h
        rw [g, e] at h3; exact h2 h3
      · exact h
      · exfalso
        have := skI_lt v es i _ h (List.getElem?_eq_getElem hi)
        rw [g, e, cmpW_self] at this; exact absurd this (by decide)
    unfold skT
    rw [hp, List.getElem?_eq_getElem hi, g]
    exact decide_eq_true (by rw [e]; exact cmpW_self v)
theorem mbT_es (A : List AK) (w v : List Int32) : mbT A w v = skT v (esA A w) := by
  unfold mbT esA
  cases kyI A w with
  | none => rfl
  | some p =>
    show (match A[p]? with | some a => _ | none => _) = skT v (match A[p]? with | some a => _ | none => _)
    cases A[p]? with
    | none => rfl
    | some a => rfl
theorem alT_iff {A : List AK} {v : List Int32} : ∀ l : List (List Int32), alT A v l = true ↔ ∀ w ∈ l, mbT A w v = true := by
  intro l
  induction l with
  | nil => exact ⟨fun _ w h => (by cases h), fun _ => rfl⟩
  | cons w r ih =>
    show (mbT A w v && alT A v r) = true ↔ _
    rw [Bool.and_eq_true, ih]
    exact ⟨fun h x hx => (List.mem_cons.mp hx).elim (fun e => by rw [e]; exact h.1) (h.2 x), fun h => ⟨h w List.mem_cons_self, fun x hx => h x (List.mem_cons_of_mem _ hx)⟩⟩
theorem anT_iff {A : List AK} {v : List Int32} : ∀ l : List (List Int32), anT A v l = true ↔ ∃ w ∈ l, mbT A w v = true := by
  intro l
  induction l with
  | nil => exact ⟨fun h => absurd h Bool.false_ne_true, fun ⟨w, h, _⟩ => by cases h⟩
  | cons w r ih =>
    show (mbT A w v || anT A v r) = true ↔ _
    rw [Bool.or_eq_true, ih]
    constructor
    · rintro (h | ⟨x, h, q⟩)
      · exact ⟨w, List.mem_cons_self, h⟩
      · exact ⟨x, List.mem_cons_of_mem _ h, q⟩
    · rintro ⟨x, h, q⟩
      rcases List.mem_cons.mp h with p | p
      · rw [p] at q; exact Or.inl q
      · exact Or.inr ⟨x, p, q⟩
/-- the sets that are named are well made -/
def SOK (A : List AK) (l : List (List Int32)) : Prop := ∀ w ∈ l, SP (esA A w) ∧ ∀ z ∈ esA A w, B8 z.1
theorem mem_poL1 {A : List AK} {y : List Int32} : ∀ (r ms : List (List Int32)), SOK A r → (∀ x ∈ ms, B8 x) → (y ∈ poL 1 A ms r ↔ y ∈ ms ∨ ∃ w ∈ r, nmE y (esA A w)) := by
  intro r
  induction r with
  | nil => intro ms _ _; exact ⟨Or.inl, fun z => z.elim id (fun ⟨w, h, _⟩ => by cases h)⟩
  | cons w r ih =>
    intro ms hs hm
    have hw := hs w List.mem_cons_self
    have e : poS 1 ms (esA A w) = adL ms (esA A w) := if_pos rfl
    show y ∈ poL 1 A (poS 1 ms (esA A w)) r ↔ _
    have hm2 : ∀ x ∈ poS 1 ms (esA A w), B8 x := fun x hx => by
      rw [e, mem_adL _ _ hw.2 hm] at hx
      rcases hx with h | ⟨z, h, q⟩
      · exact hm x h
      · rw [← q]; exact hw.2 z h
    rw [ih _ (fun x hx => hs x (List.mem_cons_of_mem _ hx)) hm2, e, mem_adL _ _ hw.2 hm]
    constructor
    · rintro ((h | h) | ⟨x, h, q⟩)
      · exact Or.inl h
      · exact Or.inr ⟨w, List.mem_cons_self, h⟩
      · exact Or.inr ⟨x, List.mem_cons_of_mem _ h, q⟩
    · rintro (h | ⟨x, h, q⟩)
      · exact Or.inl (Or.inl h)
      · rcases List.mem_cons.mp h with p | p
        · rw [p] at q; exact Or.inl (Or.inr q)
        · exact Or.inr ⟨x, p, q⟩
theorem mem_poL0 {A : List AK} {how : Nat} (h1 : ¬ how = 1) {y : List Int32} : ∀ (r ms : List (List Int32)), (y ∈ poL how A ms r ↔ y ∈ ms ∧ ∀ w ∈ r, mbT A w y = decide (how = 0)) := by
  intro r
  induction r with
  | nil => intro ms; exact ⟨fun h => ⟨h, fun w h => (by cases h)⟩, fun h => h.1⟩
  | cons w r ih =>
    intro ms
    have e : poS how ms (esA A w) = ms.filter (sfT (esA A w) (decide (how = 0))) := if_neg h1
    show y ∈ poL how A (poS how ms (esA A w)) r ↔ _
    rw [ih, e, List.mem_filter]
    have e2 : sfT (esA A w) (decide (how = 0)) y = true ↔ mbT A w y = decide (how = 0) := by unfold sfT; rw [mbT_es, beq_iff_eq]
    rw [e2]
    exact ⟨fun h => ⟨h.1.1, fun x hx => (List.mem_cons.mp hx).elim (fun q => by rw [q]; exact h.1.2) (h.2 x)⟩, fun h => ⟨⟨h.1, h.2 w List.mem_cons_self⟩, fun x hx => h.2 x (List.mem_cons_of_mem _ hx)⟩⟩
theorem poL_SN {A : List AK} {how : Nat} : ∀ (r ms : List (List Int32)), SN ms → SN (poL how A ms r) := by
  intro r
  induction r with
  | nil => intro ms h; exact h
  | cons w r ih => intro ms h; exact ih _ (poS_SN h _)
theorem mem_rkL1 {A : List AK} {ws : List (List Int32)} {f : Nat} (hs : SOK A (ws.drop f)) {y : List Int32} : ∀ (m a : Nat) (ms : List (List Int32)), f ≤ a → a + m = ws.length → (∀ x, x ∈ ms ↔ ∃ w ∈ (ws.drop f).take (a - f), nmE x (esA A w)) → (y ∈ rkL 1 A ws f m a ms ↔ ∃ w ∈ ws.drop f, nmE y (esA A w)) := by
  intro m
  induction m with
  | zero =>
    intro a ms h1 h2 h3
    show y ∈ ms ↔ _
    rw [h3, List.take_of_length_le (by rw [List.length_drop]; omega)]
  | succ m ih =>
    intro a ms h1 h2 h3
    have hal : a < ws.length := by omega
    have hg : (ws.drop f)[a - f]? = some ws[a] := by rw [List.getElem?_drop, show f + (a - f) = a by omega, List.getElem?_eq_getElem hal]
    have hgd : ws.getD a [] = ws[a] := by rw [List.getD_eq_getElem?_getD, List.getElem?_eq_getElem hal]; rfl
    have ht : (ws.drop f).take (a + 1 - f) = (ws.drop f).take (a - f) ++ [ws[a]] := by
      rw [show a + 1 - f = (a - f) + 1 by omega, List.take_add_one, hg]; rfl
    have hw := hs ws[a] (List.mem_of_getElem? hg)
    show y ∈ rkL 1 A ws f m (a + 1) (rcF (rkT 1 A ws f a) ms (esA A (ws.getD a []))) ↔ _
    rw [hgd]
    refine ih (a + 1) _ (by omega) (by omega) (fun x => ?_)
    rw [mem_rcF, ht, h3]
    have hT : ∀ z, rkT 1 A ws f a z = !anT A z.1 ((ws.drop f).take (a - f)) := fun z => rfl
    constructor
    · rintro (⟨w, h, q⟩ | ⟨z, h, -, q⟩)
      · exact ⟨w, List.mem_append_left _ h, q⟩
      · exact ⟨ws[a], List.mem_append_right _ List.mem_cons_self, z, h, q⟩
    · rintro ⟨w, h, q⟩
      rcases List.mem_append.mp h with p | p
      · exact Or.inl ⟨w, p, q⟩
      · rw [List.mem_singleton.mp p] at q
        obtain ⟨z, hz, ez⟩ := q
        by_cases c : rkT 1 A ws f a z = true
        · exact Or.inr ⟨z, hz, c, ez⟩
        · left
          rw [hT] at c
          have c : anT A z.1 ((ws.drop f).take (a - f)) = true := by
            cases h9 : anT A z.1 ((ws.drop f).take (a - f)) with
            | true => rfl
            | false => rw [h9] at c; exact absurd rfl c
          obtain ⟨w, hw1, hw2⟩ := (anT_iff _).mp c
          have hw3 := hs w (List.mem_of_mem_take hw1)
          rw [mbT_es, skT_in hw3.1 (hw.2 z hz) hw3.2] at hw2
          rw [ez] at hw2
          exact ⟨w, hw1, hw2⟩
/-- both say the same -/
theorem po_rk {A : List AK} {how : Nat} (hh : how < 3) {ws : List (List Int32)} {f : Nat} (hf : f + 1 ≤ ws.length) (hs : SOK A (ws.drop f)) (hk : SN (rkM how A ws f)) : poM how A ws f = rkM how A ws f := by
  have hfl : f < ws.length := by omega
  have hgd : ws.getD f [] = ws[f] := by rw [List.getD_eq_getElem?_getD, List.getElem?_eq_getElem hfl]; rfl
  have hd : ws.drop f = ws[f] :: ws.drop (f + 1) := List.drop_eq_getElem_cons hfl
  have hw := hs ws[f] (by rw [hd]; exact List.mem_cons_self)
  have hs2 : SOK A (ws.drop (f + 1)) := fun w h => hs w (by rw [hd]; exact List.mem_cons_of_mem _ h)
  have hn : ∀ x ∈ ([] : List (List Int32)), B8 x := fun x h => by cases h
  have hm : ∀ x, x ∈ adL [] (esA A ws[f]) ↔ nmE x (esA A ws[f]) := fun x => by
    rw [mem_adL _ _ hw.2 hn]; exact ⟨fun h => h.elim (fun z => by cases z) id, Or.inr⟩
  refine SN_ext (poL_SN _ _ (adL_SN _ _ List.Pairwise.nil)) hk (fun y => ?_)
  unfold poM
  rw [hgd]
  by_cases c : how = 1
  · subst c
    have hb : ∀ x ∈ adL [] (esA A ws[f]), B8 x := fun x hx => by
      obtain ⟨z, h, q⟩ := (hm x).mp hx
      rw [← q]; exact hw.2 z h
    rw [mem_poL1 _ _ hs2 hb, hm]
    unfold rkM
    rw [if_pos rfl, mem_rkL1 hs (ws.length - f) f [] (Nat.le_refl _) (by omega) (fun x => ⟨fun h => (by cases h), fun ⟨w, h, _⟩ => by rw [Nat.sub_self, List.take_zero] at h; cases h⟩), hd]
    constructor
    · rintro (h | ⟨w, h, q⟩)
      · exact ⟨_, List.mem_cons_self, h⟩
      · exact ⟨w, List.mem_cons_of_mem _ h, q⟩
    · rintro ⟨w, h, q⟩
      rcases List.mem_cons.mp h with p | p
      · rw [p] at q; exact Or.inl q
      · exact Or.inr ⟨w, p, q⟩
  · rw [mem_poL0 c, hm]
    unfold rkM
    rw [if_neg c]
    show _ ↔ y ∈ rcF (rkT how A ws f f) [] (esA A (ws.getD f []))
    rw [hgd, mem_rcF]
    have hT : ∀ z : AE, rkT how A ws f f z = true ↔ ∀ w ∈ ws.drop (f + 1), mbT A w z.1 = decide (how = 0) := by
      intro z
      unfold rkT
      by_cases c0 : how = 0
      · rw [if_pos c0, alT_iff, decide_eq_true c0]
      · rw [if_neg c0, if_neg c, List.take_of_length_le (by rw [List.length_drop]; exact Nat.le_refl _), decide_eq_false c0]
        have e : (!anT A z.1 (ws.drop (f + 1))) = true ↔ ¬ anT A z.1 (ws.drop (f + 1)) = true := by cases anT A z.1 (ws.drop (f + 1)) <;> decide
        rw [e, anT_iff]
        exact ⟨fun h w hw => Bool.eq_false_iff.mpr (fun q => h ⟨w, hw, q⟩), fun h ⟨w, hw, q⟩ => by rw [h w hw] at q; exact absurd q Bool.false_ne_true⟩
    constructor
    · rintro ⟨⟨z, h, q⟩, h2⟩
      exact Or.inr ⟨z, h, (hT z).mpr (by rw [q]; exact h2), q⟩
    · rintro (h | ⟨z, h, h2, q⟩)
      · cases h
      · exact ⟨⟨z, h, q⟩, by rw [← q]; exact (hT z).mp h2⟩
