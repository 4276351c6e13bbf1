/-! The measures of a list of keys, and what every change keeps. -/
section PURE
def kM (a : AK) : Nat := 64 + a.1.length + a.2.2.2.2.1.length + memW a.2.1 * a.2.2.2.2.2.length + eT a.2.2.2.2.2
def memB : List AK → Nat
  | [] => 0
  | a :: r => kM a + memB r
theorem memE_B (w : Nat) : ∀ es : List ER, memE w es = w * es.length + eT (es.map (fun y => y.2)) := by
  intro es
  induction es with
  | nil => rfl
  | cons y r ih =>
    show w + y.2.1.length + y.2.2.1.length + memE w r = w * (r.length + 1) + (y.2.1.length + y.2.2.1.length + eT (r.map (fun y => y.2)))
    rw [ih, Nat.mul_succ]; omega
theorem memA_B (ks : List KR) : memA ks = memB (strip ks) := by
  induction ks with
  | nil => rfl
  | cons x r ih =>
    show 64 + x.2.1.length + x.2.2.2.2.2.1.length + memE (memW x.2.2.1) x.2.2.2.2.2.2 + memA r = kM (st1 x) + memB (strip r)
    rw [ih, memE_B]
    show _ = 64 + x.2.1.length + x.2.2.2.2.2.1.length + memW x.2.2.1 * (x.2.2.2.2.2.2.map (fun y => y.2)).length + eT (x.2.2.2.2.2.2.map (fun y => y.2)) + _
    rw [List.length_map]; omega
theorem memB_app (a b : List AK) : memB (a ++ b) = memB a + memB b := by
  induction a with
  | nil => show memB b = 0 + memB b; omega
  | cons x r ih => show kM x + memB (r ++ b) = kM x + memB r + memB b; omega
theorem memW_ge (s : Int32) : 16 ≤ memW s ∧ memW s ≤ 48 := by
  unfold memW; split
  · omega
  · split
    · omega
    · split <;> omega
theorem kM_ge (a : AK) : 64 + 16 * eN [a] + tT [a] ≤ kM a := by
  show 64 + 16 * a.2.2.2.2.2.length + (a.1.length + a.2.2.2.2.1.length + eT a.2.2.2.2.2) ≤ 64 + a.1.length + a.2.2.2.2.1.length + memW a.2.1 * a.2.2.2.2.2.length + eT a.2.2.2.2.2
  have := Nat.mul_le_mul_right a.2.2.2.2.2.length (memW_ge a.2.1).1
  omega
theorem memB_ge (A : List AK) : 64 * A.length + 16 * eN A + tT A ≤ memB A := by
  induction A with
  | nil => exact Nat.le_refl _
  | cons a r ih =>
    have h := kM_ge a
    have e1 : eN (a :: r) = eN [a] + eN r := by rw [← eN_app]; rfl
    have e2 : tT (a :: r) = tT [a] + tT r := by rw [← tT_app]; rfl
    rw [e1, e2]
    show 64 * (r.length + 1) + _ + _ ≤ kM a + memB r
    omega
theorem get_split {α : Type} {A : List α} {p : Nat} {a : α} (h : A[p]? = some a) : ∃ P Q, A = P ++ a :: Q ∧ P.length = p := by
  obtain ⟨hp, he⟩ := List.getElem?_eq_some_iff.mp h
  refine ⟨A.take p, A.drop (p + 1), ?_, by rw [List.length_take]; omega⟩
  rw [← he, ← List.drop_eq_getElem_cons hp, List.take_append_drop]
/-- the names' bytes -/
def nB : List AK → Nat
  | [] => 0
  | a :: r => a.1.length + nB r
theorem nB_app (a b : List AK) : nB (a ++ b) = nB a + nB b := by
  induction a with
  | nil => show nB b = 0 + nB b; omega
  | cons x r ih => show x.1.length + nB (r ++ b) = x.1.length + nB r + nB b; omega
/-- no order of scores has more bytes -/
def OZ (X : Nat) (A : List AK) : Prop := ∀ a ∈ A, a.2.1 = 4 → eT a.2.2.2.2.2 ≤ X
/-- measures behind a change -/
def MS (A A' : List AK) (c x1 x2 x3 n : Nat) : Prop := (A'.length ≤ A.length + c ∧ tT A' ≤ tT A + x1 ∧ eN A' ≤ eN A + x2 ∧ memB A' ≤ memB A + x3 ∧ nB A' ≤ nB A + n) ∧ ∀ X, OZ X A → OZ (X + x1) A'
theorem MS.rf {A : List AK} : MS A A 0 0 0 0 0 := ⟨⟨Nat.le_refl _, Nat.le_refl _, Nat.le_refl _, Nat.le_refl _, Nat.le_refl _⟩, fun _ h => h⟩
theorem OZ.up {A : List AK} {X Z : Nat} (h : OZ X A) (hx : X ≤ Z) : OZ Z A := fun a ha h4 => Nat.le_trans (h a ha h4) hx
theorem MS.up {A A' : List AK} {c x1 x2 x3 n d y1 y2 y3 m : Nat} (h : MS A A' c x1 x2 x3 n) (h0 : c ≤ d) (h1 : x1 ≤ y1) (h2 : x2 ≤ y2) (h3 : x3 ≤ y3) (h4 : n ≤ m := by omega) : MS A A' d y1 y2 y3 m := by
  refine ⟨?_, fun X hX => (h.2 X hX).up (by omega)⟩
  have := h.1; omega
theorem MS.tr {A B C : List AK} {c x1 x2 x3 n d y1 y2 y3 m : Nat} (h : MS A B c x1 x2 x3 n) (g : MS B C d y1 y2 y3 m) : MS A C (c + d) (x1 + y1) (x2 + y2) (x3 + y3) (n + m) := by
  refine ⟨?_, fun X hX => (g.2 _ (h.2 X hX)).up (by omega)⟩
  have := h.1; have := g.1; omega
theorem MS_at {P Q : List AK} {a b : AK} {x1 x2 x3 : Nat} (h1 : tT [b] ≤ tT [a] + x1) (h2 : eN [b] ≤ eN [a] + x2) (h3 : kM b ≤ kM a + x3) (hn : b.1 = a.1) (hz : b.2.1 = 4 → a.2.1 = 4 ∧ eT b.2.2.2.2.2 ≤ eT a.2.2.2.2.2 + x1) : MS (P ++ a :: Q) (P ++ b :: Q) 0 x1 x2 x3 0 := by
  have e : ∀ z : AK, P ++ z :: Q = P ++ ([z] ++ Q) := fun _ => rfl
  have m : ∀ z : AK, memB [z] = kM z := fun z => rfl
  have n : nB [b] = nB [a] := by show b.1.length + 0 = a.1.length + 0; rw [hn]
  refine ⟨?_, fun X hX z hz1 hz2 => ?_⟩
  · rw [e a, e b]
    rw [tT_app, tT_app, tT_app, tT_app, eN_app, eN_app, eN_app, eN_app, memB_app, memB_app, memB_app, memB_app, m, m, nB_app, nB_app, nB_app, nB_app, n]
    simp only [List.length_append, List.length_cons, List.length_nil]
    omega
  · rcases List.mem_append.mp hz1 with y | y
    · have := hX z (List.mem_append_left _ y) hz2; omega
    · rcases List.mem_cons.mp y with rfl | y
      · obtain ⟨k1, k2⟩ := hz hz2
        have := hX a (List.mem_append_right _ List.mem_cons_self) k1; omega
      · have := hX z (List.mem_append_right _ (List.mem_cons_of_mem _ y)) hz2; omega
theorem MS_rm {P Q : List AK} {a : AK} : MS (P ++ a :: Q) (P ++ Q) 0 0 0 0 0 := by
  have e : P ++ a :: Q = P ++ ([a] ++ Q) := rfl
  refine ⟨?_, fun X hX z hz1 hz2 => hX z ?_ hz2⟩
  · rw [e]
    rw [tT_app, tT_app, tT_app, eN_app, eN_app, eN_app, memB_app, memB_app, memB_app, nB_app, nB_app, nB_app]
    simp only [List.length_append, List.length_cons, List.length_nil]
    omega
  · rcases List.mem_append.mp hz1 with y | y
    · exact List.mem_append_left _ y
    · exact List.mem_append_right _ (List.mem_cons_of_mem _ y)
theorem MS_in {P Q : List AK} {a : AK} : MS (P ++ Q) (P ++ a :: Q) 1 (tT [a]) (eN [a]) (kM a) a.1.length := by
  have e : P ++ a :: Q = P ++ ([a] ++ Q) := rfl
  have m : memB [a] = kM a := rfl
  have n : nB [a] = a.1.length + 0 := rfl
  refine ⟨?_, fun X hX z hz1 hz2 => ?_⟩
  · rw [e]
    rw [tT_app, tT_app, tT_app, eN_app, eN_app, eN_app, memB_app, memB_app, memB_app, m, nB_app, nB_app, nB_app, n]
    simp only [List.length_append, List.length_cons, List.length_nil]
    omega
  · rcases List.mem_append.mp hz1 with y | y
    · have := hX z (List.mem_append_left _ y) hz2; omega
    · rcases List.mem_cons.mp y with rfl | y
      · have : tT [z] = z.1.length + z.2.2.2.2.1.length + eT z.2.2.2.2.2 := rfl
        omega
      · have := hX z (List.mem_append_right _ y) hz2; omega
theorem IA_at {P Q : List AK} {a b : AK} (h : IA (P ++ a :: Q)) (hn : b.1 = a.1) (hb : AOK b) : IA (P ++ b :: Q) := by
  refine ⟨?_, fun x hx => ?_⟩
  · have e : anm (P ++ b :: Q) = anm (P ++ a :: Q) := by unfold anm; rw [List.map_append, List.map_append, List.map_cons, List.map_cons, hn]
    unfold SRT; rw [e]; exact h.1
  · rcases List.mem_append.mp hx with hx | hx
    · exact h.2 x (List.mem_append_left _ hx)
    · rcases List.mem_cons.mp hx with rfl | hx
      · exact hb
      · exact h.2 x (List.mem_append_right _ (List.mem_cons_of_mem _ hx))
theorem IA_rm {P Q : List AK} {a : AK} (h : IA (P ++ a :: Q)) : IA (P ++ Q) := by
  refine ⟨?_, fun x hx => h.2 x ?_⟩
  · have := SRT_rm (p := P.length) h.1; rw [rmA_at] at this; exact this
  · rcases List.mem_append.mp hx with hx | hx
    · exact List.mem_append_left _ hx
    · exact List.mem_append_right _ (List.mem_cons_of_mem _ hx)
theorem kyI_get {A : List AK} {w : List Int32} {p : Nat} (h : kyI A w = some p) : ∃ a, A[p]? = some a ∧ cmpW a.1 w = 0 := by
  unfold kyI at h
  cases e : A[plF (anm A) w]? with
  | none => rw [e] at h; cases h
  | some a =>
    rw [e] at h
    have h : (if cmpW a.1 w = 0 then some (plF (anm A) w) else none) = some p := h
    by_cases c : cmpW a.1 w = 0
    · rw [if_pos c] at h; cases h; exact ⟨a, e, c⟩
    · rw [if_neg c] at h; cases h
theorem ozA {a b : AK} {x1 : Nat} (ok : AOK a) (hn : b.1 = a.1) (h : tT [b] ≤ tT [a] + x1) (h4 : b.2.1 = 4 → a.2.1 = 4) : b.2.1 = 4 → a.2.1 = 4 ∧ eT b.2.2.2.2.2 ≤ eT a.2.2.2.2.2 + x1 := fun z => by
  have a4 := h4 z
  refine ⟨a4, ?_⟩
  have ht := (ok.2.2.2.1 (by rw [a4]; decide)).2
  have e1 : tT [b] = b.1.length + b.2.2.2.2.1.length + eT b.2.2.2.2.2 := rfl
  have e2 : tT [a] = a.1.length + a.2.2.2.2.1.length + eT a.2.2.2.2.2 := rfl
  rw [e1, e2, hn, ht] at h
  simp only [List.length_nil] at h
  omega
/-- the key of a name, or the new one -/
def kA (A : List AK) (w : List Int32) (s : Int32) (a : AK) : Prop := (kyI A w = none ∧ a = (w, s, 0, 0, [], [])) ∨ ∃ p, kyI A w = some p ∧ A[p]? = some a
theorem mkU {A : List AK} {w : List Int32} {s : Int32} {f : AK → AK} {x1 x2 x3 : Nat} (hA : IA A) (hn : ∀ a, (f a).1 = a.1) (hf : ∀ a, kA A w s a → AOK (f a) ∧ tT [f a] ≤ tT [a] + x1 ∧ eN [f a] ≤ eN [a] + x2 ∧ kM (f a) ≤ kM a + x3) (h4 : ∀ a, (f a).2.1 = 4 → a.2.1 = 4 := by exact fun _ h => h) : IA (upA (orA A w s).1 (orA A w s).2 f) ∧ MS A (upA (orA A w s).1 (orA A w s).2 f) 1 (w.length + x1) x2 (64 + w.length + x3) w.length := by
  have hS := kyI_or hA.1 w s
  cases h : kyI A w with
  | some p =>
    obtain ⟨a, ha, hc⟩ := kyI_get h
    obtain ⟨P, Q, rfl, rfl⟩ := get_split ha
    obtain ⟨g1, g2, g3, g4⟩ := hf a (Or.inr ⟨_, h, ha⟩)
    rw [orA_some h]
    show IA (upA (P ++ a :: Q) P.length f) ∧ MS (P ++ a :: Q) (upA (P ++ a :: Q) P.length f) 1 _ _ _ _
    rw [upA_at]
    exact ⟨IA_at hA (hn a) g1, (MS_at g2 g3 g4 (hn a) (ozA (hA.2 a (List.mem_append_right _ List.mem_cons_self)) (hn a) g2 (h4 a))).up (by omega) (by omega) (by omega) (by omega) (by omega)⟩
  | none =>
    obtain ⟨g1, g2, g3, g4⟩ := hf _ (Or.inl ⟨h, rfl⟩)
    have hp := plF_le (anm A) w
    rw [anm_len] at hp
    rw [orA_none h] at hS ⊢
    obtain ⟨P, hP⟩ : ∃ P, P = A.take (plF (anm A) w) := ⟨_, rfl⟩
    obtain ⟨Q, hQ⟩ : ∃ Q, Q = A.drop (plF (anm A) w) := ⟨_, rfl⟩
    have hl : P.length = plF (anm A) w := by rw [hP, List.length_take]; omega
    have eA : A = P ++ Q := by rw [hP, hQ, List.take_append_drop]
    have eI : inA A (plF (anm A) w) (w, s, 0, 0, [], []) = P ++ (w, s, 0, 0, [], []) :: Q := by unfold inA; rw [← hP, ← hQ]
    show IA (upA (inA A (plF (anm A) w) (w, s, 0, 0, [], [])) (plF (anm A) w) f) ∧ MS A (upA (inA A (plF (anm A) w) (w, s, 0, 0, [], [])) (plF (anm A) w) f) 1 _ _ _ _
    rw [eI, ← hl, upA_at]
    have hS1 : SRT (P ++ (w, s, 0, 0, [], []) :: Q) := by rw [← eI]; exact hS.1
    refine ⟨⟨?_, fun x hx => ?_⟩, ?_⟩
    · have e : anm (P ++ f (w, s, 0, 0, [], []) :: Q) = anm (P ++ (w, s, 0, 0, [], []) :: Q) := by unfold anm; rw [List.map_append, List.map_append, List.map_cons, List.map_cons, hn]
      unfold SRT; rw [e]; exact hS1
    · rcases List.mem_append.mp hx with hx | hx
      · exact hA.2 x (by rw [eA]; exact List.mem_append_left _ hx)
      · rcases List.mem_cons.mp hx with rfl | hx
        · exact g1
        · exact hA.2 x (by rw [eA]; exact List.mem_append_right _ hx)
    · have m := MS_in (P := P) (Q := Q) (a := f (w, s, 0, 0, [], []))
      rw [← eA] at m
      refine m.up (Nat.le_refl _) ?_ ?_ ?_ (by rw [hn]; exact Nat.le_refl _)
      · have : tT [((w, s, 0, 0, [], []) : AK)] = w.length + 0 + 0 + 0 := rfl
        omega
      · have : eN [((w, s, 0, 0, [], []) : AK)] = 0 := rfl
        omega
      · have : kM ((w, s, 0, 0, [], []) : AK) = 64 + w.length := by show 64 + w.length + 0 + memW s * 0 + 0 = _; omega
        omega
theorem upU {A : List AK} {p : Nat} {a : AK} {f : AK → AK} {x1 x2 x3 : Nat} (hA : IA A) (ha : A[p]? = some a) (hn : (f a).1 = a.1) (hf : AOK (f a) ∧ tT [f a] ≤ tT [a] + x1 ∧ eN [f a] ≤ eN [a] + x2 ∧ kM (f a) ≤ kM a + x3) (h4 : (f a).2.1 = 4 → a.2.1 = 4 := by exact fun h => h) : IA (upA A p f) ∧ MS A (upA A p f) 0 x1 x2 x3 0 := by
  obtain ⟨P, Q, rfl, rfl⟩ := get_split ha
  rw [upA_at]
  exact ⟨IA_at hA hn hf.1, MS_at hf.2.1 hf.2.2.1 hf.2.2.2 hn (ozA (hA.2 a (List.mem_append_right _ List.mem_cons_self)) hn hf.2.1 h4)⟩
theorem rmU {A : List AK} {p : Nat} (hA : IA A) : IA (rmA A p) ∧ MS A (rmA A p) 0 0 0 0 0 := by
  cases h : A[p]? with
  | some a =>
    obtain ⟨P, Q, rfl, rfl⟩ := get_split h
    rw [rmA_at]; exact ⟨IA_rm hA, MS_rm⟩
  | none =>
    have e : ∀ (A : List AK) (p : Nat), A[p]? = none → rmA A p = A := by
      intro A
      induction A with
      | nil => intro p _; rfl
      | cons a r ih =>
        intro p h
        cases p with
        | zero => cases h
        | succ p => show a :: rmA r p = a :: r; rw [ih p h]
    rw [e A p h]; exact ⟨hA, MS.rf⟩
theorem eT_sub {a b : List AE} (h : a.Sublist b) : eT a ≤ eT b ∧ a.length ≤ b.length := by
  refine ⟨?_, h.length_le⟩
  induction h with
  | slnil => exact Nat.le_refl _
  | cons z _ ih => exact Nat.le_trans ih (Nat.le_add_left _ _)
  | cons_cons z _ ih => exact Nat.add_le_add_left ih _
theorem ELS.sub {s : Int32} {a b : List AE} (h : ELS s b) (hs : a.Sublist b) : ELS s a := by
  obtain ⟨h1, h2, h3, h4, h5, h6⟩ := h
  refine ⟨fun z hz => h1 z (hs.subset hz), fun e => ?_, fun e z hz => h3 e z (hs.subset hz), fun e => ⟨(h4 e).1.sublist hs, fun z hz => (h4 e).2 z (hs.subset hz)⟩, fun e => ⟨(h5 e).1.sublist hs, fun z hz => (h5 e).2 z (hs.subset hz)⟩, fun e => ⟨(h6 e).1.sublist hs, fun z hz => (h6 e).2 z (hs.subset hz)⟩⟩
  have := h2 e
  subst this
  exact List.sublist_nil.mp hs
theorem kM_es {a : AK} {g : List AE → List AE} {x1 x2 : Nat} (h1 : eT (g a.2.2.2.2.2) ≤ eT a.2.2.2.2.2 + x1) (h2 : (g a.2.2.2.2.2).length ≤ a.2.2.2.2.2.length + x2) : tT [esF g a] ≤ tT [a] + x1 ∧ eN [esF g a] ≤ eN [a] + x2 ∧ kM (esF g a) ≤ kM a + (x1 + memW a.2.1 * x2) := by
  refine ⟨?_, h2, ?_⟩
  · show a.1.length + a.2.2.2.2.1.length + eT (g a.2.2.2.2.2) ≤ a.1.length + a.2.2.2.2.1.length + eT a.2.2.2.2.2 + x1; omega
  · show 64 + a.1.length + a.2.2.2.2.1.length + memW a.2.1 * (g a.2.2.2.2.2).length + eT (g a.2.2.2.2.2) ≤ 64 + a.1.length + a.2.2.2.2.1.length + memW a.2.1 * a.2.2.2.2.2.length + eT a.2.2.2.2.2 + _
    have := Nat.mul_le_mul_left (memW a.2.1) h2
    rw [Nat.mul_add] at this; omega
theorem AOK_es {a : AK} {g : List AE → List AE} (h : AOK a) (he : ELS a.2.1 (g a.2.2.2.2.2)) (hn : g a.2.2.2.2.2 ≠ []) : AOK (esF g a) := by
  obtain ⟨h1, h2, h3, h4, h5, h6⟩ := h
  exact ⟨h1, h2, he, fun z => ⟨hn, (h4 z).2⟩, h5, h6⟩
/-- elements go, the key with the last of them -/
theorem stU {A : List AK} {p : Nat} {g : List AE → List AE} (hA : IA A) (hg : ∀ a, A[p]? = some a → (g a.2.2.2.2.2).Sublist a.2.2.2.2.2) : IA (stlA A p g) ∧ MS A (stlA A p g) 0 0 0 0 0 := by
  unfold stlA
  cases h : A[p]? with
  | none => exact ⟨hA, MS.rf⟩
  | some a =>
    show IA (if g a.2.2.2.2.2 = [] then rmA A p else upA A p (esF g)) ∧ MS A (if g a.2.2.2.2.2 = [] then rmA A p else upA A p (esF g)) 0 0 0 0 0
    by_cases c : g a.2.2.2.2.2 = []
    · rw [if_pos c]; exact rmU hA
    · rw [if_neg c]
      have hs := hg a h
      have ok := hA.2 a (List.mem_of_getElem? h)
      have k := kM_es (a := a) (g := g) (x1 := 0) (x2 := 0) (eT_sub hs).1 (eT_sub hs).2
      exact upU hA h rfl ⟨AOK_es ok (ok.2.2.1.sub hs) c, k⟩
end PURE
