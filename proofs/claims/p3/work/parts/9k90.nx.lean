/-! What a change leaves of texts, times and orders of scores. -/
section NX
/-- the bytes of texts -/
def txQ (a : AK) : Nat := if a.2.1 = 0 then a.2.2.2.2.1.length else 0
def txB : List AK → Nat
  | [] => 0
  | a :: r => txQ a + txB r
/-- keys with a time, and the bytes of their names -/
def tK (a : AK) : Nat := if a.2.2.1 = 0 then 0 else 1
def tS : List AK → Nat
  | [] => 0
  | a :: r => tK a + tS r
def uK (a : AK) : Nat := if a.2.2.1 = 0 then 0 else a.1.length
def uS : List AK → Nat
  | [] => 0
  | a :: r => uK a + uS r
/-- what names and elements (but those of sets) cost in fed bytes -/
def vK (a : AK) : Nat := a.1.length + (if a.2.1 = 3 then 0 else 2 * a.2.2.2.2.2.length)
def vS : List AK → Nat
  | [] => 0
  | a :: r => vK a + vS r
/-- the orders of scores have no more elements, all in all -/
def oK (a : AK) : Nat := if a.2.1 = 4 then a.2.2.2.2.2.length else 0
def oS : List AK → Nat
  | [] => 0
  | a :: r => oK a + oS r
def OC (X : Nat) (A : List AK) : Prop := oS A ≤ X
theorem oS_app (a b : List AK) : oS (a ++ b) = oS a + oS b := by
  induction a with
  | nil => show oS b = 0 + oS b; omega
  | cons x r ih => show oK x + oS (r ++ b) = oK x + oS r + oS b; omega
theorem oS_mid (P Q : List AK) (a : AK) : oS (P ++ a :: Q) = oS P + (oK a + oS Q) := oS_app P (a :: Q)
theorem txB_app (a b : List AK) : txB (a ++ b) = txB a + txB b := by
  induction a with
  | nil => show txB b = 0 + txB b; omega
  | cons x r ih => show txQ x + txB (r ++ b) = txQ x + txB r + txB b; omega
theorem tS_app (a b : List AK) : tS (a ++ b) = tS a + tS b := by
  induction a with
  | nil => show tS b = 0 + tS b; omega
  | cons x r ih => show tK x + tS (r ++ b) = tK x + tS r + tS b; omega
theorem uS_app (a b : List AK) : uS (a ++ b) = uS a + uS b := by
  induction a with
  | nil => show uS b = 0 + uS b; omega
  | cons x r ih => show uK x + uS (r ++ b) = uK x + uS r + uS b; omega
theorem txB_mid (P Q : List AK) (a : AK) : txB (P ++ a :: Q) = txB P + (txQ a + txB Q) := txB_app P (a :: Q)
theorem vS_app (a b : List AK) : vS (a ++ b) = vS a + vS b := by
  induction a with
  | nil => show vS b = 0 + vS b; omega
  | cons x r ih => show vK x + vS (r ++ b) = vK x + vS r + vS b; omega
theorem vS_mid (P Q : List AK) (a : AK) : vS (P ++ a :: Q) = vS P + (vK a + vS Q) := vS_app P (a :: Q)
theorem tS_mid (P Q : List AK) (a : AK) : tS (P ++ a :: Q) = tS P + (tK a + tS Q) := tS_app P (a :: Q)
theorem uS_mid (P Q : List AK) (a : AK) : uS (P ++ a :: Q) = uS P + (uK a + uS Q) := uS_app P (a :: Q)
theorem OC.up {A : List AK} {X Z : Nat} (h : OC X A) (hx : X ≤ Z) : OC Z A := Nat.le_trans h hx
theorem mid_mem {P Q : List AK} {a z : AK} (h : z ∈ P ++ Q) : z ∈ P ++ a :: Q := by
  rcases List.mem_append.mp h with y | y
  · exact List.mem_append_left _ y
  · exact List.mem_append_right _ (List.mem_cons_of_mem _ y)
theorem mid_or {P Q : List AK} {b z : AK} (h : z ∈ P ++ b :: Q) : z = b ∨ z ∈ P ++ Q := by
  rcases List.mem_append.mp h with y | y
  · exact Or.inr (List.mem_append_left _ y)
  · rcases List.mem_cons.mp y with y | y
    · exact Or.inl y
    · exact Or.inr (List.mem_append_right _ y)
/-- texts do not grow, times do not come, orders grow by so many -/
def MSN (A A' : List AK) (_c _x1 x2 x3 n : Nat) : Prop := txB A' ≤ txB A ∧ (tS A' ≤ tS A ∧ uS A' ≤ uS A + n) ∧ (∀ X, OC X A → OC (X + x2) A') ∧ memB A' ≤ memB A + x3 ∧ vS A' ≤ vS A + n + 2 * x2
theorem MSN.rf {A : List AK} : MSN A A 0 0 0 0 0 := ⟨Nat.le_refl _, ⟨Nat.le_refl _, Nat.le_refl _⟩, fun _ h => h, Nat.le_refl _, Nat.le_refl _⟩
theorem MSN.up {A A' : List AK} {c x1 x2 x3 n d y1 y2 y3 m : Nat} (h : MSN A A' c x1 x2 x3 n) (_h0 : c ≤ d) (_h1 : x1 ≤ y1) (h2 : x2 ≤ y2) (h3 : x3 ≤ y3) (h4 : n ≤ m := by omega) : MSN A A' d y1 y2 y3 m :=
  ⟨h.1, by have := h.2.1; omega, fun X hX => (h.2.2.1 X hX).up (by omega), by have := h.2.2.2.1; omega, by have := h.2.2.2.2; omega⟩
theorem MSN.tr {A B C : List AK} {c x1 x2 x3 n d y1 y2 y3 m : Nat} (h : MSN A B c x1 x2 x3 n) (g : MSN B C d y1 y2 y3 m) : MSN A C (c + d) (x1 + y1) (x2 + y2) (x3 + y3) (n + m) :=
  ⟨Nat.le_trans g.1 h.1, by have := h.2.1; have := g.2.1; omega, fun X hX => (g.2.2.1 _ (h.2.2.1 X hX)).up (by omega), by have := h.2.2.2.1; have := g.2.2.2.1; omega, by have := h.2.2.2.2; have := g.2.2.2.2; omega⟩
theorem tK_le {a b : AK} (hn : b.1 = a.1) (ht : b.2.2.1 = 0 ∨ b.2.2.1 = a.2.2.1) : tK b ≤ tK a ∧ uK b ≤ uK a := by
  unfold tK uK
  rcases ht with z | z
  · rw [if_pos z, if_pos z]; exact ⟨Nat.zero_le _, Nat.zero_le _⟩
  · rw [z, hn]; exact ⟨Nat.le_refl _, Nat.le_refl _⟩
theorem vK_le {a b : AK} {x2 : Nat} (hn : b.1 = a.1) (hs : b.2.1 = a.2.1) (h2 : b.2.2.2.2.2.length ≤ a.2.2.2.2.2.length + x2) : vK b ≤ vK a + 2 * x2 := by
  unfold vK; rw [hn, hs]
  by_cases c : a.2.1 = 3
  · rw [if_pos c, if_pos c]; omega
  · rw [if_neg c, if_neg c]; omega
theorem MSN_at {P Q : List AK} {a b : AK} {x1 x2 x3 : Nat} (h2 : b.2.2.2.2.2.length ≤ a.2.2.2.2.2.length + x2) (h3 : kM b ≤ kM a + x3) (hn : b.1 = a.1) (hs : b.2.1 = a.2.1) (h0 : txQ b ≤ txQ a) (ht : b.2.2.1 = 0 ∨ b.2.2.1 = a.2.2.1) : MSN (P ++ a :: Q) (P ++ b :: Q) 0 x1 x2 x3 0 := by
  have hv := vK_le hn hs h2
  have hk := tK_le hn ht
  have hm : ∀ z : AK, memB (P ++ z :: Q) = memB P + (kM z + memB Q) := fun z => memB_app P (z :: Q)
  have ho : oK b ≤ oK a + x2 := by unfold oK; rw [hs]; split <;> omega
  exact ⟨by rw [txB_mid, txB_mid]; omega, ⟨by rw [tS_mid, tS_mid]; omega, by rw [uS_mid, uS_mid]; omega⟩, fun X hX => by unfold OC at hX ⊢; rw [oS_mid] at hX ⊢; omega, by rw [hm, hm]; omega, by rw [vS_mid, vS_mid]; omega⟩
theorem MSN_rm {P Q : List AK} {a : AK} : MSN (P ++ a :: Q) (P ++ Q) 0 0 0 0 0 := by
  have hm : memB (P ++ a :: Q) = memB P + (kM a + memB Q) := memB_app P (a :: Q)
  exact ⟨by rw [txB_mid, txB_app]; omega, ⟨by rw [tS_mid, tS_app]; omega, by rw [uS_mid, uS_app]; omega⟩, fun X hX => by unfold OC at hX ⊢; rw [oS_mid] at hX; rw [oS_app]; omega, by rw [hm, memB_app]; omega, by rw [vS_mid, vS_app]; omega⟩
theorem MSN_in {P Q : List AK} {a : AK} {c x1 x2 x3 n : Nat} (h0 : txQ a = 0) (ht : a.2.2.1 = 0) (h2 : a.2.2.2.2.2.length ≤ x2) (h3 : kM a ≤ x3) (hn : a.1.length ≤ n) : MSN (P ++ Q) (P ++ a :: Q) c x1 x2 x3 n := by
  have e0 : tK a = 0 := by unfold tK; rw [if_pos ht]
  have e1 : uK a = 0 := by unfold uK; rw [if_pos ht]
  have hm : memB (P ++ a :: Q) = memB P + (kM a + memB Q) := memB_app P (a :: Q)
  have hv : vK a ≤ n + 2 * x2 := by unfold vK; split <;> omega
  have ho : oK a ≤ x2 := by unfold oK; split <;> omega
  exact ⟨by rw [txB_mid, txB_app]; omega, ⟨by rw [tS_mid, tS_app]; omega, by rw [uS_mid, uS_app]; omega⟩, fun X hX => by unfold OC at hX ⊢; rw [oS_app] at hX; rw [oS_mid]; omega, by rw [hm, memB_app]; omega, by rw [vS_mid, vS_app]; omega⟩
theorem mkUN {A : List AK} {w : List Int32} {s : Int32} {f : AK → AK} {x1 x2 x3 : Nat} (hA : IA A) (hn : ∀ a, (f a).1 = a.1) (hf : ∀ a, kA A w s a → AOK (f a) ∧ tT [f a] ≤ tT [a] + x1 ∧ eN [f a] ≤ eN [a] + x2 ∧ kM (f a) ≤ kM a + x3) (h4 : ∀ a, (f a).2.1 = 4 → a.2.1 = 4 := by exact fun _ h => h) (h0 : ∀ a, txQ (f a) ≤ txQ a := by exact fun _ => Nat.le_refl _) (ht : ∀ a, (f a).2.2.1 = 0 ∨ (f a).2.2.1 = a.2.2.1 := by exact fun _ => Or.inr rfl) (hs : ∀ a, (f a).2.1 = a.2.1 := by exact fun _ => rfl) : IA (upA (orA A w s).1 (orA A w s).2 f) ∧ MSN A (upA (orA A w s).1 (orA A w s).2 f) 1 (w.length + x1) x2 (64 + w.length + x3) w.length := by
  refine ⟨(mkU hA hn hf h4).1, ?_⟩
  cases h : kyI A w with
  | some p =>
    obtain ⟨a, ha, hc⟩ := kyI_get h
    obtain ⟨P, Q, rfl, rfl⟩ := get_split ha
    obtain ⟨g1, g2, g3, g4⟩ := hf a (Or.inr ⟨_, h, ha⟩)
    rw [orA_some h]
    show MSN (P ++ a :: Q) (upA (P ++ a :: Q) P.length f) 1 _ _ _ _
    rw [upA_at]
    exact (MSN_at (x1 := x1) (x2 := x2) (x3 := x3) g3 g4 (hn a) (hs a) (h0 a) (ht a)).up (by omega) (by omega) (by omega) (by omega) (by omega)
  | none =>
    obtain ⟨g1, g2, g3, g4⟩ := hf _ (Or.inl ⟨h, rfl⟩)
    have hp := plF_le (anm A) w
    rw [anm_len] at hp
    rw [orA_none h]
    obtain ⟨P, hP⟩ : ∃ P, P = A.take (plF (anm A) w) := ⟨_, rfl⟩
    obtain ⟨Q, hQ⟩ : ∃ Q, Q = A.drop (plF (anm A) w) := ⟨_, rfl⟩
    have hl : P.length = plF (anm A) w := by rw [hP, List.length_take]; omega
    have eA : A = P ++ Q := by rw [hP, hQ, List.take_append_drop]
    have eI : inA A (plF (anm A) w) (w, s, 0, 0, [], []) = P ++ (w, s, 0, 0, [], []) :: Q := by unfold inA; rw [← hP, ← hQ]
    show MSN A (upA (inA A (plF (anm A) w) (w, s, 0, 0, [], [])) (plF (anm A) w) f) 1 _ _ _ _
    rw [eI, ← hl, upA_at]
    have m := MSN_in (P := P) (Q := Q) (a := f (w, s, 0, 0, [], [])) (c := 1) (x1 := w.length + x1) (x2 := x2) (x3 := 64 + w.length + x3) (n := w.length) ?_ ?_ ?_ ?_ ?_
    · rw [← eA] at m; exact m
    · have := h0 (w, s, 0, 0, [], [])
      have e : txQ ((w, s, 0, 0, [], []) : AK) = 0 := by unfold txQ; show (if s = 0 then 0 else 0) = 0; split <;> rfl
      omega
    · rcases ht (w, s, 0, 0, [], []) with z | z
      · exact z
      · exact z
    · have e1 : eN [((w, s, 0, 0, [], []) : AK)] = 0 := rfl
      have e2 : eN [f (w, s, 0, 0, [], [])] = (f (w, s, 0, 0, [], [])).2.2.2.2.2.length := rfl
      omega
    · have : kM ((w, s, 0, 0, [], []) : AK) = 64 + w.length := by show 64 + w.length + 0 + memW s * 0 + 0 = _; omega
      omega
    · rw [hn]; exact Nat.le_refl _
theorem upUN {A : List AK} {p : Nat} {a : AK} {f : AK → AK} {x1 x2 x3 : Nat} (hA : IA A) (ha : A[p]? = some a) (hn : (f a).1 = a.1) (hf : AOK (f a) ∧ tT [f a] ≤ tT [a] + x1 ∧ eN [f a] ≤ eN [a] + x2 ∧ kM (f a) ≤ kM a + x3) (h4 : (f a).2.1 = 4 → a.2.1 = 4 := by exact fun h => h) (h0 : txQ (f a) ≤ txQ a := by exact Nat.le_refl _) (ht : (f a).2.2.1 = 0 ∨ (f a).2.2.1 = a.2.2.1 := by exact Or.inr rfl) (hs : (f a).2.1 = a.2.1 := by exact rfl) : IA (upA A p f) ∧ MSN A (upA A p f) 0 x1 x2 x3 0 := by
  refine ⟨(upU hA ha hn hf h4).1, ?_⟩
  obtain ⟨P, Q, rfl, rfl⟩ := get_split ha
  rw [upA_at]
  exact MSN_at hf.2.2.1 hf.2.2.2 hn hs h0 ht
theorem rmUN {A : List AK} {p : Nat} (hA : IA A) : IA (rmA A p) ∧ MSN A (rmA A p) 0 0 0 0 0 := by
  refine ⟨(rmU hA).1, ?_⟩
  cases h : A[p]? with
  | some a =>
    obtain ⟨P, Q, rfl, rfl⟩ := get_split h
    rw [rmA_at]; exact MSN_rm
  | none =>
    have e : ∀ (A : List AK) (p : Nat), A[p]? = none → rmA A p = A := by
      intro A
      induction A with
      | nil => intro p _; rfl
      | cons a r ih =>
        intro p h
        cases p with
        | zero => cases h
        | succ p => show a :: rmA r p = a :: r; rw [ih p h]
    rw [e A p h]; exact MSN.rf
theorem g_flN {A A' : List AK} (h : flF A = some A') : IA A' ∧ MSN A A' 0 0 0 0 0 := by
  unfold flF at h
  cases A with
  | nil => cases h
  | cons a r => cases h; exact ⟨IA_nil, Nat.zero_le _, ⟨Nat.zero_le _, Nat.zero_le _⟩, fun X _ => Nat.zero_le _, Nat.zero_le _, Nat.zero_le _⟩
theorem stUN {A : List AK} {p : Nat} {g : List AE → List AE} (hA : IA A) (hg : ∀ a, A[p]? = some a → (g a.2.2.2.2.2).Sublist a.2.2.2.2.2) : IA (stlA A p g) ∧ MSN A (stlA A p g) 0 0 0 0 0 := by
  unfold stlA
  cases h : A[p]? with
  | none => exact ⟨hA, MSN.rf⟩
  | some a =>
    show IA (if g a.2.2.2.2.2 = [] then rmA A p else upA A p (esF g)) ∧ MSN A (if g a.2.2.2.2.2 = [] then rmA A p else upA A p (esF g)) 0 0 0 0 0
    by_cases c : g a.2.2.2.2.2 = []
    · rw [if_pos c]; exact rmUN hA
    · rw [if_neg c]
      have hs := hg a h
      have ok := hA.2 a (List.mem_of_getElem? h)
      have k := kM_es (a := a) (g := g) (x1 := 0) (x2 := 0) (eT_sub hs).1 (eT_sub hs).2
      exact upUN hA h rfl ⟨AOK_es ok (ok.2.2.1.sub hs) c, k⟩
def G0eN (A A' : List AK) : Prop := IA A' ∧ MSN A A' 0 0 0 0 0
theorem g_popN {A A' : List AK} {w : List Int32} {i N : Nat} (hA : IA A) (h : popF A w i N = some A') : G0eN A A' := by
  unfold popF at h
  cases e : kyI A w with
  | none => rw [e] at h; cases h
  | some p =>
    rw [e] at h
    obtain ⟨a, ha, -⟩ := kyI_get e
    have h : (match A[p]? with | some a => if min N a.2.2.2.2.2.length = 0 then none else some (stlA A p (popE i (min N a.2.2.2.2.2.length))) | none => none) = some A' := h
    rw [ha] at h
    have h : (if min N a.2.2.2.2.2.length = 0 then none else some (stlA A p (popE i (min N a.2.2.2.2.2.length)))) = some A' := h
    by_cases c : min N a.2.2.2.2.2.length = 0
    · rw [if_pos c] at h; cases h
    · rw [if_neg c] at h; cases h; exact stUN hA (fun b _ => pop_sub _ _ _)
theorem g_zpopN {A A' : List AK} {w : List Int32} {i N : Nat} (hA : IA A) (h : zpF A w i N = some A') : G0eN A A' := by
  unfold zpF at h
  cases e : kyI A w with
  | none => rw [e] at h; cases h
  | some p =>
    rw [e] at h
    obtain ⟨a, ha, -⟩ := kyI_get e
    have h : (match A[p]? with | some a => if min N a.2.2.2.2.2.length = 0 then none else some (stlA A p (popE (if i = 93 then 42 else 41) (min N a.2.2.2.2.2.length))) | none => none) = some A' := h
    rw [ha] at h
    have h : (if min N a.2.2.2.2.2.length = 0 then none else some (stlA A p (popE (if i = 93 then 42 else 41) (min N a.2.2.2.2.2.length)))) = some A' := h
    by_cases c : min N a.2.2.2.2.2.length = 0
    · rw [if_pos c] at h; cases h
    · rw [if_neg c] at h; cases h; exact stUN hA (fun b _ => pop_sub _ _ _)
theorem g_trimN {A A' : List AK} {w : List Int32} {i j : Int64} (hA : IA A) (h : trF A w i j = some A') : G0eN A A' := by
  unfold trF at h
  cases e : kyI A w with
  | none => rw [e] at h; cases h
  | some p =>
    rw [e] at h
    have h : (if (strF i j (mnA A w)).2 - (strF i j (mnA A w)).1 < mnA A w then some (stlA A p (fun es => popE 41 (strF i j (mnA A w)).1 (popE 42 (mnA A w - (strF i j (mnA A w)).2) es))) else none) = some A' := h
    by_cases c : (strF i j (mnA A w)).2 - (strF i j (mnA A w)).1 < mnA A w
    · rw [if_pos c] at h; cases h; exact stUN hA (fun b _ => (pop_sub _ _ _).trans (pop_sub _ _ _))
    · rw [if_neg c] at h; cases h
theorem g_lremN {A A' : List AK} {w piv : List Int32} {n : Int64} (hA : IA A) (h : lrF A w n piv = some A') : G0eN A A' := by
  unfold lrF at h
  cases e : kyI A w with
  | none => rw [e] at h; cases h
  | some p =>
    rw [e] at h
    obtain ⟨a, ha, -⟩ := kyI_get e
    have h : (match A[p]? with | none => none | some a => if (lrG n piv a.2.2.2.2.2).length = a.2.2.2.2.2.length then none else some (stlA A p (lrG n piv))) = some A' := h
    rw [ha] at h
    have h : (if (lrG n piv a.2.2.2.2.2).length = a.2.2.2.2.2.length then none else some (stlA A p (lrG n piv))) = some A' := h
    by_cases c : (lrG n piv a.2.2.2.2.2).length = a.2.2.2.2.2.length
    · rw [if_pos c] at h; cases h
    · rw [if_neg c] at h; cases h; exact stUN hA (fun b _ => lrG_sub _ _ _)
theorem g_remN {A A' : List AK} {w : List Int32} {i1 : Nat} {vs : List (List Int32)} (hA : IA A) (h : rvF A w i1 vs = some A') : G0eN A A' := by
  unfold rvF at h
  cases e : kyI A w with
  | none => rw [e] at h; cases h
  | some p =>
    rw [e] at h
    obtain ⟨a, ha, -⟩ := kyI_get e
    have h : (match A[p]? with | none => none | some a => if rvN i1 a.2.2.2.2.2 vs = 0 then none else some (stlA A p (fun es => rvA i1 es vs))) = some A' := h
    rw [ha] at h
    have h : (if rvN i1 a.2.2.2.2.2 vs = 0 then none else some (stlA A p (fun es => rvA i1 es vs))) = some A' := h
    by_cases c : rvN i1 a.2.2.2.2.2 vs = 0
    · rw [if_pos c] at h; cases h
    · rw [if_neg c] at h; cases h; exact stUN hA (fun b _ => rvA_sub _ _ _)
theorem g_spopN {A A' : List AK} {w : List Int32} (hA : IA A) (h : spF A w = some A') : G0eN A A' := by
  unfold spF at h
  cases e : kyI A w with
  | none => rw [e] at h; cases h
  | some p => rw [e] at h; cases h; exact stUN hA (fun b _ => List.tail_sublist _)
theorem g_zcutN {A A' : List AK} {w : List Int32} {i1 : Nat} {i j : Int64} {no : Int32} {lo hi : Int64} (hA : IA A) (h : zcF A w i1 i j no lo hi = some A') : G0eN A A' := by
  unfold zcF at h
  cases e : kyI A w with
  | none => rw [e] at h; cases h
  | some p =>
    rw [e] at h
    obtain ⟨a, ha, -⟩ := kyI_get e
    generalize zcT i1 (strF i j (mnA A w)).1 (strF i j (mnA A w)).2 no lo hi = T at h
    have h : (match A[p]? with | none => none | some a => if i1 = 89 ∨ zcN T 0 a.2.2.2.2.2 = 0 then none else some (stlA A p (zcE T 0))) = some A' := h
    rw [ha] at h
    have h : (if i1 = 89 ∨ zcN T 0 a.2.2.2.2.2 = 0 then none else some (stlA A p (zcE T 0))) = some A' := h
    by_cases c : i1 = 89 ∨ zcN T 0 a.2.2.2.2.2 = 0
    · rw [if_pos c] at h; cases h
    · rw [if_neg c] at h; cases h; exact stUN hA (fun b _ => zcE_sub _ _ _)
theorem g_delAN {A : List AK} {w : List Int32} (hA : IA A) : G0eN A (delA A w) := by
  unfold delA
  cases kyI A w with
  | none => exact ⟨hA, MSN.rf⟩
  | some p => exact rmUN hA
theorem g_dlAN : ∀ (r : List (List Int32)) {A : List AK}, IA A → G0eN A (dlA A r) := by
  intro r
  induction r with
  | nil => intro A hA; exact ⟨hA, MSN.rf⟩
  | cons w r ih =>
    intro A hA
    obtain ⟨h1, h2⟩ := g_delAN (w := w) hA
    obtain ⟨h3, h4⟩ := ih h1
    exact ⟨h3, (h2.tr h4).up (Nat.le_refl _) (Nat.le_refl _) (Nat.le_refl _) (Nat.le_refl _) (Nat.le_refl _)⟩
theorem g_delN {A A' : List AK} {r : List (List Int32)} (hA : IA A) (h : delF A r = some A') : G0eN A A' := by
  unfold delF at h
  by_cases c : dlN A r = 0
  · rw [if_pos c] at h; cases h
  · rw [if_neg c] at h; cases h; exact g_dlAN r hA
theorem g_peN {A A' : List AK} {w : List Int32} (hA : IA A) (h : peF A w = some A') : G0eN A A' := by
  unfold peF at h
  cases e : kyI A w with
  | none => rw [e] at h; cases h
  | some p =>
    rw [e] at h
    obtain ⟨a, ha, -⟩ := kyI_get e
    have h : (match A[p]? with | none => none | some a => if a.2.2.1 = 0 then none else some (upA A p untF)) = some A' := h
    rw [ha] at h
    have h : (if a.2.2.1 = 0 then none else some (upA A p untF)) = some A' := h
    by_cases c : a.2.2.1 = 0
    · rw [if_pos c] at h; cases h
    · rw [if_neg c] at h; cases h
      obtain ⟨h1, h2, h3, h4, h5, h6⟩ := hA.2 a (List.mem_of_getElem? ha)
      exact upUN hA ha rfl ⟨⟨h1, h2, h3, h4, Or.inl ⟨rfl, rfl⟩, h6⟩, Nat.le_refl _, Nat.le_refl _, Nat.le_refl _⟩ (fun h => h) (Nat.le_refl _) (Or.inl rfl)
end NX
