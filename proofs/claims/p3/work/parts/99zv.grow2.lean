/-! What the commands keep: lists, hashes, sets. -/
section GROW2
theorem e1 {es : List AE} : ELS 1 es ↔ ∀ z ∈ es, WOK z.1 ∧ z.2 = ([], 0) := by
  unfold ELS
  refine ⟨fun h z hz => ⟨(h.1 z hz).1, h.2.2.1 rfl z hz⟩, fun h => ⟨fun z hz => ⟨(h z hz).1, by rw [(h z hz).2]; exact Nat.zero_le _⟩, fun e => absurd e (by decide), fun _ z hz => (h z hz).2, fun e => absurd e (by decide), fun e => absurd e (by decide), fun e => absurd e (by decide)⟩⟩
theorem e2 {es : List AE} : ELS 2 es ↔ SP es ∧ ∀ z ∈ es, WOK z.1 ∧ z.2.1.length ≤ 16384 ∧ z.2.2 = 0 := by
  unfold ELS
  refine ⟨fun h => ⟨(h.2.2.2.1 rfl).1, fun z hz => ⟨(h.1 z hz).1, (h.1 z hz).2, (h.2.2.2.1 rfl).2 z hz⟩⟩, fun h => ⟨fun z hz => ⟨(h.2 z hz).1, (h.2 z hz).2.1⟩, fun e => absurd e (by decide), fun e => absurd e (by decide), fun _ => ⟨h.1, fun z hz => (h.2 z hz).2.2⟩, fun e => absurd e (by decide), fun e => absurd e (by decide)⟩⟩
theorem e3 {es : List AE} : ELS 3 es ↔ SP es ∧ ∀ z ∈ es, WOK z.1 ∧ z.2 = ([], 0) := by
  unfold ELS
  refine ⟨fun h => ⟨(h.2.2.2.2.1 rfl).1, fun z hz => ⟨(h.1 z hz).1, (h.2.2.2.2.1 rfl).2 z hz⟩⟩, fun h => ⟨fun z hz => ⟨(h.2 z hz).1, by rw [(h.2 z hz).2]; exact Nat.zero_le _⟩, fun e => absurd e (by decide), fun e => absurd e (by decide), fun e => absurd e (by decide), fun _ => ⟨h.1, fun z hz => (h.2 z hz).2⟩, fun e => absurd e (by decide)⟩⟩
theorem e4 {es : List AE} : ELS 4 es ↔ ZP es ∧ ∀ z ∈ es, WOK z.1 ∧ z.2.1 = [] := by
  unfold ELS
  refine ⟨fun h => ⟨(h.2.2.2.2.2 rfl).1, fun z hz => ⟨(h.1 z hz).1, (h.2.2.2.2.2 rfl).2 z hz⟩⟩, fun h => ⟨fun z hz => ⟨(h.2 z hz).1, by rw [(h.2 z hz).2]; exact Nat.zero_le _⟩, fun e => absurd e (by decide), fun e => absurd e (by decide), fun e => absurd e (by decide), fun e => absurd e (by decide), fun _ => ⟨h.1, fun z hz => (h.2 z hz).2⟩⟩⟩
theorem ELS_nil (s : Int32) : ELS s [] := ⟨fun z hz => (by cases hz), fun _ => rfl, fun _ z hz => (by cases hz), fun _ => ⟨List.Pairwise.nil, fun z hz => (by cases hz)⟩, fun _ => ⟨List.Pairwise.nil, fun z hz => (by cases hz)⟩, fun _ => ⟨List.Pairwise.nil, fun z hz => (by cases hz)⟩⟩
/-- a change of the elements that keeps their sort -/
def EU (s : Int32) (g : List AE → List AE) (x1 x2 : Nat) : Prop := ∀ es, ELS s es → ELS s (g es) ∧ g es ≠ [] ∧ eT (g es) ≤ eT es + x1 ∧ (g es).length ≤ es.length + x2
theorem EU_a {A : List AK} {w : List Int32} {s : Int32} {g : List AE → List AE} {x1 x2 : Nat} {a : AK} (hA : IA A) (hs : soT A w s = true) (h0 : s = 1 ∨ s = 2 ∨ s = 3 ∨ s = 4) (hw : WOK w) (hg : EU s g x1 x2) (ka : kA A w s a) : AOK (esF g a) ∧ tT [esF g a] ≤ tT [a] + x1 ∧ eN [esF g a] ≤ eN [a] + x2 ∧ kM (esF g a) ≤ kM a + (x1 + memW s * x2) := by
  have es := kA_so hs ka
  have hel : ELS s a.2.2.2.2.2 := by
    rcases kA_ok hA ka with rfl | ok
    · exact ELS_nil s
    · have := ok.2.2.1; rw [es] at this; exact this
  obtain ⟨g1, g2, g3, g4⟩ := hg _ hel
  have k := kM_es (a := a) (g := g) g3 g4
  rw [es] at k
  refine ⟨?_, k⟩
  rcases kA_ok hA ka with rfl | ok
  · exact ⟨hw, Nat.zero_le _, g1, fun _ => ⟨g2, rfl⟩, Or.inl ⟨rfl, rfl⟩, Or.inr h0⟩
  · exact AOK_es ok (by rw [es]; exact g1) g2
theorem mkE {A : List AK} {w : List Int32} {s : Int32} {g : List AE → List AE} {x1 x2 : Nat} (hA : IA A) (hs : soT A w s = true) (h0 : s = 1 ∨ s = 2 ∨ s = 3 ∨ s = 4) (hw : WOK w) (hg : EU s g x1 x2) : IA (upA (orA A w s).1 (orA A w s).2 (esF g)) ∧ MS A (upA (orA A w s).1 (orA A w s).2 (esF g)) 1 (w.length + x1) x2 (64 + w.length + (x1 + memW s * x2)) w.length :=
  mkU hA (fun _ => rfl) (fun _ ka => EU_a hA hs h0 hw hg ka)
theorem mkE2 {A : List AK} {w : List Int32} {s : Int32} {g : List AE → List AE} {x1 x2 : Nat} (hA : IA A) (hs : soT A w s = true) (h0 : s = 1 ∨ s = 2 ∨ s = 3 ∨ s = 4) (hw : WOK w) (hg : EU s g x1 x2) (hk : kyI A w ≠ none) : IA (upA (orA A w s).1 (orA A w s).2 (esF g)) ∧ MS A (upA (orA A w s).1 (orA A w s).2 (esF g)) 0 x1 x2 (x1 + memW s * x2) 0 := by
  cases h : kyI A w with
  | none => exact absurd h hk
  | some p =>
    obtain ⟨a, ha, -⟩ := kyI_get h
    rw [orA_some h]
    exact upU hA ha rfl (EU_a hA hs h0 hw hg (Or.inr ⟨p, h, ha⟩))
/-- the key is there then, and of that sort -/
theorem mkE_so {A : List AK} {w : List Int32} {s : Int32} {g : List AE → List AE} (hA : IA A) (hs : soT A w s = true) : soT (upA (orA A w s).1 (orA A w s).2 (esF g)) w s = true ∧ kyI (upA (orA A w s).1 (orA A w s).2 (esF g)) w = some (orA A w s).2 := by
  have hS := kyI_or hA.1 w s
  have ek : kyI (upA (orA A w s).1 (orA A w s).2 (esF g)) w = some (orA A w s).2 := (kyI_up _ _ (esF g) (fun _ => rfl) w).trans hS.2
  refine ⟨?_, ek⟩
  obtain ⟨a, ha, -⟩ := kyI_get hS.2
  unfold soT
  rw [ek]
  show (match (upA (orA A w s).1 (orA A w s).2 (esF g))[(orA A w s).2]? with | some a => decide (a.2.1 = s) | none => true) = true
  rw [upA_get, if_pos rfl, ha]
  show decide (a.2.1 = s) = true
  refine decide_eq_true ?_
  cases h : kyI A w with
  | some p =>
    rw [orA_some h] at ha
    exact soT_ne hs h ha
  | none =>
    rw [orA_none h] at ha
    have hp := plF_le (anm A) w
    rw [anm_len] at hp
    have eg : (inA A (plF (anm A) w) (w, s, 0, 0, [], []))[plF (anm A) w]? = some (w, s, 0, 0, [], []) := by
      unfold inA
      have := gtA (A.take (plF (anm A) w)) (w, s, 0, 0, [], []) (A.drop (plF (anm A) w))
      rw [List.length_take, Nat.min_eq_left hp] at this; exact this
    rw [show (inA A (plF (anm A) w) (w, s, 0, 0, [], []), plF (anm A) w).1 = inA A (plF (anm A) w) (w, s, 0, 0, [], []) from rfl] at ha
    rw [eg] at ha; cases ha; rfl
theorem eT_1 (z : AE) (r : List AE) : eT (z :: r) = z.1.length + z.2.1.length + eT r := rfl
theorem ps_ok (i : Nat) : ∀ (vs : List (List Int32)) (es : List AE), ELS 1 es → (∀ v ∈ vs, WOK v) → ELS 1 (psE i es vs) ∧ eT (psE i es vs) = eT es + sl vs ∧ (psE i es vs).length = es.length + vs.length := by
  intro vs
  induction vs with
  | nil => intro es h _; exact ⟨h, rfl, rfl⟩
  | cons v vs ih =>
    intro es h hv
    have hvl := hv v List.mem_cons_self
    have step : ELS 1 (if i = 38 ∨ i = 40 then es ++ [(v, [], 0)] else (v, [], 0) :: es) ∧ eT (if i = 38 ∨ i = 40 then es ++ [(v, [], 0)] else (v, [], 0) :: es) = eT es + v.length ∧ (if i = 38 ∨ i = 40 then es ++ [(v, [], 0)] else (v, [], 0) :: es).length = es.length + 1 := by
      by_cases c : i = 38 ∨ i = 40
      · rw [if_pos c]
        refine ⟨e1.mpr (fun z hz => ?_), ?_, by rw [List.length_append]; rfl⟩
        · rcases List.mem_append.mp hz with hz | hz
          · exact e1.mp h z hz
          · rw [List.mem_singleton.mp hz]; exact ⟨hvl, rfl⟩
        · rw [eT_app]; show _ + (v.length + 0 + 0) = _; omega
      · rw [if_neg c]
        refine ⟨e1.mpr (fun z hz => ?_), ?_, rfl⟩
        · rcases List.mem_cons.mp hz with rfl | hz
          · exact ⟨hvl, rfl⟩
          · exact e1.mp h z hz
        · show v.length + 0 + eT es = _; omega
    obtain ⟨k1, k2, k3⟩ := ih _ step.1 (fun x hx => hv x (List.mem_cons_of_mem _ hx))
    refine ⟨k1, ?_, ?_⟩
    · show eT (psE i _ vs) = eT es + (v.length + sl vs); rw [k2, step.2.1]; omega
    · show (psE i _ vs).length = es.length + (vs.length + 1); rw [k3, step.2.2]; omega
theorem ne_len {α : Type} {l : List α} (h : 1 ≤ l.length) : l ≠ [] := fun e => by rw [e] at h; exact absurd h (Nat.not_succ_le_zero 0)
theorem g_pu {A A' : List AK} {w : List Int32} {i : Nat} {vs : List (List Int32)} (hA : IA A) (hs : soT A w 1 = true) (hw : WOK w) (hv : ∀ v ∈ vs, WOK v) (hn : 1 ≤ vs.length) (h : puF A w i vs = some A') : IA A' ∧ MS A A' 1 (w.length + sl vs) vs.length (64 + w.length + (sl vs + 16 * vs.length)) w.length := by
  unfold puF at h
  by_cases c : kyI A w = none ∧ (i = 39 ∨ i = 40)
  · rw [if_pos c] at h; cases h
  · rw [if_neg c] at h; cases h
    refine mkE hA hs (Or.inl rfl) hw (fun es he => ?_)
    obtain ⟨k1, k2, k3⟩ := ps_ok i vs es he hv
    exact ⟨k1, ne_len (by rw [k3]; omega), by rw [k2]; exact Nat.le_refl _, by rw [k3]; exact Nat.le_refl _⟩
theorem st_ok (v : List Int32) (hv : WOK v) : ∀ (es : List AE) (i : Nat), ELS 1 es → ELS 1 (stE i v es) ∧ eT (stE i v es) ≤ eT es + v.length ∧ (stE i v es).length = es.length := by
  intro es
  induction es with
  | nil => intro i h; unfold stE; exact ⟨h, Nat.zero_le _, rfl⟩
  | cons z r ih =>
    intro i h
    have h1 := e1.mp h
    have hr : ELS 1 r := e1.mpr (fun y hy => h1 y (List.mem_cons_of_mem _ hy))
    cases i with
    | zero =>
      refine ⟨e1.mpr (fun y hy => ?_), ?_, rfl⟩
      · rcases List.mem_cons.mp hy with rfl | hy
        · exact ⟨hv, (h1 z List.mem_cons_self).2⟩
        · exact h1 y (List.mem_cons_of_mem _ hy)
      · show v.length + z.2.1.length + eT r ≤ z.1.length + z.2.1.length + eT r + v.length; omega
    | succ i =>
      obtain ⟨k1, k2, k3⟩ := ih i hr
      refine ⟨e1.mpr (fun y hy => ?_), ?_, ?_⟩
      · rcases List.mem_cons.mp hy with rfl | hy
        · exact h1 y List.mem_cons_self
        · exact e1.mp k1 y hy
      · show z.1.length + z.2.1.length + eT (stE i v r) ≤ z.1.length + z.2.1.length + eT r + v.length; omega
      · show (stE i v r).length + 1 = r.length + 1; rw [k3]
theorem soT_ky {A : List AK} {w : List Int32} {s : Int32} {p : Nat} {a : AK} (hA : IA A) (hs : soT A w s = true) (h1 : kyI A w = some p) (h2 : A[p]? = some a) : a.2.1 = s ∧ AOK a ∧ ELS s a.2.2.2.2.2 := by
  have e := soT_ne hs h1 h2
  have ok := hA.2 a (List.mem_of_getElem? h2)
  exact ⟨e, ok, by have := ok.2.2.1; rw [e] at this; exact this⟩
theorem g_lp {A A' : List AK} {w v : List Int32} {i1 : Nat} {n : Int64} (hA : IA A) (hs : soT A w 1 = true) (hv : WOK v) (h : lpF A w i1 n v = some A') : IA A' ∧ MS A A' 0 v.length 0 v.length 0 := by
  unfold lpF at h
  cases e : kyI A w with
  | none => rw [e] at h; cases h
  | some p =>
    rw [e] at h
    obtain ⟨a, ha, -⟩ := kyI_get e
    generalize hq : (sI n (lN (mnA A w))).toInt.toNat = q at h
    have h : (if i1 = 46 ∧ (¬ sI n (lN (mnA A w)) < 0) ∧ sI n (lN (mnA A w)) < lN (mnA A w) then some (upA A p (esF (stE q v))) else none) = some A' := h
    by_cases c : i1 = 46 ∧ (¬ sI n (lN (mnA A w)) < 0) ∧ sI n (lN (mnA A w)) < lN (mnA A w)
    · rw [if_pos c] at h; cases h
      obtain ⟨s1, s2, s3⟩ := soT_ky hA hs e ha
      obtain ⟨k1, k2, k3⟩ := st_ok v hv _ q s3
      have k := kM_es (a := a) (g := stE q v) (x1 := v.length) (x2 := 0) k2 (by rw [k3]; exact Nat.le_refl _)
      refine upU hA ha rfl ⟨AOK_es s2 (by rw [s1]; exact k1) (fun z => ?_), k⟩
      have hne := (s2.2.2.2.1 (by rw [s1]; decide)).1
      have : a.2.2.2.2.2.length = 0 := by rw [← k3, z]; rfl
      exact hne (List.length_eq_zero_iff.mp this)
    · rw [if_neg c] at h; cases h
theorem in_ok (v : List Int32) (hv : WOK v) (i : Nat) (es : List AE) (h : ELS 1 es) : ELS 1 (inE i v es) ∧ inE i v es ≠ [] ∧ eT (inE i v es) ≤ eT es + v.length ∧ (inE i v es).length ≤ es.length + 1 := by
  unfold inE
  have e : eT es = eT (es.take i) + eT (es.drop i) := by rw [← eT_app, List.take_append_drop]
  have el : es.length = (es.take i).length + (es.drop i).length := by rw [← List.length_append, List.take_append_drop]
  refine ⟨e1.mpr (fun z hz => ?_), by simp, ?_, ?_⟩
  · rcases List.mem_append.mp hz with hz | hz
    · exact e1.mp h z (List.mem_of_mem_take hz)
    · rcases List.mem_cons.mp hz with rfl | hz
      · exact ⟨hv, rfl⟩
      · exact e1.mp h z (List.mem_of_mem_drop hz)
  · rw [eT_app, eT_1]; show _ + (v.length + 0 + _) ≤ _; omega
  · rw [List.length_append, List.length_cons]; omega
theorem g_li {A A' : List AK} {w o piv v : List Int32} (hA : IA A) (hs : soT A w 1 = true) (hv : WOK v) (h : liF A w o piv v = some A') : IA A' ∧ MS A A' 0 v.length 1 (v.length + 16) 0 := by
  unfold liF at h
  cases e : kyI A w with
  | none => rw [e] at h; cases h
  | some p =>
    rw [e] at h
    obtain ⟨a, ha, -⟩ := kyI_get e
    have h : (match A[p]? with | none => none | some a => (match fdE piv a.2.2.2.2.2 with | none => none | some i => some (upA A p (esF (inE (if bfI o = 0 then i + 1 else i) v))))) = some A' := h
    rw [ha] at h
    have h : (match fdE piv a.2.2.2.2.2 with | none => none | some i => some (upA A p (esF (inE (if bfI o = 0 then i + 1 else i) v)))) = some A' := h
    cases f : fdE piv a.2.2.2.2.2 with
    | none => rw [f] at h; cases h
    | some i =>
      rw [f] at h; cases h
      obtain ⟨s1, s2, s3⟩ := soT_ky hA hs e ha
      obtain ⟨k1, k2, k3, k4⟩ := in_ok v hv (if bfI o = 0 then i + 1 else i) _ s3
      have k := kM_es (a := a) (g := inE (if bfI o = 0 then i + 1 else i) v) (x1 := v.length) (x2 := 1) k3 k4
      rw [s1] at k
      exact upU hA ha rfl ⟨AOK_es s2 (by rw [s1]; exact k1) k2, k⟩
/-- where a name goes among rising ones -/
theorem sk_lt (v : List Int32) : ∀ (es : List AE), ∀ z ∈ es.take (skI v es), cmpW z.1 v < 0 := by
  intro es
  induction es with
  | nil => intro z hz; simp at hz
  | cons y r ih =>
    intro z hz
    have e : skI v (y :: r) = if cmpW y.1 v < 0 then skI v r + 1 else 0 := rfl
    rw [e] at hz
    by_cases c : cmpW y.1 v < 0
    · rw [if_pos c, List.take_succ_cons] at hz
      rcases List.mem_cons.mp hz with rfl | hz
      · exact c
      · exact ih z hz
    · rw [if_neg c] at hz; simp at hz
theorem sk_ge (v : List Int32) : ∀ (es : List AE), SP es → skT v es = false → ∀ z ∈ es.drop (skI v es), cmpW v z.1 < 0 := by
  intro es
  induction es with
  | nil => intro _ _ z hz; simp at hz
  | cons y r ih =>
    intro h hn z hz
    have e : skI v (y :: r) = if cmpW y.1 v < 0 then skI v r + 1 else 0 := rfl
    unfold skT at hn
    rw [e] at hz hn
    obtain ⟨h1, h2⟩ := List.pairwise_cons.mp h
    by_cases c : cmpW y.1 v < 0
    · rw [if_pos c] at hz hn
      rw [List.drop_succ_cons] at hz
      exact ih h2 hn z hz
    · rw [if_neg c] at hz hn
      have hn : decide (cmpW y.1 v = 0) = false := hn
      have c2 := of_decide_eq_false hn
      have hy : cmpW v y.1 < 0 := by rw [cmpW_anti y.1 v]; omega
      rcases List.mem_cons.mp hz with rfl | hz
      · exact hy
      · exact cmpW_trans _ _ _ hy (h1 z hz)
theorem SP_in {v : List Int32} {x : List Int32 × Int64} {es : List AE} (h : SP es) (hn : skT v es = false) : SP (es.take (skI v es) ++ (v, x) :: es.drop (skI v es)) := by
  have h0 : SP (es.take (skI v es) ++ es.drop (skI v es)) := by rw [List.take_append_drop]; exact h
  obtain ⟨p1, p2, p3⟩ := List.pairwise_append.mp h0
  refine List.pairwise_append.mpr ⟨p1, List.pairwise_cons.mpr ⟨fun b hb => sk_ge v es h hn b hb, p2⟩, fun a ha b hb => ?_⟩
  rcases List.mem_cons.mp hb with rfl | hb
  · exact sk_lt v es a ha
  · exact p3 a ha b hb
theorem pt_mem {v : List Int32} {es : List AE} {z : AE} (h : z ∈ ptE v es) : z ∈ es ∨ z = (v, [], 0) := by
  unfold ptE at h
  by_cases c : skT v es = true
  · rw [if_pos c] at h; exact Or.inl h
  · rw [if_neg c] at h
    rcases List.mem_append.mp h with h | h
    · exact Or.inl (List.mem_of_mem_take h)
    · rcases List.mem_cons.mp h with h | h
      · exact Or.inr h
      · exact Or.inl (List.mem_of_mem_drop h)
theorem pt_ne (v : List Int32) (es : List AE) : ptE v es ≠ [] := by
  unfold ptE
  by_cases c : skT v es = true
  · rw [if_pos c]
    intro e
    rw [e] at c; exact absurd c (by simp [skT])
  · rw [if_neg c]; simp
theorem pt_SP {v : List Int32} {es : List AE} (h : SP es) : SP (ptE v es) := by
  unfold ptE
  by_cases c : skT v es = true
  · rw [if_pos c]; exact h
  · rw [if_neg c]; exact SP_in h (Bool.eq_false_iff.mpr c)
theorem pt_ok {v : List Int32} (hv : WOK v) : EU 3 (ptE v) v.length 1 := by
  intro es h
  obtain ⟨h1, h2⟩ := e3.mp h
  have m := ptE_tT v es
  refine ⟨e3.mpr ⟨pt_SP h1, fun z hz => ?_⟩, pt_ne v es, m.1, m.2⟩
  rcases pt_mem hz with hz | rfl
  · exact h2 z hz
  · exact ⟨hv, rfl⟩
theorem saE {w : List Int32} (hw : WOK w) : ∀ (vs : List (List Int32)) (A : List AK) (cur : Option Nat), IA A → soT A w 3 = true → kyI A w ≠ none → (∀ v ∈ vs, WOK v) → IA (saA w A cur vs) ∧ MS A (saA w A cur vs) 0 (sl vs) vs.length (sl vs + 24 * vs.length) 0 := by
  intro vs
  induction vs with
  | nil => intro A cur hA _ _ _; exact ⟨hA, MS.rf⟩
  | cons v vs ih =>
    intro A cur hA hs hk hv
    have hv2 : ∀ x ∈ vs, WOK x := fun x hx => hv x (List.mem_cons_of_mem _ hx)
    have hvl := hv v List.mem_cons_self
    show IA (if curH A cur v = true then saA w A cur vs else saA w (upA (orA A w 3).1 (orA A w 3).2 (esF (ptE v))) (some (orA A w 3).2) vs) ∧ MS A (if curH A cur v = true then saA w A cur vs else saA w (upA (orA A w 3).1 (orA A w 3).2 (esF (ptE v))) (some (orA A w 3).2) vs) 0 (v.length + sl vs) (vs.length + 1) (v.length + sl vs + 24 * (vs.length + 1)) 0
    by_cases c : curH A cur v = true
    · rw [if_pos c]
      obtain ⟨k1, k2⟩ := ih A cur hA hs hk hv2
      exact ⟨k1, k2.up (Nat.le_refl _) (by omega) (by omega) (by omega)⟩
    · rw [if_neg c]
      obtain ⟨g1, g2⟩ := mkE2 hA hs (Or.inr (Or.inr (Or.inl rfl))) hw (pt_ok hvl) hk
      obtain ⟨t1, t2⟩ := mkE_so (g := ptE v) hA hs
      obtain ⟨k1, k2⟩ := ih _ (some (orA A w 3).2) g1 t1 (by rw [t2]; exact fun z => by cases z) hv2
      have ew : memW 3 = 24 := rfl
      rw [ew] at g2
      exact ⟨k1, (g2.tr k2).up (Nat.le_refl _) (by omega) (by omega) (by omega)⟩
theorem saG {w : List Int32} (hw : WOK w) : ∀ (vs : List (List Int32)) (A : List AK) (cur : Option Nat), IA A → soT A w 3 = true → (∀ v ∈ vs, WOK v) → IA (saA w A cur vs) ∧ MS A (saA w A cur vs) 1 (w.length + sl vs) vs.length (64 + w.length + (sl vs + 24 * vs.length)) w.length := by
  intro vs
  induction vs with
  | nil => intro A cur hA _ _; exact ⟨hA, MS.rf.up (Nat.zero_le _) (Nat.zero_le _) (Nat.zero_le _) (Nat.zero_le _) (Nat.zero_le _)⟩
  | cons v vs ih =>
    intro A cur hA hs hv
    have hv2 : ∀ x ∈ vs, WOK x := fun x hx => hv x (List.mem_cons_of_mem _ hx)
    have hvl := hv v List.mem_cons_self
    show IA (if curH A cur v = true then saA w A cur vs else saA w (upA (orA A w 3).1 (orA A w 3).2 (esF (ptE v))) (some (orA A w 3).2) vs) ∧ MS A (if curH A cur v = true then saA w A cur vs else saA w (upA (orA A w 3).1 (orA A w 3).2 (esF (ptE v))) (some (orA A w 3).2) vs) 1 (w.length + (v.length + sl vs)) (vs.length + 1) (64 + w.length + (v.length + sl vs + 24 * (vs.length + 1))) w.length
    by_cases c : curH A cur v = true
    · rw [if_pos c]
      obtain ⟨k1, k2⟩ := ih A cur hA hs hv2
      exact ⟨k1, k2.up (Nat.le_refl _) (by omega) (by omega) (by omega)⟩
    · rw [if_neg c]
      obtain ⟨g1, g2⟩ := mkE hA hs (Or.inr (Or.inr (Or.inl rfl))) hw (pt_ok hvl)
      obtain ⟨t1, t2⟩ := mkE_so (g := ptE v) hA hs
      obtain ⟨k1, k2⟩ := saE hw vs _ (some (orA A w 3).2) g1 t1 (by rw [t2]; exact fun z => by cases z) hv2
      have ew : memW 3 = 24 := rfl
      rw [ew] at g2
      exact ⟨k1, (g2.tr k2).up (Nat.le_refl _) (by omega) (by omega) (by omega)⟩
theorem g_sa {A A' : List AK} {w : List Int32} {vs : List (List Int32)} (hA : IA A) (hs : soT A w 3 = true) (hw : WOK w) (hv : ∀ v ∈ vs, WOK v) (h : saF A w vs = some A') : IA A' ∧ MS A A' 1 (w.length + sl vs) vs.length (64 + w.length + (sl vs + 24 * vs.length)) w.length := by
  unfold saF at h
  by_cases c : saN w A (kyI A w) vs = 0
  · rw [if_pos c] at h; cases h
  · rw [if_neg c] at h; cases h; exact saG hw vs A _ hA hs hv
theorem gv_names (v : List Int32) : ∀ (es : List AE) (i : Nat), (gvE i v es).map (fun z => z.1) = es.map (fun z => z.1) := by
  intro es
  induction es with
  | nil => intro i; unfold gvE; rfl
  | cons z r ih =>
    intro i
    cases i with
    | zero => rfl
    | succ i => show z.1 :: (gvE i v r).map (fun z => z.1) = z.1 :: r.map (fun z => z.1); rw [ih]
theorem gv_mem (v : List Int32) : ∀ (es : List AE) (i : Nat) (z : AE), z ∈ gvE i v es → ∃ y ∈ es, z.1 = y.1 ∧ z.2.2 = y.2.2 ∧ (z.2.1 = y.2.1 ∨ z.2.1 = v) := by
  intro es
  induction es with
  | nil => intro i z hz; unfold gvE at hz; cases hz
  | cons y r ih =>
    intro i z hz
    cases i with
    | zero =>
      rcases List.mem_cons.mp hz with rfl | hz
      · exact ⟨y, List.mem_cons_self, rfl, rfl, Or.inr rfl⟩
      · exact ⟨z, List.mem_cons_of_mem _ hz, rfl, rfl, Or.inl rfl⟩
    | succ i =>
      rcases List.mem_cons.mp hz with rfl | hz
      · exact ⟨z, List.mem_cons_self, rfl, rfl, Or.inl rfl⟩
      · obtain ⟨x, hx, e⟩ := ih i z hz
        exact ⟨x, List.mem_cons_of_mem _ hx, e⟩
theorem SP_map {es : List AE} : SP es ↔ (es.map (fun z => z.1)).Pairwise (fun a b => cmpW a b < 0) := by
  unfold SP; rw [List.pairwise_map]
theorem hp_ok {f v : List Int32} (hf : WOK f) (hv : v.length ≤ 16384) : EU 2 (hpE f v) (f.length + v.length) 1 := by
  intro es h
  obtain ⟨h1, h2⟩ := e2.mp h
  unfold hpE
  have m := ptE_tT f es
  have m2 := gvE_tT v (ptE f es) (skI f es)
  refine ⟨e2.mpr ⟨?_, fun z hz => ?_⟩, ?_, by omega, by omega⟩
  · rw [SP_map, gv_names, ← SP_map]; exact pt_SP h1
  · obtain ⟨y, hy, k1, k2, k3⟩ := gv_mem v _ _ z hz
    rcases pt_mem hy with hy | rfl
    · refine ⟨by rw [k1]; exact (h2 y hy).1, ?_, by rw [k2]; exact (h2 y hy).2.2⟩
      rcases k3 with k3 | k3
      · rw [k3]; exact (h2 y hy).2.1
      · rw [k3]; exact hv
    · refine ⟨by rw [k1]; exact hf, ?_, by rw [k2]⟩
      rcases k3 with k3 | k3
      · rw [k3]; exact Nat.zero_le _
      · rw [k3]; exact hv
  · intro e
    have : (ptE f es).length = 0 := by rw [← m2.2, e]; rfl
    exact pt_ne f es (List.length_eq_zero_iff.mp this)
theorem hpA_ok : ∀ (n : Nat) (vs : List (List Int32)), vs.length ≤ n → (∀ v ∈ vs, WOK v) → ∀ es, ELS 2 es → ELS 2 (hpA es vs) ∧ (2 ≤ vs.length ∨ es ≠ [] → hpA es vs ≠ []) ∧ eT (hpA es vs) ≤ eT es + sl vs ∧ (hpA es vs).length ≤ es.length + vs.length / 2 := by
  intro n
  induction n with
  | zero =>
    intro vs hn hv es he
    cases vs with
    | nil => exact ⟨he, fun h => h.elim (fun z => absurd z (by decide)) id, Nat.le_refl _, Nat.le_refl _⟩
    | cons a r => simp at hn
  | succ n ih =>
    intro vs hn hv es he
    cases vs with
    | nil => exact ⟨he, fun h => h.elim (fun z => absurd z (by decide)) id, Nat.le_refl _, Nat.le_refl _⟩
    | cons f r =>
      cases r with
      | nil => exact ⟨he, fun h => h.elim (fun z => absurd (show 2 ≤ 1 from z) (by decide)) id, Nat.le_add_right _ _, Nat.le_add_right _ _⟩
      | cons v r =>
        obtain ⟨a1, a2, a3, a4⟩ := hp_ok (hv f List.mem_cons_self) (hv v (List.mem_cons_of_mem _ List.mem_cons_self)).1 es he
        obtain ⟨b1, b2, b3, b4⟩ := ih r (by simp only [List.length_cons] at hn; omega) (fun x hx => hv x (List.mem_cons_of_mem _ (List.mem_cons_of_mem _ hx))) _ a1
        refine ⟨b1, fun _ => b2 (Or.inr a2), ?_, ?_⟩
        · show eT (hpA (hpE f v es) r) ≤ eT es + (f.length + (v.length + sl r)); omega
        · show (hpA (hpE f v es) r).length ≤ es.length + (r.length + 1 + 1) / 2; omega
theorem g_hs {A A' : List AK} {w : List Int32} {i : Nat} {vs : List (List Int32)} {f : List Int32} {mb : Bool} (hA : IA A) (hs : soT A w 2 = true) (hw : WOK w) (hv : ∀ v ∈ vs, WOK v) (hn : 2 ≤ vs.length) (h : hsF A w i vs f mb = some A') : IA A' ∧ MS A A' 1 (w.length + sl vs) (vs.length / 2) (64 + w.length + (sl vs + 32 * (vs.length / 2))) w.length := by
  unfold hsF at h
  by_cases c : i = 53 ∧ mb = true
  · rw [if_pos c] at h; cases h
  · rw [if_neg c] at h; cases h
    refine mkE hA hs (Or.inr (Or.inl rfl)) hw (fun es he => ?_)
    obtain ⟨k1, k2, k3, k4⟩ := hpA_ok vs.length vs (Nat.le_refl _) hv es he
    exact ⟨k1, k2 (Or.inl hn), k3, k4⟩
theorem g_hi {A A' : List AK} {w f : List Int32} {n : Int64} (hA : IA A) (hs : soT A w 2 = true) (hw : WOK w) (hf : WOK f) (h : hiF A w f n = some A') : IA A' ∧ MS A A' 1 (w.length + (f.length + 21)) 1 (64 + w.length + (f.length + 21 + 32)) w.length := by
  unfold hiF at h
  cases e : vhA A w f with
  | none => rw [e] at h; cases h
  | some v =>
    rw [e] at h
    have h : (if ovI v n = 0 then some (upA (orA A w 2).1 (orA A w 2).2 (esF (hpE f (dec (v + n))))) else none) = some A' := h
    by_cases c : ovI v n = 0
    · rw [if_pos c] at h; cases h
      have hd := dec_len (v + n)
      obtain ⟨k1, k2⟩ := mkE hA hs (Or.inr (Or.inl rfl)) hw (hp_ok hf (v := dec (v + n)) (by omega))
      have ew : memW 2 = 32 := rfl
      rw [ew] at k2
      exact ⟨k1, k2.up (Nat.le_refl _) (by omega) (Nat.le_refl _) (by omega)⟩
    · rw [if_neg c] at h; cases h
end GROW2
