/-! What was noted is read again, and a torn note is not. -/
section PARSE2
/-- these bytes stand there, as far as the row goes -/
def AT (b : Nat → Int32) (p e : Nat) (L : List Int32) : Prop := ∀ (i : Nat) (x : Int32), L[i]? = some x → p + i < e → b (p + i) = x
theorem AT.l {b : Nat → Int32} {p e : Nat} {L M : List Int32} (h : AT b p e (L ++ M)) : AT b p e L := fun i x hx he => by
  have hi := (List.getElem?_eq_some_iff.mp hx).1
  exact h i x (by rw [List.getElem?_append_left hi]; exact hx) he
theorem AT.r {b : Nat → Int32} {p e : Nat} {L M : List Int32} (h : AT b p e (L ++ M)) : AT b (p + L.length) e M := fun i x hx he => by
  have := h (L.length + i) x (by rw [List.getElem?_append_right (by omega), Nat.add_sub_cancel_left]; exact hx) (by omega)
  rw [Nat.add_assoc]; exact this
theorem AT.hd {b : Nat → Int32} {p e : Nat} {x : Int32} {L : List Int32} (h : AT b p e (x :: L)) (he : p < e) : b p = x := h 0 x rfl he
theorem AT.tl {b : Nat → Int32} {p e : Nat} {x : Int32} {L : List Int32} (h : AT b p e (x :: L)) : AT b (p + 1) e L := AT.r (L := [x]) h
theorem AT.wd {b : Nat → Int32} {p e : Nat} {w : List Int32} (h : AT b p e w) (he : p + w.length ≤ e) : wd b p w.length = w := by
  apply List.ext_getElem?
  intro i
  by_cases c : i < w.length
  · have := h i _ (List.getElem?_eq_getElem c) (by omega)
    rw [wd_get c, List.getElem?_eq_getElem c, this]
  · rw [List.getElem?_eq_none (by rw [wd_len]; omega), List.getElem?_eq_none (by omega)]
/-- a row of digits -/
def DGS (ds : List Int32) : Prop := ∀ x ∈ ds, ∃ k : Nat, k < 10 ∧ x = nI (48 + k)
theorem decN_DGS : ∀ (f m : Nat), m < 10 ^ (f + 1) → DGS (decN f m) := by
  intro f
  induction f with
  | zero => intro m h x hx; rw [List.mem_singleton.mp hx]; exact ⟨m % 10, Nat.mod_lt _ (by decide), rfl⟩
  | succ f ih =>
    intro m h x hx
    have hx : x ∈ (if m < 10 then [nI (48 + m)] else decN f (m / 10) ++ [nI (48 + m % 10)]) := hx
    by_cases c : m < 10
    · rw [if_pos c] at hx; rw [List.mem_singleton.mp hx]; exact ⟨m, c, rfl⟩
    · rw [if_neg c] at hx
      rcases List.mem_append.mp hx with hx | hx
      · exact ih (m / 10) (by rw [Nat.pow_succ] at h; omega) x hx
      · rw [List.mem_singleton.mp hx]; exact ⟨m % 10, Nat.mod_lt _ (by decide), rfl⟩
theorem dg_ne {k c : Nat} (hk : k < 10) (hc : c < 48) : ¬ nI (48 + k) = nI c := fun z => by
  have := (nI_eq (a := 48 + k) (b := c) (by omega) (by omega)).mp z; omega
theorem nI_m10 (a k : Nat) : nI a * 10 + nI (48 + k) - 48 = nI (10 * a + k) := by
  have e1 : nI a * 10 = nI (10 * a) := by
    rw [show (10 : Int32) = nI 10 from rfl, pk_mul]; exact congrArg nI (by omega)
  rw [e1, nI_add, show (48 : Int32) = nI 48 from rfl, pk_sub (by omega)]
  exact congrArg nI (by omega)
theorem ldg_app (b : Nat → Int32) : ∀ (a c k : Nat) (v : Int32), ldg b (a + c) k v = (ldg b a k v).bind (fun u => ldg b c (k + a) u) := by
  intro a
  induction a with
  | zero => intro c k v; rw [Nat.zero_add]; rfl
  | succ a ih =>
    intro c k v
    rw [show a + 1 + c = (a + c) + 1 by omega]
    show (if b k < 48 ∨ 57 < b k then none else ldg b (a + c) (k + 1) (v * 10 + b k - 48)) = (if b k < 48 ∨ 57 < b k then none else ldg b a (k + 1) (v * 10 + b k - 48)).bind _
    by_cases q : b k < 48 ∨ 57 < b k
    · rw [if_pos q, if_pos q]; rfl
    · rw [if_neg q, if_neg q, ih, show k + 1 + a = k + (a + 1) by omega]
theorem ldg_1 {b : Nat → Int32} {k a c : Nat} (hc : c < 10) (h : b k = nI (48 + c)) : ldg b 1 k (nI a) = some (nI (10 * a + c)) := by
  show (if b k < 48 ∨ 57 < b k then none else some (nI a * 10 + b k - 48)) = _
  rw [h, nI_m10, if_neg (fun z => ?_)]
  rcases z with z | z
  · exact absurd z (Int32.not_lt.mpr (nI_le (a := 48) (by omega) (by omega)))
  · exact absurd z (Int32.not_lt.mpr (nI_le (b := 57) (by omega) (by omega)))
theorem ldg_dec : ∀ (f m : Nat) (b : Nat → Int32) (p e : Nat), m < 10 ^ (f + 1) → AT b p e (decN f m) → p + (decN f m).length ≤ e → ldg b (decN f m).length p 0 = some (nI m) := by
  intro f
  induction f with
  | zero =>
    intro m b p e h1 h2 h3
    have h1 : m < 10 := h1
    have := h2.hd (by have h3 : p + 1 ≤ e := h3; omega)
    have := ldg_1 (a := 0) (Nat.mod_lt m (by decide : 0 < 10)) this
    rw [Nat.mul_zero, Nat.zero_add, Nat.mod_eq_of_lt h1] at this
    exact this
  | succ f ih =>
    intro m b p e h1 h2 h3
    by_cases c : m < 10
    · have e0 : decN (f + 1) m = [nI (48 + m)] := if_pos c
      rw [e0] at h2 h3 ⊢
      have := ldg_1 (a := 0) c (h2.hd (by have h3 : p + 1 ≤ e := h3; omega))
      rw [Nat.mul_zero, Nat.zero_add] at this
      exact this
    · have e0 : decN (f + 1) m = decN f (m / 10) ++ [nI (48 + m % 10)] := if_neg c
      rw [e0] at h2 h3 ⊢
      rw [List.length_append] at h3 ⊢
      have h3 : p + ((decN f (m / 10)).length + 1) ≤ e := h3
      show ldg b ((decN f (m / 10)).length + 1) p 0 = _
      rw [ldg_app, ih (m / 10) b p e (by rw [Nat.pow_succ] at h1; omega) h2.l (by omega)]
      show ldg b 1 _ (nI (m / 10)) = _
      rw [ldg_1 (Nat.mod_lt m (by decide : 0 < 10)) (h2.r.hd (by omega))]
      exact congrArg (fun z => some (nI z)) (by omega)
theorem lsc_ok {b : Nat → Int32} {p e : Nat} {ds : List Int32} (hd : DGS ds) (hm : ds.length ≤ 12) (h : AT b (p + 1) e (ds ++ [13, 10])) (he : p + ds.length + 3 ≤ e) : ∀ (f i : Nat), i ≤ ds.length → ds.length ≤ f + i → lsc b p e f (p + 1 + i) = p + 1 + ds.length := by
  intro f
  induction f with
  | zero => intro i h1 h2; show p + 1 + i = _; omega
  | succ f ih =>
    intro i h1 h2
    show (if p + 1 + i + 1 < e ∧ p + 1 + i + 1 < p + 16 ∧ ¬ (b (p + 1 + i) = 13 ∧ b (p + 1 + i + 1) = 10) then lsc b p e f (p + 1 + i + 1) else p + 1 + i) = _
    by_cases c : i = ds.length
    · have a1 : b (p + 1 + i) = 13 := h i 13 (by rw [c, List.getElem?_append_right (Nat.le_refl _), Nat.sub_self]; rfl) (by omega)
      have a2 : b (p + 1 + (i + 1)) = 10 := h (i + 1) 10 (by rw [c, List.getElem?_append_right (by omega), show ds.length + 1 - ds.length = 1 by omega]; rfl) (by omega)
      rw [if_neg (fun z => z.2.2 ⟨a1, a2⟩)]; omega
    · obtain ⟨k, hk, ek⟩ := hd (ds[i]'(by omega)) (List.getElem_mem _)
      have a1 : b (p + 1 + i) = nI (48 + k) := by
        rw [← ek]; exact h i _ (by rw [List.getElem?_append_left (by omega)]; exact List.getElem?_eq_getElem (by omega)) (by omega)
      rw [if_pos ⟨by omega, by omega, fun z => dg_ne hk (c := 13) (by decide) (a1.symm.trans z.1)⟩]
      exact ih (i + 1) (by omega) (by omega)
theorem lsc_torn {b : Nat → Int32} {p e : Nat} {ds : List Int32} (hd : DGS ds) (hm : ds.length ≤ 12) (h : AT b (p + 1) e (ds ++ [13, 10])) (he : e < p + ds.length + 3) : ∀ (f i : Nat), ds.length ≤ f + i → e ≤ lsc b p e f (p + 1 + i) + 1 := by
  intro f
  induction f with
  | zero => intro i h2; show e ≤ p + 1 + i + 1; omega
  | succ f ih =>
    intro i h2
    show e ≤ (if p + 1 + i + 1 < e ∧ p + 1 + i + 1 < p + 16 ∧ ¬ (b (p + 1 + i) = 13 ∧ b (p + 1 + i + 1) = 10) then lsc b p e f (p + 1 + i + 1) else p + 1 + i) + 1
    by_cases c : p + 1 + i + 1 < e
    · obtain ⟨k, hk, ek⟩ := hd (ds[i]'(by omega)) (List.getElem_mem _)
      have a1 : b (p + 1 + i) = nI (48 + k) := by
        rw [← ek]; exact h i _ (by rw [List.getElem?_append_left (by omega)]; exact List.getElem?_eq_getElem (by omega)) (by omega)
      rw [if_pos ⟨c, by omega, fun z => dg_ne hk (c := 13) (by decide) (a1.symm.trans z.1)⟩]
      exact ih (i + 1) (by omega)
    · rw [if_neg (fun z => c z.1)]; omega
theorem dec_lN {n : Nat} (hn : n < 1000000) : dec (lN n) = decN 19 n ∧ 1 ≤ (decN 19 n).length ∧ (decN 19 n).length ≤ 6 ∧ DGS (decN 19 n) := by
  refine ⟨?_, (decN_len2 6 19 n (by omega) (by decide)).1, (decN_len2 6 19 n (by omega) (by decide)).2, decN_DGS 19 n (by omega)⟩
  have t : (lN n).toInt = (n : Int) := by rw [lN_zi]; exact zi_toInt (by omega) (by omega)
  unfold dec
  have hn0 : ¬ lN n < 0 := fun z => by
    have := Int64.lt_iff_toInt_lt.mp z
    have e0 : (0 : Int64).toInt = 0 := by decide
    rw [t, e0] at this; omega
  rw [if_neg hn0]
  show decN 19 (mg (lN n)) = _
  unfold mg
  rw [t]
  exact congrArg (decN 19) (by omega)
theorem ln_ok {b : Nat → Int32} {p e n : Nat} {c : Int32} (hn : n < 1000000) (h : AT b p e (c :: dec (lN n) ++ [13, 10])) (he : p + (dec (lN n)).length + 3 ≤ e) : lnF b p e = some (some (nI n, p + (dec (lN n)).length + 3)) := by
  obtain ⟨e1, l1, l2, hd⟩ := dec_lN hn
  rw [e1] at h he ⊢
  have h1 : AT b (p + 1) e (decN 19 n ++ [13, 10]) := AT.tl h
  have q : lsc b p e 16 (p + 1) = p + 1 + (decN 19 n).length := lsc_ok hd (by omega) h1 he 16 0 (Nat.zero_le _) (by omega)
  unfold lnF
  rw [q, if_pos ⟨by omega, by omega⟩]
  have s : ¬ lnS b p (p + 1 + (decN 19 n).length) = true := by
    unfold lnS
    refine fun z => ?_
    have z := (of_decide_eq_true z).2
    obtain ⟨k, hk, ek⟩ := hd ((decN 19 n)[0]'(by omega)) (List.getElem_mem _)
    have a1 : b (p + 1 + 0) = nI (48 + k) := by
      rw [← ek]; exact h1 0 _ (by rw [List.getElem?_append_left (by omega)]; exact List.getElem?_eq_getElem (by omega)) (by omega)
    exact dg_ne hk (c := 45) (by decide) (a1.symm.trans z)
  have v : lnV b p (p + 1 + (decN 19 n).length) = some (nI n) := by
    unfold lnV
    rw [if_neg s, if_neg (by omega), show p + 1 + (decN 19 n).length - (p + 1) = (decN 19 n).length by omega, ldg_dec 19 n b (p + 1) e (by omega) h1.l (by omega)]
    show some (if lnS b p (p + 1 + (decN 19 n).length) = true then -nI n else nI n) = _
    rw [if_neg s]
  rw [v]
  show some (some (nI n, p + 1 + (decN 19 n).length + 2)) = _
  rw [show p + 1 + (decN 19 n).length + 2 = p + (decN 19 n).length + 3 by omega]
theorem ln_torn {b : Nat → Int32} {p e n : Nat} {c : Int32} (hn : n < 1000000) (h : AT b p e (c :: dec (lN n) ++ [13, 10])) (he : e < p + (dec (lN n)).length + 3) : lnF b p e = none := by
  obtain ⟨e1, l1, l2, hd⟩ := dec_lN hn
  rw [e1] at h he
  have h1 : AT b (p + 1) e (decN 19 n ++ [13, 10]) := AT.tl h
  have q : e ≤ lsc b p e 16 (p + 1) + 1 := lsc_torn hd (by omega) h1 he 16 0 (by omega)
  unfold lnF
  rw [if_neg (fun z => by omega), if_neg (by omega)]
theorem wordL_l (w : List Int32) : (wordL w).length = (dec (lN w.length)).length + w.length + 5 := by
  unfold wordL; simp only [List.length_append, List.length_cons, List.length_nil]; omega
theorem AT.word {b : Nat → Int32} {p e : Nat} {w : List Int32} (h : AT b p e (wordL w)) : AT b p e (36 :: dec (lN w.length) ++ [13, 10]) ∧ AT b (p + (dec (lN w.length)).length + 3) e w ∧ AT b (p + (dec (lN w.length)).length + 3 + w.length) e [13, 10] := by
  unfold wordL at h
  have l : (36 :: dec (lN w.length) ++ [13, 10]).length = (dec (lN w.length)).length + 3 := by
    simp only [List.length_append, List.length_cons, List.length_nil]
  refine ⟨h.l.l, ?_, ?_⟩
  · have := h.l.r; rw [l, ← Nat.add_assoc] at this; exact this
  · have := h.r
    rw [List.length_append, l, ← Nat.add_assoc, ← Nat.add_assoc] at this; exact this
theorem swd_ok {b : Nat → Int32} {p e m : Nat} {w : List Int32} (hw : w.length ≤ 16384) (h : AT b p e (wordL w)) (he : p + (wordL w).length ≤ e) : swdF b e (m + 1) p = mz (swdF b e m (p + (wordL w).length)) (fun r => some (some (w :: r.1, r.2))) := by
  obtain ⟨h1, h2, h3⟩ := h.word
  rw [wordL_l] at he ⊢
  have c1 : (nI w.length).toNatClampNeg = w.length := nI_clamp (by omega)
  have ln := ln_ok (n := w.length) (by omega) h1 (by omega)
  have a1 : b (p + (dec (lN w.length)).length + 3 + w.length) = 13 := h3.hd (by omega)
  have a2 : b (p + (dec (lN w.length)).length + 3 + w.length + 1) = 10 := h3.tl.hd (by omega)
  show (if e ≤ p then none else if ¬ b p = 36 then some none else mz (lnF b p e) _) = _
  rw [if_neg (by omega), if_neg (fun z => z (h1.hd (by omega))), ln, mz_z]
  show (if nI w.length < 0 ∨ 16384 < nI w.length then some none else if (p + (dec (lN w.length)).length + 3 + (nI w.length).toNatClampNeg < e ∧ ¬ b (p + (dec (lN w.length)).length + 3 + (nI w.length).toNatClampNeg) = 13) ∨ (p + (dec (lN w.length)).length + 3 + (nI w.length).toNatClampNeg + 1 < e ∧ ¬ b (p + (dec (lN w.length)).length + 3 + (nI w.length).toNatClampNeg + 1) = 10) then some none else if e < p + (dec (lN w.length)).length + 3 + (nI w.length).toNatClampNeg + 2 then none else mz (swdF b e m (p + (dec (lN w.length)).length + 3 + (nI w.length).toNatClampNeg + 2)) (fun r => some (some (wd b (p + (dec (lN w.length)).length + 3) (nI w.length).toNatClampNeg :: r.1, r.2)))) = _
  have n1 : ¬ (nI w.length < 0 ∨ 16384 < nI w.length) := fun z => by
    rcases z with z | z
    · exact absurd z (nI_n0 (by omega))
    · exact absurd z (Int32.not_lt.mpr (nI_le (b := 16384) hw (by decide)))
  rw [c1, if_neg n1, if_neg (fun z => z.elim (fun z => z.2 a1) (fun z => z.2 a2)), if_neg (by omega), h2.wd (by omega), show p + (dec (lN w.length)).length + 3 + w.length + 2 = p + ((dec (lN w.length)).length + w.length + 5) by omega]
theorem swd_torn {b : Nat → Int32} {p e m : Nat} {w : List Int32} (hw : w.length ≤ 16384) (h : AT b p e (wordL w)) (he : e < p + (wordL w).length) : swdF b e (m + 1) p = none := by
  obtain ⟨h1, h2, h3⟩ := h.word
  rw [wordL_l] at he
  have c1 : (nI w.length).toNatClampNeg = w.length := nI_clamp (by omega)
  show (if e ≤ p then none else if ¬ b p = 36 then some none else mz (lnF b p e) _) = _
  by_cases c : e ≤ p
  · rw [if_pos c]
  · rw [if_neg c, if_neg (fun z => z (h1.hd (by omega)))]
    by_cases q : e < p + (dec (lN w.length)).length + 3
    · rw [ln_torn (n := w.length) (by omega) h1 q]; rfl
    · rw [ln_ok (n := w.length) (by omega) h1 (by omega), mz_z]
      show (if nI w.length < 0 ∨ 16384 < nI w.length then some none else if (p + (dec (lN w.length)).length + 3 + (nI w.length).toNatClampNeg < e ∧ ¬ b (p + (dec (lN w.length)).length + 3 + (nI w.length).toNatClampNeg) = 13) ∨ (p + (dec (lN w.length)).length + 3 + (nI w.length).toNatClampNeg + 1 < e ∧ ¬ b (p + (dec (lN w.length)).length + 3 + (nI w.length).toNatClampNeg + 1) = 10) then some none else if e < p + (dec (lN w.length)).length + 3 + (nI w.length).toNatClampNeg + 2 then none else mz (swdF b e m (p + (dec (lN w.length)).length + 3 + (nI w.length).toNatClampNeg + 2)) (fun r => some (some (wd b (p + (dec (lN w.length)).length + 3) (nI w.length).toNatClampNeg :: r.1, r.2)))) = _
      have n1 : ¬ (nI w.length < 0 ∨ 16384 < nI w.length) := fun z => by
        rcases z with z | z
        · exact absurd z (nI_n0 (by omega))
        · exact absurd z (Int32.not_lt.mpr (nI_le (b := 16384) hw (by decide)))
      rw [c1, if_neg n1, if_neg (fun z => z.elim (fun z => z.2 (h3.hd z.1)) (fun z => by omega)), if_pos (by omega)]
theorem wordsL_cons (w : List Int32) (r : Req) : wordsL (w :: r) = wordL w ++ wordsL r := by unfold wordsL; rw [List.flatMap_cons]
theorem sws_ok {b : Nat → Int32} {e : Nat} : ∀ (ws : Req) (p : Nat), (∀ w ∈ ws, w.length ≤ 16384) → AT b p e (wordsL ws) → p + (wordsL ws).length ≤ e → swdF b e ws.length p = some (some (ws, p + (wordsL ws).length)) := by
  intro ws
  induction ws with
  | nil => intro p _ _ _; rfl
  | cons w r ih =>
    intro p hw h he
    rw [wordsL_cons] at h he ⊢
    rw [List.length_append] at he
    show swdF b e (r.length + 1) p = _
    rw [swd_ok (hw w List.mem_cons_self) h.l (by omega), ih _ (fun v hv => hw v (List.mem_cons_of_mem _ hv)) h.r (by omega), mz_z, List.length_append, Nat.add_assoc]
theorem sws_torn {b : Nat → Int32} {e : Nat} : ∀ (ws : Req) (p : Nat), (∀ w ∈ ws, w.length ≤ 16384) → AT b p e (wordsL ws) → e < p + (wordsL ws).length → p ≤ e → swdF b e ws.length p = none := by
  intro ws
  induction ws with
  | nil => intro p _ _ h1 h2; have h1 : e < p + 0 := h1; omega
  | cons w r ih =>
    intro p hw h he hp
    rw [wordsL_cons] at h he
    rw [List.length_append] at he
    show swdF b e (r.length + 1) p = _
    by_cases c : e < p + (wordL w).length
    · exact swd_torn (hw w List.mem_cons_self) h.l c
    · rw [swd_ok (hw w List.mem_cons_self) h.l (by omega), ih _ (fun v hv => hw v (List.mem_cons_of_mem _ hv)) h.r (by omega) (by omega)]; rfl
theorem slk_ws {b : Nat → Int32} {e : Nat} : ∀ (ws : Req) (p rs : Nat), (∀ w ∈ ws, w.length ≤ 16384) → AT b p e (wordsL ws) → rs + sl ws ≤ 131200 → SLK b e ws.length p rs := by
  intro ws
  induction ws with
  | nil => intro p rs _ _ _; exact trivial
  | cons w r ih =>
    intro p rs hw h hs
    rw [wordsL_cons] at h
    have hs : rs + (w.length + sl r) ≤ 131200 := hs
    have hw1 := hw w List.mem_cons_self
    obtain ⟨h1, h2, h3⟩ := h.l.word
    intro z hz g1 g2 g3
    by_cases q : e < p + (dec (lN w.length)).length + 3
    · rw [ln_torn (n := w.length) (by omega) h1 q] at hz; cases hz
    · rw [ln_ok (n := w.length) (by omega) h1 (by omega)] at hz
      cases hz
      have c1 : (nI w.length).toNatClampNeg = w.length := nI_clamp (by omega)
      show rs + (nI w.length).toNatClampNeg ≤ 131200 ∧ SLK b e r.length (p + (dec (lN w.length)).length + 3 + (nI w.length).toNatClampNeg + 2) (rs + (nI w.length).toNatClampNeg)
      rw [c1, show p + (dec (lN w.length)).length + 3 + w.length + 2 = p + (wordL w).length by rw [wordL_l]; omega]
      exact ⟨by omega, ih _ _ (fun v hv => hw v (List.mem_cons_of_mem _ hv)) h.r (by omega)⟩
theorem encR_l (q : Req) : (encR q).length = (dec (lN q.length)).length + 3 + (wordsL q).length := by
  unfold encR; simp only [List.length_append, List.length_cons, List.length_nil]
theorem AT.enc {b : Nat → Int32} {p e : Nat} {q : Req} (h : AT b p e (encR q)) : AT b p e (42 :: dec (lN q.length) ++ [13, 10]) ∧ AT b (p + (dec (lN q.length)).length + 3) e (wordsL q) := by
  unfold encR at h
  have l : (42 :: dec (lN q.length) ++ [13, 10]).length = (dec (lN q.length)).length + 3 := by
    simp only [List.length_append, List.length_cons, List.length_nil]
  refine ⟨h.l, ?_⟩
  have := h.r; rw [l, ← Nat.add_assoc] at this; exact this
theorem star_at {b : Nat → Int32} {p e : Nat} {q : Req} (hq : q.length ≤ 1024) {z : Int32 × Nat} (hz : z = (nI q.length, p + (dec (lN q.length)).length + 3)) : ¬ (1024 < z.1) ∧ (if z.1 < 0 then 0 else z.1.toNatClampNeg) = q.length := by
  subst hz
  have c1 : (nI q.length).toNatClampNeg = q.length := nI_clamp (by omega)
  refine ⟨Int32.not_lt.mpr (nI_le (b := 1024) hq (by decide)), ?_⟩
  show (if nI q.length < 0 then 0 else (nI q.length).toNatClampNeg) = _
  rw [if_neg (nI_n0 (by omega)), c1]
theorem star_ok {b : Nat → Int32} {p e : Nat} {q : Req} (hq : q.length ≤ 1024) (hw : ∀ w ∈ q, w.length ≤ 16384) (h : AT b p e (encR q)) (he : p + (encR q).length ≤ e) : starF b p e = some (some (q, p + (encR q).length)) := by
  obtain ⟨h1, h2⟩ := h.enc
  rw [encR_l] at he ⊢
  obtain ⟨k1, k2⟩ := star_at (b := b) (p := p) (e := e) hq rfl
  unfold starF
  rw [ln_ok (n := q.length) (by omega) h1 (by omega), mz_z, if_neg k1, k2]
  show swdF b e q.length (p + (dec (lN q.length)).length + 3) = _
  rw [sws_ok q _ hw h2 (by omega)]
  exact congrArg (fun z => some (some (q, z))) (by omega)
theorem star_torn {b : Nat → Int32} {p e : Nat} {q : Req} (hq : q.length ≤ 1024) (hw : ∀ w ∈ q, w.length ≤ 16384) (h : AT b p e (encR q)) (he : e < p + (encR q).length) : starF b p e = none := by
  obtain ⟨h1, h2⟩ := h.enc
  rw [encR_l] at he
  obtain ⟨k1, k2⟩ := star_at (b := b) (p := p) (e := e) hq rfl
  unfold starF
  by_cases c : e < p + (dec (lN q.length)).length + 3
  · rw [ln_torn (n := q.length) (by omega) h1 c]; rfl
  · rw [ln_ok (n := q.length) (by omega) h1 (by omega), mz_z, if_neg k1, k2]
    exact sws_torn q _ hw h2 (by omega) (by omega)
theorem star_slk {b : Nat → Int32} {p e : Nat} {q : Req} (hq : q.length ≤ 1024) (hw : ∀ w ∈ q, w.length ≤ 16384) (hs : sl q ≤ 131200) (h : AT b p e (encR q)) : ∀ z, lnF b p e = some (some z) → ¬ 1024 < z.1 → SLK b e (if z.1 < 0 then 0 else z.1.toNatClampNeg) z.2 0 := by
  obtain ⟨h1, h2⟩ := h.enc
  intro z hz g
  by_cases c : e < p + (dec (lN q.length)).length + 3
  · rw [ln_torn (n := q.length) (by omega) h1 c] at hz; cases hz
  · rw [ln_ok (n := q.length) (by omega) h1 (by omega)] at hz
    have hz := (Option.some.inj (Option.some.inj hz)).symm
    rw [(star_at (b := b) (p := p) (e := e) hq hz).2, hz]
    exact slk_ws q _ 0 hw h2 (by omega)
end PARSE2
