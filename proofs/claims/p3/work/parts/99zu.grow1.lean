/-! What the commands keep: removals, times, texts. -/
section GROW1
theorem pop_sub {α : Type} (i : Nat) : ∀ (j : Nat) (es : List α), (popE i j es).Sublist es := by
  intro j
  induction j with
  | zero => intro es; exact List.Sublist.refl _
  | succ j ih =>
    intro es
    show (popE i j (if i = 42 then es.dropLast else es.tail)).Sublist es
    refine (ih _).trans ?_
    by_cases c : i = 42
    · rw [if_pos c]; exact List.dropLast_sublist es
    · rw [if_neg c]; exact List.tail_sublist es
theorem lrE_sub (n : Int64) (piv : List Int32) : ∀ (es : List AE) (left : Int64), (lrE n piv left es).Sublist es := by
  intro es
  induction es with
  | nil => intro left; exact List.Sublist.refl _
  | cons z r ih =>
    intro left
    show (if n = 0 ∨ left < 0 then (if cmpW z.1 piv = 0 then lrE n piv (left + 1) r else z :: lrE n piv left r) else z :: r).Sublist (z :: r)
    by_cases c : n = 0 ∨ left < 0
    · rw [if_pos c]
      by_cases e : cmpW z.1 piv = 0
      · rw [if_pos e]; exact (ih _).cons _
      · rw [if_neg e]; exact (ih _).cons_cons _
    · rw [if_neg c]; exact List.Sublist.refl _
theorem lrG_sub (n : Int64) (piv : List Int32) (es : List AE) : (lrG n piv es).Sublist es := by
  unfold lrG
  by_cases c : n < 0
  · rw [if_pos c]
    have := (lrE_sub n piv es.reverse n).reverse
    rw [List.reverse_reverse] at this; exact this
  · rw [if_neg c]; exact lrE_sub _ _ _ _
theorem ELS_0 : ELS 0 [] := by
  unfold ELS
  exact ⟨fun z hz => (by cases hz), fun _ => rfl, fun h => absurd h (by decide), fun h => absurd h (by decide), fun h => absurd h (by decide), fun h => absurd h (by decide)⟩
theorem rmE_sub : ∀ (es : List AE) (i : Nat), (rmE i es).Sublist es := by
  intro es
  induction es with
  | nil => intro i; unfold rmE; exact List.Sublist.refl _
  | cons z r ih =>
    intro i
    cases i with
    | zero => exact (List.Sublist.refl r).cons z
    | succ i => exact (ih i).cons_cons z
theorem rvE_sub (i1 : Nat) (v : List Int32) (es : List AE) : (rvE i1 v es).Sublist es := by
  unfold rvE
  cases rvI i1 v es with
  | none => exact List.Sublist.refl _
  | some i => exact rmE_sub es i
theorem rvA_sub (i1 : Nat) : ∀ (r : List (List Int32)) (es : List AE), (rvA i1 es r).Sublist es := by
  intro r
  induction r with
  | nil => intro es; exact List.Sublist.refl _
  | cons v r ih => intro es; exact (ih _).trans (rvE_sub i1 v es)
theorem zcE_sub (T : Nat → AE → Bool) : ∀ (es : List AE) (i : Nat), (zcE T i es).Sublist es := by
  intro es
  induction es with
  | nil => intro i; exact List.Sublist.refl _
  | cons z r ih =>
    intro i
    show (if T i z = true then zcE T (i + 1) r else z :: zcE T (i + 1) r).Sublist (z :: r)
    by_cases c : T i z = true
    · rw [if_pos c]; exact (ih _).cons _
    · rw [if_neg c]; exact (ih _).cons_cons _
def G0e (A A' : List AK) : Prop := IA A' ∧ MS A A' 0 0 0 0 0
theorem g_pop {A A' : List AK} {w : List Int32} {i N : Nat} (hA : IA A) (h : popF A w i N = some A') : G0e A A' := by
  unfold popF at h
  cases e : kyI A w with
  | none => rw [e] at h; cases h
  | some p =>
    rw [e] at h
    obtain ⟨a, ha, -⟩ := kyI_get e
    have h : (match A[p]? with | some a => if min N a.2.2.2.2.2.length = 0 then none else some (stlA A p (popE i (min N a.2.2.2.2.2.length))) | none => none) = some A' := h
    rw [ha] at h
    have h : (if min N a.2.2.2.2.2.length = 0 then none else some (stlA A p (popE i (min N a.2.2.2.2.2.length)))) = some A' := h
    by_cases c : min N a.2.2.2.2.2.length = 0
    · rw [if_pos c] at h; cases h
    · rw [if_neg c] at h; cases h; exact stU hA (fun b _ => pop_sub _ _ _)
theorem g_zpop {A A' : List AK} {w : List Int32} {i N : Nat} (hA : IA A) (h : zpF A w i N = some A') : G0e A A' := by
  unfold zpF at h
  cases e : kyI A w with
  | none => rw [e] at h; cases h
  | some p =>
    rw [e] at h
    obtain ⟨a, ha, -⟩ := kyI_get e
    have h : (match A[p]? with | some a => if min N a.2.2.2.2.2.length = 0 then none else some (stlA A p (popE (if i = 93 then 42 else 41) (min N a.2.2.2.2.2.length))) | none => none) = some A' := h
    rw [ha] at h
    have h : (if min N a.2.2.2.2.2.length = 0 then none else some (stlA A p (popE (if i = 93 then 42 else 41) (min N a.2.2.2.2.2.length)))) = some A' := h
    by_cases c : min N a.2.2.2.2.2.length = 0
    · rw [if_pos c] at h; cases h
    · rw [if_neg c] at h; cases h; exact stU hA (fun b _ => pop_sub _ _ _)
theorem g_trim {A A' : List AK} {w : List Int32} {i j : Int64} (hA : IA A) (h : trF A w i j = some A') : G0e A A' := by
  unfold trF at h
  cases e : kyI A w with
  | none => rw [e] at h; cases h
  | some p =>
    rw [e] at h
    have h : (if (strF i j (mnA A w)).2 - (strF i j (mnA A w)).1 < mnA A w then some (stlA A p (fun es => popE 41 (strF i j (mnA A w)).1 (popE 42 (mnA A w - (strF i j (mnA A w)).2) es))) else none) = some A' := h
    by_cases c : (strF i j (mnA A w)).2 - (strF i j (mnA A w)).1 < mnA A w
    · rw [if_pos c] at h; cases h; exact stU hA (fun b _ => (pop_sub _ _ _).trans (pop_sub _ _ _))
    · rw [if_neg c] at h; cases h
theorem g_lrem {A A' : List AK} {w piv : List Int32} {n : Int64} (hA : IA A) (h : lrF A w n piv = some A') : G0e A A' := by
  unfold lrF at h
  cases e : kyI A w with
  | none => rw [e] at h; cases h
  | some p =>
    rw [e] at h
    obtain ⟨a, ha, -⟩ := kyI_get e
    have h : (match A[p]? with | none => none | some a => if (lrG n piv a.2.2.2.2.2).length = a.2.2.2.2.2.length then none else some (stlA A p (lrG n piv))) = some A' := h
    rw [ha] at h
    have h : (if (lrG n piv a.2.2.2.2.2).length = a.2.2.2.2.2.length then none else some (stlA A p (lrG n piv))) = some A' := h
    by_cases c : (lrG n piv a.2.2.2.2.2).length = a.2.2.2.2.2.length
    · rw [if_pos c] at h; cases h
    · rw [if_neg c] at h; cases h; exact stU hA (fun b _ => lrG_sub _ _ _)
theorem g_rem {A A' : List AK} {w : List Int32} {i1 : Nat} {vs : List (List Int32)} (hA : IA A) (h : rvF A w i1 vs = some A') : G0e A A' := by
  unfold rvF at h
  cases e : kyI A w with
  | none => rw [e] at h; cases h
  | some p =>
    rw [e] at h
    obtain ⟨a, ha, -⟩ := kyI_get e
    have h : (match A[p]? with | none => none | some a => if rvN i1 a.2.2.2.2.2 vs = 0 then none else some (stlA A p (fun es => rvA i1 es vs))) = some A' := h
    rw [ha] at h
    have h : (if rvN i1 a.2.2.2.2.2 vs = 0 then none else some (stlA A p (fun es => rvA i1 es vs))) = some A' := h
    by_cases c : rvN i1 a.2.2.2.2.2 vs = 0
    · rw [if_pos c] at h; cases h
    · rw [if_neg c] at h; cases h; exact stU hA (fun b _ => rvA_sub _ _ _)
theorem g_spop {A A' : List AK} {w : List Int32} (hA : IA A) (h : spF A w = some A') : G0e A A' := by
  unfold spF at h
  cases e : kyI A w with
  | none => rw [e] at h; cases h
  | some p => rw [e] at h; cases h; exact stU hA (fun b _ => List.tail_sublist _)
theorem g_zcut {A A' : List AK} {w : List Int32} {i1 : Nat} {i j : Int64} {no : Int32} {lo hi : Int64} (hA : IA A) (h : zcF A w i1 i j no lo hi = some A') : G0e A A' := by
  unfold zcF at h
  cases e : kyI A w with
  | none => rw [e] at h; cases h
  | some p =>
    rw [e] at h
    obtain ⟨a, ha, -⟩ := kyI_get e
    generalize zcT i1 (strF i j (mnA A w)).1 (strF i j (mnA A w)).2 no lo hi = T at h
    have h : (match A[p]? with | none => none | some a => if i1 = 89 ∨ zcN T 0 a.2.2.2.2.2 = 0 then none else some (stlA A p (zcE T 0))) = some A' := h
    rw [ha] at h
    have h : (if i1 = 89 ∨ zcN T 0 a.2.2.2.2.2 = 0 then none else some (stlA A p (zcE T 0))) = some A' := h
    by_cases c : i1 = 89 ∨ zcN T 0 a.2.2.2.2.2 = 0
    · rw [if_pos c] at h; cases h
    · rw [if_neg c] at h; cases h; exact stU hA (fun b _ => zcE_sub _ _ _)
theorem g_delA {A : List AK} {w : List Int32} (hA : IA A) : G0e A (delA A w) := by
  unfold delA
  cases kyI A w with
  | none => exact ⟨hA, MS.rf⟩
  | some p => exact rmU hA
theorem g_dlA : ∀ (r : List (List Int32)) {A : List AK}, IA A → G0e A (dlA A r) := by
  intro r
  induction r with
  | nil => intro A hA; exact ⟨hA, MS.rf⟩
  | cons w r ih =>
    intro A hA
    obtain ⟨h1, h2⟩ := g_delA (w := w) hA
    obtain ⟨h3, h4⟩ := ih h1
    exact ⟨h3, (h2.tr h4).up (Nat.le_refl _) (Nat.le_refl _) (Nat.le_refl _) (Nat.le_refl _) (Nat.le_refl _)⟩
theorem g_del {A A' : List AK} {r : List (List Int32)} (hA : IA A) (h : delF A r = some A') : G0e A A' := by
  unfold delF at h
  by_cases c : dlN A r = 0
  · rw [if_pos c] at h; cases h
  · rw [if_neg c] at h; cases h; exact g_dlA r hA
theorem IA_nil : IA [] := ⟨fun i j h1 h2 => absurd h2 (Nat.not_lt_zero j), fun a ha => by cases ha⟩
theorem g_fl {A A' : List AK} (h : flF A = some A') : G0e A A' := by
  unfold flF at h
  cases A with
  | nil => cases h
  | cons a r => cases h; exact ⟨IA_nil, ⟨Nat.zero_le _, Nat.zero_le _, Nat.zero_le _, Nat.zero_le _, Nat.zero_le _⟩, fun X _ b hb => by cases hb⟩
theorem g_pe {A A' : List AK} {w : List Int32} (hA : IA A) (h : peF A w = some A') : G0e A A' := by
  unfold peF at h
  cases e : kyI A w with
  | none => rw [e] at h; cases h
  | some p =>
    rw [e] at h
    obtain ⟨a, ha, -⟩ := kyI_get e
    have h : (match A[p]? with | none => none | some a => if a.2.2.1 = 0 then none else some (upA A p untF)) = some A' := h
    rw [ha] at h
    have h : (if a.2.2.1 = 0 then none else some (upA A p untF)) = some A' := h
    by_cases c : a.2.2.1 = 0
    · rw [if_pos c] at h; cases h
    · rw [if_neg c] at h; cases h
      obtain ⟨h1, h2, h3, h4, h5, h6⟩ := hA.2 a (List.mem_of_getElem? ha)
      exact upU hA ha rfl ⟨⟨h1, h2, h3, h4, Or.inl ⟨rfl, rfl⟩, h6⟩, Nat.le_refl _, Nat.le_refl _, Nat.le_refl _⟩
theorem ge1 {t now : Int64} (hn : 0 ≤ now) (h : ¬ t ≤ now) : 1 ≤ t := by
  have a := Int64.le_iff_toInt_le.mp hn
  have b : ¬ t.toInt ≤ now.toInt := fun z => h (Int64.le_iff_toInt_le.mpr z)
  have e0 : (0 : Int64).toInt = 0 := by decide
  have e1 : (1 : Int64).toInt = 1 := by decide
  exact Int64.le_iff_toInt_le.mpr (by omega)
theorem g_ei {A A' : List AK} {w : List Int32} {t now : Int64} {rp : Bool} {j : Nat} {as : List (List Int32)} (hA : IA A) (hn : 0 ≤ now) (hrp : rp = false) (h2 : t ≤ LAT) (h : eiF t now rp A w = some (A', j, as)) : G0e A A' := by
  unfold eiF at h
  cases e : kyI A w with
  | none => rw [e] at h; cases h
  | some p =>
    rw [e] at h
    obtain ⟨a, ha, -⟩ := kyI_get e
    have h : (if t ≤ now ∧ rp = false then some (rmA A p, 22, [w]) else some (upA A p (exF t), 33, [w, dec t])) = some (A', j, as) := h
    by_cases c : t ≤ now ∧ rp = false
    · rw [if_pos c] at h; cases h; exact rmU hA
    · rw [if_neg c] at h; cases h
      obtain ⟨g1, g2, g3, g4, g5, g6⟩ := hA.2 a (List.mem_of_getElem? ha)
      exact upU hA ha rfl ⟨⟨g1, g2, g3, g4, Or.inr ⟨rfl, ge1 hn (fun z => c ⟨z, hrp⟩), h2⟩, g6⟩, Nat.le_refl _, Nat.le_refl _, Nat.le_refl _⟩
theorem tiR_ok {f : Bool} {m : Nat} {now : Int64} {v : List Int32} {t : Int64} (h : tiR f m now v = some t) : LAN ≤ t ∧ t ≤ LAT := by
  unfold tiR at h
  cases e : intF v with
  | none => rw [e] at h; cases h
  | some n =>
    rw [e] at h
    have h : (if (f = true ∧ n < 1) ∨ tmB n now m = false then none else some (tmV n now m)) = some t := h
    by_cases c : (f = true ∧ n < 1) ∨ tmB n now m = false
    · rw [if_pos c] at h; cases h
    · rw [if_neg c] at h; cases h
      have : tmB n now m = true := by cases z : tmB n now m with | true => rfl | false => exact absurd (Or.inr z) c
      have := of_decide_eq_true this
      exact ⟨this.2.2.2, this.2.2.1⟩
/-- the sort of the key, where it is there -/
theorem kA_so {A : List AK} {w : List Int32} {s : Int32} {a : AK} (hs : soT A w s = true) (h : kA A w s a) : a.2.1 = s := by
  rcases h with ⟨_, rfl⟩ | ⟨p, h1, h2⟩
  · rfl
  · exact soT_ne hs h1 h2
theorem kA_ok {A : List AK} {w : List Int32} {s : Int32} {a : AK} (hA : IA A) (h : kA A w s a) : a = (w, s, 0, 0, [], []) ∨ AOK a := by
  rcases h with ⟨_, h⟩ | ⟨p, h1, h2⟩
  · exact Or.inl h
  · exact Or.inr (hA.2 a (List.mem_of_getElem? h2))
theorem g_put {A : List AK} {w t : List Int32} (hA : IA A) (hs : soT A w 0 = true) (hw : WOK w) (ht : t.length ≤ 16384) : IA (putA A w t) ∧ MS A (putA A w t) 1 (w.length + 16384) 0 (64 + w.length + 16384) w.length := by
  unfold putA
  refine mkU (x1 := 16384) (x2 := 0) (x3 := 16384) hA (fun _ => rfl) (fun a ka => ?_)
  have es := kA_so hs ka
  have hel : a.2.2.2.2.2 = [] := by
    rcases kA_ok hA ka with rfl | ok
    · rfl
    · exact ok.2.2.1.2.1 es
  refine ⟨?_, ?_, Nat.le_refl _, ?_⟩
  · rcases kA_ok hA ka with rfl | ok
    · exact ⟨hw, ht, ELS_0, fun h => absurd rfl h, Or.inl ⟨rfl, rfl⟩, Or.inl rfl⟩
    · obtain ⟨g1, g2, g3, g4, g5, g6⟩ := ok
      exact ⟨g1, ht, g3, fun h => absurd es h, g5, g6⟩
  · show a.1.length + t.length + eT a.2.2.2.2.2 ≤ a.1.length + a.2.2.2.2.1.length + eT a.2.2.2.2.2 + 16384; omega
  · show 64 + a.1.length + t.length + memW a.2.1 * a.2.2.2.2.2.length + eT a.2.2.2.2.2 ≤ 64 + a.1.length + a.2.2.2.2.1.length + memW a.2.1 * a.2.2.2.2.2.length + eT a.2.2.2.2.2 + 16384; omega
theorem g_ap {A A' : List AK} {w v : List Int32} (hA : IA A) (hs : soT A w 0 = true) (hw : WOK w) (h : apF A w v = some A') : IA A' ∧ MS A A' 1 (w.length + 16384) 0 (64 + w.length + 16384) w.length := by
  unfold apF at h
  by_cases c : (txA A w).length + v.length ≤ 16384
  · rw [if_pos c] at h; cases h; exact g_put hA hs hw (by rw [List.length_append]; exact c)
  · rw [if_neg c] at h; cases h
theorem padT_mx (t : List Int32) (e : Nat) : (padT t e).length = max t.length e := by
  unfold padT; rw [List.length_append, List.length_replicate]; omega
theorem g_sr {A A' : List AK} {w v : List Int32} {n : Nat} (hA : IA A) (hs : soT A w 0 = true) (hw : WOK w) (h : srF A w v n = some A') : IA A' ∧ MS A A' 1 (w.length + 16384) 0 (64 + w.length + 16384) w.length := by
  unfold srF at h
  by_cases c0 : v = []
  · rw [if_pos c0] at h; cases h
  · rw [if_neg c0] at h
    by_cases c : n + v.length ≤ 16384
    · rw [if_pos c] at h; cases h
      refine g_put hA hs hw ?_
      have hx := hA.tx w
      unfold ovwT
      have := padT_mx (txA A w) (n + v.length)
      rw [List.length_append, List.length_append, List.length_take, List.length_drop]
      omega
    · rw [if_neg c] at h; cases h
theorem g_ic {A A' : List AK} {w : List Int32} {i : Nat} {n : Int64} (hA : IA A) (hs : soT A w 0 = true) (hw : WOK w) (h : icF A w i n = some A') : IA A' ∧ MS A A' 1 (w.length + 16384) 0 (64 + w.length + 16384) w.length := by
  unfold icF at h
  cases e : vlA A w with
  | none => rw [e] at h; cases h
  | some v =>
    rw [e] at h
    have h : (if beyI i v (byI i n) = 0 then some (putA A w (dec (sumI i v (byI i n)))) else none) = some A' := h
    by_cases c : beyI i v (byI i n) = 0
    · rw [if_pos c] at h; cases h
      have := dec_len (sumI i v (byI i n))
      exact g_put hA hs hw (by omega)
    · rw [if_neg c] at h; cases h
theorem g_sb {A A' : List AK} {w : List Int32} {n : Nat} {n2 : Int64} (hA : IA A) (hs : soT A w 0 = true) (hw : WOK w) (hn : n ≤ 131071) (h : sbF A w n n2 = some A') : IA A' ∧ MS A A' 1 (w.length + 16384) 0 (64 + w.length + 16384) w.length := by
  unfold sbF at h
  cases h
  refine g_put hA hs hw ?_
  have hx := hA.tx w
  have := padT_mx (txA A w) (n / 8 + 1)
  rw [List.length_set]; omega
theorem g_st {A : List AK} {w v : List Int32} {keep timed : Int32} {t : Int64} (hA : IA A) (hw : WOK w) (hv : v.length ≤ 16384) (ht : timed = 0 ∨ (1 ≤ t ∧ t ≤ LAT)) : IA (stA A w v keep timed t) ∧ MS A (stA A w v keep timed t) 1 (w.length + v.length) 0 (64 + w.length + v.length) w.length := by
  unfold stA setA
  rw [upA_upA]
  refine mkU (x1 := v.length) (x2 := 0) (x3 := v.length) hA (fun _ => rfl) (fun a ka => ?_) (fun a h => absurd (show (0 : Int32) = 4 from h) (by decide))
  refine ⟨?_, ?_, Nat.zero_le _, ?_⟩
  · have hN : WOK a.1 ∧ TOK a.2.2.1 a.2.2.2.1 := by
      rcases kA_ok hA ka with rfl | ok
      · exact ⟨hw, Or.inl ⟨rfl, rfl⟩⟩
      · exact ⟨ok.1, ok.2.2.2.2.1⟩
    refine ⟨hN.1, hv, ELS_0, fun h => absurd rfl h, ?_, Or.inl rfl⟩
    show TOK (if timed = 0 then (if keep = 0 then 0 else a.2.2.1) else 1) (if timed = 0 then (if keep = 0 then 0 else a.2.2.2.1) else t)
    by_cases c : timed = 0
    · rw [if_pos c, if_pos c]
      by_cases k : keep = 0
      · rw [if_pos k, if_pos k]; exact Or.inl ⟨rfl, rfl⟩
      · rw [if_neg k, if_neg k]; exact hN.2
    · rw [if_neg c, if_neg c]; exact Or.inr ⟨rfl, ht.resolve_left c⟩
  · show a.1.length + v.length + 0 ≤ a.1.length + a.2.2.2.2.1.length + eT a.2.2.2.2.2 + v.length; omega
  · show 64 + a.1.length + v.length + memW 0 * 0 + 0 ≤ 64 + a.1.length + a.2.2.2.2.1.length + memW a.2.1 * a.2.2.2.2.2.length + eT a.2.2.2.2.2 + v.length; omega
theorem untF_tm (a : AK) : untF a = tmF 0 0 0 a := rfl
theorem g_ms : ∀ (n : Nat) (r : List (List Int32)) {A : List AK}, r.length ≤ n → IA A → (∀ w ∈ r, WOK w) → IA (msA A r) ∧ MS A (msA A r) (r.length / 2) (sl r) 0 (64 * (r.length / 2) + sl r) (sl r) := by
  intro n
  induction n with
  | zero =>
    intro r A hr hA hw
    cases r with
    | nil => exact ⟨hA, MS.rf⟩
    | cons w r => simp at hr
  | succ n ih =>
    intro r A hr hA hw
    cases r with
    | nil => exact ⟨hA, MS.rf⟩
    | cons w r =>
      cases r with
      | nil => exact ⟨hA, MS.rf.up (Nat.zero_le _) (Nat.zero_le _) (Nat.zero_le _) (Nat.zero_le _) (Nat.zero_le _)⟩
      | cons v r =>
        have g := g_st (A := A) (w := w) (v := v) (keep := 0) (timed := 0) (t := 0) hA (hw w List.mem_cons_self) (hw v (List.mem_cons_of_mem _ List.mem_cons_self)).1 (Or.inl rfl)
        have e : stA A w v 0 0 0 = upA (setA A w v) (orA A w 0).2 untF := by unfold stA; exact congrArg (upA _ _) (funext (fun a => (untF_tm a).symm))
        rw [e] at g
        have k := ih r (A := upA (setA A w v) (orA A w 0).2 untF) (by simp only [List.length_cons] at hr; omega) g.1 (fun x hx => hw x (List.mem_cons_of_mem _ (List.mem_cons_of_mem _ hx)))
        refine ⟨k.1, (g.2.tr k.2).up ?_ ?_ (Nat.le_refl _) ?_ (by show _ ≤ w.length + (v.length + sl r); omega)⟩
        · simp only [List.length_cons]; omega
        · show _ ≤ w.length + (v.length + sl r); omega
        · show _ ≤ 64 * ((w :: v :: r).length / 2) + (w.length + (v.length + sl r)); simp only [List.length_cons]; omega
end GROW1
