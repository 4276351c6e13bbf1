/-! Names that change, elements that move, sets that are stored. -/
section NX3
/-- a text is put, whatever was there -/
def MSP (A A' : List AK) (y e f g : Nat) : Prop := txB A' ≤ txB A + y ∧ (tS A' ≤ tS A + e ∧ uS A' ≤ uS A + f) ∧ (∀ X, OC X A → OC X A') ∧ vS A' ≤ vS A + g
theorem MSP_or {A : List AK} {w : List Int32} {s : Int32} {f : AK → AK} {y e e' : Nat} (hn : ∀ a, (f a).1 = a.1) (h4 : ∀ a, kA A w s a → (f a).2.1 = 4 → a.2.1 = 4 ∧ (f a).2.2.2.2.2.length ≤ a.2.2.2.2.2.length) (h0 : ∀ a, kA A w s a → txQ (f a) ≤ y) (hv : ∀ a, kA A w s a → vK (f a) ≤ vK a) (ht : ∀ a, kA A w s a → tK (f a) ≤ tK a + e ∧ uK (f a) ≤ uK a + e') : MSP A (upA (orA A w s).1 (orA A w s).2 f) y e e' w.length := by
  cases h : kyI A w with
  | some p =>
    obtain ⟨a, ha, hc⟩ := kyI_get h
    obtain ⟨P, Q, rfl, rfl⟩ := get_split ha
    have ka : kA (P ++ a :: Q) w s a := Or.inr ⟨_, h, ha⟩
    rw [orA_some h]
    show MSP (P ++ a :: Q) (upA (P ++ a :: Q) P.length f) _ _ _ _
    rw [upA_at]
    have t0 := h0 a ka
    have t1 := ht a ka
    have t2 := hv a ka
    have ho : oK (f a) ≤ oK a := by
      unfold oK
      by_cases c : (f a).2.1 = 4
      · rw [if_pos c, if_pos (h4 a ka c).1]; exact (h4 a ka c).2
      · rw [if_neg c]; exact Nat.zero_le _
    exact ⟨by rw [txB_mid, txB_mid]; omega, ⟨by rw [tS_mid, tS_mid]; omega, by rw [uS_mid, uS_mid]; omega⟩, fun X hX => by unfold OC at hX ⊢; rw [oS_mid] at hX ⊢; omega, by rw [vS_mid, vS_mid]; omega⟩
  | none =>
    have hp := plF_le (anm A) w
    rw [anm_len] at hp
    have ka : kA A w s (w, s, 0, 0, [], []) := Or.inl ⟨h, rfl⟩
    rw [orA_none h]
    obtain ⟨P, hP⟩ : ∃ P, P = A.take (plF (anm A) w) := ⟨_, rfl⟩
    obtain ⟨Q, hQ⟩ : ∃ Q, Q = A.drop (plF (anm A) w) := ⟨_, rfl⟩
    have hl : P.length = plF (anm A) w := by rw [hP, List.length_take]; omega
    have eA : A = P ++ Q := by rw [hP, hQ, List.take_append_drop]
    have eI : inA A (plF (anm A) w) (w, s, 0, 0, [], []) = P ++ (w, s, 0, 0, [], []) :: Q := by unfold inA; rw [← hP, ← hQ]
    show MSP A (upA (inA A (plF (anm A) w) (w, s, 0, 0, [], [])) (plF (anm A) w) f) _ _ _ _
    rw [eI, ← hl, upA_at]
    have t0 := h0 _ ka
    have t1 := ht _ ka
    have t2 := hv _ ka
    have e2 : vK ((w, s, 0, 0, [], []) : AK) ≤ w.length := by unfold vK; show w.length + (if s = 3 then 0 else 2 * 0) ≤ _; split <;> omega
    have e0 : tK ((w, s, 0, 0, [], []) : AK) = 0 := rfl
    have e1 : uK ((w, s, 0, 0, [], []) : AK) = 0 := rfl
    have m : MSP (P ++ Q) (P ++ f (w, s, 0, 0, [], []) :: Q) y e e' w.length := by
      have ho : oK (f (w, s, 0, 0, [], [])) = 0 := by
        unfold oK
        by_cases c : (f (w, s, 0, 0, [], [])).2.1 = 4
        · rw [if_pos c]; exact Nat.le_zero.mp (h4 _ ka c).2
        · rw [if_neg c]
      exact ⟨by rw [txB_mid, txB_app]; omega, ⟨by rw [tS_mid, tS_app]; omega, by rw [uS_mid, uS_app]; omega⟩, fun X hX => by unfold OC at hX ⊢; rw [oS_app] at hX; rw [oS_mid]; omega, by rw [vS_mid, vS_app]; omega⟩
    rw [← eA] at m; exact m
theorem p_put {A : List AK} {w t : List Int32} (hs : soT A w 0 = true) (ht : t.length ≤ 16384) : MSP A (putA A w t) 16384 0 0 w.length := by
  unfold putA
  refine MSP_or (fun _ => rfl) (fun a ka h => ?_) (fun a _ => ?_) (fun a _ => Nat.le_refl _) (fun a _ => ⟨Nat.le_refl _, Nat.le_refl _⟩)
  · have es := kA_so hs ka
    have h : a.2.1 = 4 := h
    rw [es] at h; exact absurd h (by decide)
  · unfold txQ; split
    · exact ht
    · exact Nat.zero_le _
theorem p_st {A : List AK} {w v : List Int32} {keep timed : Int32} {t : Int64} (hA : IA A) (hw : WOK w) : MSP A (stA A w v keep timed t) v.length (if timed = 0 then 0 else 1) (if timed = 0 then 0 else w.length) w.length := by
  unfold stA setA
  rw [upA_upA]
  refine MSP_or (fun _ => rfl) (fun a ka h => absurd (show (0 : Int32) = 4 from h) (by decide)) (fun a _ => Nat.le_refl _) (fun a ka => by show a.1.length + 2 * 0 ≤ a.1.length + _; omega) (fun a ka => ?_)
  show (if (if timed = 0 then (if keep = 0 then 0 else a.2.2.1) else 1) = 0 then 0 else 1) ≤ (if a.2.2.1 = 0 then 0 else 1) + _ ∧ (if (if timed = 0 then (if keep = 0 then 0 else a.2.2.1) else 1) = 0 then 0 else a.1.length) ≤ (if a.2.2.1 = 0 then 0 else a.1.length) + _
  by_cases c : timed = 0
  · rw [if_pos c, if_pos c, if_pos c]
    by_cases k : keep = 0
    · rw [if_pos k, if_pos rfl, if_pos rfl]; exact ⟨Nat.zero_le _, Nat.zero_le _⟩
    · rw [if_neg k]; exact ⟨Nat.le_refl _, Nat.le_refl _⟩
  · have e1 : (if timed = 0 then (if keep = 0 then 0 else a.2.2.1) else 1) = (1 : Int32) := if_neg c
    rw [e1, if_neg (show ¬ (1 : Int32) = 0 by decide), if_neg (show ¬ (1 : Int32) = 0 by decide), if_neg c, if_neg c]
    have hl : a.1.length ≤ w.length := by
      rcases ka with ⟨-, rfl⟩ | ⟨p, h1, h2⟩
      · exact Nat.le_refl _
      · obtain ⟨a', ha', hc⟩ := kyI_get h1
        rw [h2] at ha'; cases ha'
        rw [cmpW_eq _ _ (hA.2 a (List.mem_of_getElem? h2)).1.2 hw.2 hc]; exact Nat.le_refl _
    exact ⟨by omega, by omega⟩
theorem MSP.tr {A B C : List AK} {y e f g' y2 e2 f2 g2 : Nat} (h : MSP A B y e f g') (g : MSP B C y2 e2 f2 g2) : MSP A C (y + y2) (e + e2) (f + f2) (g' + g2) := ⟨by have := h.1; have := g.1; omega, by have := h.2.1; have := g.2.1; omega, fun X hX => g.2.2.1 X (h.2.2.1 X hX), by have := h.2.2.2; have := g.2.2.2; omega⟩
theorem MSP.up {A B : List AK} {y e f g y2 e2 f2 g2 : Nat} (h : MSP A B y e f g) (hy : y ≤ y2) (he : e ≤ e2) (hf : f ≤ f2) (hg : g ≤ g2) : MSP A B y2 e2 f2 g2 := ⟨by have := h.1; omega, by have := h.2.1; omega, h.2.2.1, by have := h.2.2.2; omega⟩
theorem p_ms : ∀ (n : Nat) (r : List (List Int32)) {A : List AK}, r.length ≤ n → IA A → (∀ w ∈ r, WOK w) → MSP A (msA A r) (sl r) 0 0 (sl r) := by
  intro n
  induction n with
  | zero =>
    intro r A hr hA hw
    cases r with
    | nil => exact ⟨Nat.le_refl _, ⟨Nat.le_refl _, Nat.le_refl _⟩, fun _ h => h, Nat.le_refl _⟩
    | cons w r => simp at hr
  | succ n ih =>
    intro r A hr hA hw
    cases r with
    | nil => exact ⟨Nat.le_refl _, ⟨Nat.le_refl _, Nat.le_refl _⟩, fun _ h => h, Nat.le_refl _⟩
    | cons w r =>
      cases r with
      | nil => exact ⟨Nat.le_add_right _ _, ⟨Nat.le_refl _, Nat.le_refl _⟩, fun _ h => h, Nat.le_add_right _ _⟩
      | cons v r =>
        have g := p_st (A := A) (w := w) (v := v) (keep := 0) (timed := 0) (t := 0) hA (hw w List.mem_cons_self)
        have hI := (g_st (A := A) (w := w) (v := v) (keep := 0) (timed := 0) (t := 0) hA (hw w List.mem_cons_self) (hw v (List.mem_cons_of_mem _ List.mem_cons_self)).1 (Or.inl rfl)).1
        have e : stA A w v 0 0 0 = upA (setA A w v) (orA A w 0).2 untF := by unfold stA; exact congrArg (upA _ _) (funext (fun a => (untF_tm a).symm))
        rw [e] at g hI
        have k := ih r (A := upA (setA A w v) (orA A w 0).2 untF) (by simp only [List.length_cons] at hr; omega) hI (fun x hx => hw x (List.mem_cons_of_mem _ (List.mem_cons_of_mem _ hx)))
        exact (g.tr k).up (by show _ ≤ w.length + (v.length + sl r); omega) (by show 0 + 0 ≤ 0; omega) (by show 0 + 0 ≤ 0; omega) (by show _ ≤ w.length + (v.length + sl r); omega)
theorem rnUN {A : List AK} {p : Nat} {a : AK} {w : List Int32} (hA : IA A) (ha : A[p]? = some a) (hw : WOK w) (hn : ∀ b ∈ rmA A p, b.1 ≠ w) : IA (rnA A p w) ∧ MSN A (rnA A p w) 0 w.length 0 w.length w.length := by
  refine ⟨(rnU hA ha hw hn).1, ?_⟩
  have mB := (rnU hA ha hw hn).2.1.2.2.2.1
  have e : rnA A p w = inA (rmA A p) (plF (anm (rmA A p)) w) (w, a.2) := by unfold rnA; rw [ha]
  rw [e] at mB ⊢
  obtain ⟨P, Q, rfl, rfl⟩ := get_split ha
  rw [rmA_at] at mB ⊢
  generalize plF (anm (P ++ Q)) w = k at mB ⊢
  unfold inA at mB ⊢
  have t1 : txB ((P ++ Q).take k) + txB ((P ++ Q).drop k) = txB P + txB Q := by rw [← txB_app, List.take_append_drop, txB_app]
  have t2 : tS ((P ++ Q).take k) + tS ((P ++ Q).drop k) = tS P + tS Q := by rw [← tS_app, List.take_append_drop, tS_app]
  have t5 : uS ((P ++ Q).take k) + uS ((P ++ Q).drop k) = uS P + uS Q := by rw [← uS_app, List.take_append_drop, uS_app]
  have t3 : txQ (w, a.2) = txQ a := rfl
  have t4 : tK (w, a.2) = tK a := rfl
  have t6 : uK (w, a.2) ≤ uK a + w.length := by
    unfold uK
    by_cases c : a.2.2.1 = 0
    · rw [if_pos c]; exact Nat.zero_le _
    · rw [if_neg c, if_neg c]; show w.length ≤ _; omega
  have t7 : vS ((P ++ Q).take k) + vS ((P ++ Q).drop k) = vS P + vS Q := by rw [← vS_app, List.take_append_drop, vS_app]
  have t8 : vK (w, a.2) ≤ vK a + w.length := by
    show w.length + (if a.2.1 = 3 then 0 else 2 * a.2.2.2.2.2.length) ≤ a.1.length + (if a.2.1 = 3 then 0 else 2 * a.2.2.2.2.2.length) + w.length
    omega
  have t9 : oS ((P ++ Q).take k) + oS ((P ++ Q).drop k) = oS P + oS Q := by rw [← oS_app, List.take_append_drop, oS_app]
  have ta : oK (w, a.2) = oK a := rfl
  exact ⟨by rw [txB_mid, txB_mid]; omega, ⟨by rw [tS_mid, tS_mid]; omega, by rw [uS_mid, uS_mid]; omega⟩, fun X hX => by unfold OC at hX ⊢; rw [oS_mid] at hX ⊢; omega, mB, by rw [vS_mid, vS_mid]; omega⟩
theorem g_rrN {A A' : List AK} {w : List Int32} {ms : List (List Int32)} (hA : IA A) (hw : WOK w) (h1 : SN ms) (h2 : ∀ x ∈ ms, WOK x) (h : rrF A w ms = some A') : IA A' ∧ MSN A A' 1 0 0 (64 + w.length + (24 * ms.length + sl ms)) w.length := by
  have mB := (g_rr hA hw h1 h2 h).2.1.1.2.2.2.1
  refine ⟨(g_rr hA hw h1 h2 h).1, ?_⟩
  unfold rrF at h
  by_cases c : ms = []
  · rw [if_pos c] at h
    cases e : kyI A w with
    | none => rw [e] at h; cases h
    | some p =>
      rw [e] at h; cases h
      exact (rmUN (p := p) hA).2.up (Nat.zero_le _) (Nat.zero_le _) (Nat.zero_le _) (Nat.zero_le _) (Nat.zero_le _)
  · rw [if_neg c] at h; cases h
    have p : MSP A (upA (orA A w 3).1 (orA A w 3).2 (fun a => (a.1, 3, 0, 0, [], rsE ms))) 0 0 0 w.length := MSP_or (fun _ => rfl) (fun a _ h => absurd (show (3 : Int32) = 4 from h) (by decide)) (fun a _ => by show (if (3 : Int32) = 0 then _ else 0) ≤ 0; rw [if_neg (by decide)]; exact Nat.le_refl _) (fun a _ => by show a.1.length + (if (3 : Int32) = 3 then 0 else _) ≤ a.1.length + _; rw [if_pos rfl]; omega) (fun a _ => ⟨Nat.zero_le _, Nat.zero_le _⟩)
    exact ⟨p.1, by have := p.2.1; omega, fun X hX => (p.2.2.1 X hX).up (by omega), mB, by have := p.2.2.2; omega⟩
/-- a set gets a member -/
theorem mkE3N {A : List AK} {w : List Int32} {g : List AE → List AE} {x1 x2 : Nat} (hA : IA A) (hs : soT A w 3 = true) (hw : WOK w) (hg : EU 3 g x1 x2) : IA (upA (orA A w 3).1 (orA A w 3).2 (esF g)) ∧ MSN A (upA (orA A w 3).1 (orA A w 3).2 (esF g)) 1 (w.length + x1) 0 (64 + w.length + (x1 + memW 3 * x2)) w.length := by
  have k := mkE hA hs (Or.inr (Or.inr (Or.inl rfl))) hw hg
  have p : MSP A (upA (orA A w 3).1 (orA A w 3).2 (esF g)) 0 0 0 w.length := by
    refine MSP_or (fun _ => rfl) (fun a ka h => ?_) (fun a ka => ?_) (fun a ka => ?_) (fun a _ => ⟨Nat.le_refl _, Nat.le_refl _⟩)
    · have es := kA_so hs ka
      have h : a.2.1 = 4 := h
      rw [es] at h; exact absurd h (by decide)
    · have es := kA_so hs ka
      show (if a.2.1 = 0 then _ else 0) ≤ 0
      rw [if_neg (by rw [es]; decide)]; exact Nat.le_refl _
    · have es := kA_so hs ka
      show a.1.length + (if a.2.1 = 3 then 0 else _) ≤ a.1.length + (if a.2.1 = 3 then 0 else _)
      rw [if_pos es, if_pos es]; exact Nat.le_refl _
  exact ⟨k.1, p.1, by have := p.2.1; omega, fun X hX => p.2.2.1 X hX, k.2.1.2.2.2.1, by have := p.2.2.2; omega⟩
theorem g_reN {A A' : List AK} {w1 w2 : List Int32} {i1 : Nat} (hA : IA A) (hw : WOK w2) (h : reF A w1 w2 i1 = some A') : IA A' ∧ MSN A A' 0 w2.length 0 w2.length w2.length := by
  unfold reF at h
  cases e : kyI A w1 with
  | none => rw [e] at h; cases h
  | some p =>
    rw [e] at h
    obtain ⟨a, ha, -⟩ := kyI_get e
    have h : (if kyI A w2 = some p then none else (match kyI A w2 with | none => some (rnA A p w2) | some q => if i1 = 26 then none else some (rnA (rmA A q) (if q < p then p - 1 else p) w2))) = some A' := h
    by_cases c : kyI A w2 = some p
    · rw [if_pos c] at h; cases h
    · rw [if_neg c] at h
      cases f : kyI A w2 with
      | none =>
        rw [f] at h; cases h
        exact rnUN hA ha hw (fun b hb => (ky_no hA hw).mp f b (rm_mem hb))
      | some q =>
        rw [f] at h
        have h : (if i1 = 26 then none else some (rnA (rmA A q) (if q < p then p - 1 else p) w2)) = some A' := h
        by_cases z : i1 = 26
        · rw [if_pos z] at h; cases h
        · rw [if_neg z] at h; cases h
          obtain ⟨y, hy, hyc⟩ := kyI_get f
          have eyw : y.1 = w2 := cmpW_eq _ _ (hA.2 y (List.mem_of_getElem? hy)).1.2 hw.2 hyc
          obtain ⟨hB, hM⟩ := rmUN (p := q) hA
          have hqp : q ≠ p := fun z => c (by rw [f, z])
          have hg : (rmA A q)[if q < p then p - 1 else p]? = some a := by
            rw [rmA_get]
            by_cases l : q < p
            · rw [if_pos l, if_neg (by omega), show p - 1 + 1 = p by omega]; exact ha
            · rw [if_neg l, if_pos (by omega)]; exact ha
          obtain ⟨k1, k2⟩ := rnUN hB hg hw (fun b hb => by rw [← eyw]; exact rm_ne hA.1 hy b (rm_mem hb))
          exact ⟨k1, (hM.tr k2).up (Nat.le_refl _) (by omega) (Nat.le_refl _) (by omega) (by omega)⟩
theorem mvUN {A : List AK} {p : Nat} {a : AK} {w2 : List Int32} {s : Int32} {g f : List AE → List AE} {x1 x2 : Nat} (hA : IA A) (ha : A[p]? = some a) (hs2 : soT A w2 s = true) (h0 : s = 1 ∨ s = 2 ∨ s = 3 ∨ s = 4) (hw : WOK w2) (hg : ∀ es, (g es).Sublist es) (hf : EU s f x1 x2) (hne : kyI A w2 ≠ some p) : ∃ D q, stl1 (upA (orA (upA A p (esF g)) w2 s).1 (orA (upA A p (esF g)) w2 s).2 (esF f)) (if kyI (upA A p (esF g)) w2 = none ∧ (orA (upA A p (esF g)) w2 s).2 ≤ p then p + 1 else p) = stlA D q g ∧ D[q]? = some a ∧ IA D ∧ MSN A D 1 (w2.length + x1) x2 (64 + w2.length + (x1 + memW s * x2)) w2.length := by
  have ek : kyI (upA A p (esF g)) w2 = kyI A w2 := kyI_up A p (esF g) (fun _ => rfl) w2
  rw [ek]
  have mk := mkEN hA hs2 h0 hw hf
  cases h : kyI A w2 with
  | some r =>
    have hrp : r ≠ p := fun z => hne (by rw [h, z])
    rw [orA_some h] at mk
    rw [orA_some (ek.trans h), if_neg (fun z => by cases z.1)]
    refine ⟨upA A r (esF f), p, ?_, ?_, mk.1, mk.2⟩
    · show stl1 (upA (upA A p (esF g)) r (esF f)) p = _
      have hD : (upA A r (esF f))[p]? = some a := by rw [upA_get, if_neg (fun z => hrp z.symm)]; exact ha
      rw [upA_comm A p r (fun z => hrp z.symm)]; exact stl1_up hD
    · rw [upA_get, if_neg (fun z => hrp z.symm)]; exact ha
  | none =>
    have hpl : plF (anm (upA A p (esF g))) w2 = plF (anm A) w2 := by rw [anm_up A p (esF g) (fun _ => rfl)]
    have hk := plF_le (anm A) w2
    rw [anm_len] at hk
    rw [orA_none h] at mk
    rw [orA_none (ek.trans h), hpl]
    generalize plF (anm A) w2 = k at mk hk
    obtain ⟨q, hq⟩ : ∃ q, q = if k ≤ p then p + 1 else p := ⟨_, rfl⟩
    have hqk : q ≠ k := by rw [hq]; split <;> omega
    have hqD : (upA (inA A k (w2, s, 0, 0, [], [])) k (esF f))[q]? = some a := by
      rw [upA_get, if_neg hqk]
      unfold inA
      by_cases c : k ≤ p
      · rw [hq, if_pos c, List.getElem?_append_right (by rw [List.length_take]; omega), List.length_take, Nat.min_eq_left hk, show p + 1 - k = (p - k) + 1 by omega]
        show (A.drop k)[p - k]? = _
        rw [List.getElem?_drop, show k + (p - k) = p by omega]; exact ha
      · rw [hq, if_neg c, List.getElem?_append_left (by rw [List.length_take]; omega), List.getElem?_take_of_lt (by omega)]; exact ha
    refine ⟨upA (inA A k (w2, s, 0, 0, [], [])) k (esF f), q, ?_, hqD, mk.1, mk.2⟩
    show stl1 (upA (inA (upA A p (esF g)) k (w2, s, 0, 0, [], [])) k (esF f)) (if none = none ∧ k ≤ p then p + 1 else p) = _
    have eq : (if (none : Option Nat) = none ∧ k ≤ p then p + 1 else p) = q := by
      rw [hq]
      by_cases c : k ≤ p
      · rw [if_pos ⟨rfl, c⟩, if_pos c]
      · rw [if_neg (fun z => c z.2), if_neg c]
    rw [eq, inA_up ha hk, ← hq, upA_comm _ q k hqk]
    exact stl1_up hqD
theorem g_mvN {A A' : List AK} {w1 w2 : List Int32} {fl tl : Int32} (hA : IA A) (hs1 : soT A w1 1 = true) (hs2 : soT A w2 1 = true) (hw : WOK w2) (h : mvF A w1 w2 fl tl = some A') : IA A' ∧ MSN A A' 1 (w2.length + 16384) 1 (64 + w2.length + (16384 + 16)) w2.length := by
  unfold mvF at h
  cases e : kyI A w1 with
  | none => rw [e] at h; cases h
  | some p =>
    rw [e] at h
    obtain ⟨a, ha, -⟩ := kyI_get e
    obtain ⟨s1, s2, s3⟩ := soT_ky hA hs1 e ha
    have hne := (s2.2.2.2.1 (by rw [s1]; decide)).1
    obtain ⟨x, hx⟩ : ∃ x, x = if fl = 0 then laW a.2.2.2.2.2 else hdW a.2.2.2.2.2 := ⟨_, rfl⟩
    have hxw : WOK x := by
      rw [hx]
      by_cases c : fl = 0
      · rw [if_pos c]
        obtain ⟨z, hz, e⟩ := hdW_mem (es := a.2.2.2.2.2.reverse) (fun z => hne (List.reverse_eq_nil_iff.mp z))
        show WOK (hdW a.2.2.2.2.2.reverse)
        rw [← e]; exact (s3.1 z (List.mem_reverse.mp hz)).1
      · rw [if_neg c]
        obtain ⟨z, hz, e⟩ := hdW_mem hne
        rw [← e]; exact (s3.1 z hz).1
    obtain ⟨g, hg⟩ : ∃ g : List AE → List AE, g = fun es => if fl = 0 then es.dropLast else es.tail := ⟨_, rfl⟩
    have hgs : ∀ es, (g es).Sublist es := fun es => by
      rw [hg]
      show (if fl = 0 then es.dropLast else es.tail).Sublist es
      by_cases c : fl = 0
      · rw [if_pos c]; exact List.dropLast_sublist es
      · rw [if_neg c]; exact List.tail_sublist es
    obtain ⟨f, hf⟩ : ∃ f : List AE → List AE, f = fun es => if decide (tl = 0) = true then es ++ [(x, [], 0)] else (x, [], 0) :: es := ⟨_, rfl⟩
    have hfe : (fun es : List AE => if tl = 0 then es ++ [((if fl = 0 then laW a.2.2.2.2.2 else hdW a.2.2.2.2.2), [], 0)] else ((if fl = 0 then laW a.2.2.2.2.2 else hdW a.2.2.2.2.2), [], (0 : Int64)) :: es) = f := by
      rw [hf, ← hx]
      funext es
      by_cases c : tl = 0
      · rw [if_pos c, if_pos (decide_eq_true c)]
      · rw [if_neg c, if_neg (fun z => c (of_decide_eq_true z))]
    have hfE : EU 1 f x.length 1 := by rw [hf]; exact ps1_ok hxw (decide (tl = 0))
    have h : (match A[p]? with
      | none => none
      | some a => some (stl1 (upA (orA (upA A p (esF g)) w2 1).1 (orA (upA A p (esF g)) w2 1).2 (esF (fun es => if tl = 0 then es ++ [((if fl = 0 then laW a.2.2.2.2.2 else hdW a.2.2.2.2.2), [], 0)] else ((if fl = 0 then laW a.2.2.2.2.2 else hdW a.2.2.2.2.2), [], 0) :: es)))
        (if kyI (upA A p (esF g)) w2 = none ∧ (orA (upA A p (esF g)) w2 1).2 ≤ p then p + 1 else p))) = some A' := by rw [hg]; exact h
    rw [ha] at h
    have h : some (stl1 (upA (orA (upA A p (esF g)) w2 1).1 (orA (upA A p (esF g)) w2 1).2 (esF (fun es => if tl = 0 then es ++ [((if fl = 0 then laW a.2.2.2.2.2 else hdW a.2.2.2.2.2), [], 0)] else ((if fl = 0 then laW a.2.2.2.2.2 else hdW a.2.2.2.2.2), [], 0) :: es))) (if kyI (upA A p (esF g)) w2 = none ∧ (orA (upA A p (esF g)) w2 1).2 ≤ p then p + 1 else p)) = some A' := h
    rw [hfe] at h
    have hxl := hxw.1
    by_cases c : kyI A w2 = some p
    · have ek : kyI (upA A p (esF g)) w2 = some p := (kyI_up A p (esF g) (fun _ => rfl) w2).trans c
      rw [orA_some ek, ek, if_neg (fun z => by cases z.1), upA_upA] at h
      have h : stl1 (upA A p (fun a => esF f (esF g a))) p = A' := Option.some.inj h
      obtain ⟨k1, k2, k3, k4⟩ := hfE (g a.2.2.2.2.2) (s3.sub (hgs _))
      have sb := eT_sub (hgs a.2.2.2.2.2)
      have k := kM_es (a := a) (g := fun es => f (g es)) (x1 := x.length) (x2 := 1) (by show eT (f (g a.2.2.2.2.2)) ≤ _; omega) (by show (f (g a.2.2.2.2.2)).length ≤ _; omega)
      rw [s1] at k
      have u := upUN (f := fun a => esF f (esF g a)) hA ha rfl ⟨AOK_es (g := fun es => f (g es)) s2 (by rw [s1]; exact k1) k2, k⟩
      have es : stl1 (upA A p (fun a => esF f (esF g a))) p = upA A p (fun a => esF f (esF g a)) := by
        unfold stl1
        rw [upA_get, if_pos rfl, ha]
        show (if f (g a.2.2.2.2.2) = [] then _ else _) = _
        rw [if_neg k2]
      rw [es] at h
      rw [← h]
      exact ⟨u.1, u.2.up (by omega) (by omega) (Nat.le_refl _) (by show x.length + 16 * 1 ≤ _; omega)⟩
    · obtain ⟨D, q, d1, d2, d3, d4⟩ := mvUN hA ha hs2 (Or.inl rfl) hw hgs hfE c
      rw [d1] at h
      have h : stlA D q g = A' := Option.some.inj h
      obtain ⟨k1, k2⟩ := stUN (p := q) (g := g) d3 (fun b _ => hgs _)
      rw [← h]
      exact ⟨k1, (d4.tr k2).up (by omega) (by omega) (by omega) (by show 64 + w2.length + (x.length + 16 * 1) + 0 ≤ _; omega)⟩
theorem mvU3N {A : List AK} {p : Nat} {a : AK} {w2 : List Int32} {s : Int32} {g f : List AE → List AE} {x1 x2 : Nat} (hA : IA A) (ha : A[p]? = some a) (hs2 : soT A w2 s = true) (h0 : s = 1 ∨ s = 2 ∨ s = 3 ∨ s = 4) (hw : WOK w2) (hg : ∀ es, (g es).Sublist es) (hf : EU s f x1 x2) (hne : kyI A w2 ≠ some p) (h3 : s = 3) : ∃ D q, stl1 (upA (orA (upA A p (esF g)) w2 s).1 (orA (upA A p (esF g)) w2 s).2 (esF f)) (if kyI (upA A p (esF g)) w2 = none ∧ (orA (upA A p (esF g)) w2 s).2 ≤ p then p + 1 else p) = stlA D q g ∧ D[q]? = some a ∧ IA D ∧ MSN A D 1 (w2.length + x1) 0 (64 + w2.length + (x1 + memW s * x2)) w2.length := by
  have ek : kyI (upA A p (esF g)) w2 = kyI A w2 := kyI_up A p (esF g) (fun _ => rfl) w2
  rw [ek]
  subst h3
  have mk := mkE3N hA hs2 hw hf
  cases h : kyI A w2 with
  | some r =>
    have hrp : r ≠ p := fun z => hne (by rw [h, z])
    rw [orA_some h] at mk
    rw [orA_some (ek.trans h), if_neg (fun z => by cases z.1)]
    refine ⟨upA A r (esF f), p, ?_, ?_, mk.1, mk.2⟩
    · show stl1 (upA (upA A p (esF g)) r (esF f)) p = _
      have hD : (upA A r (esF f))[p]? = some a := by rw [upA_get, if_neg (fun z => hrp z.symm)]; exact ha
      rw [upA_comm A p r (fun z => hrp z.symm)]; exact stl1_up hD
    · rw [upA_get, if_neg (fun z => hrp z.symm)]; exact ha
  | none =>
    have hpl : plF (anm (upA A p (esF g))) w2 = plF (anm A) w2 := by rw [anm_up A p (esF g) (fun _ => rfl)]
    have hk := plF_le (anm A) w2
    rw [anm_len] at hk
    rw [orA_none h] at mk
    rw [orA_none (ek.trans h), hpl]
    generalize plF (anm A) w2 = k at mk hk
    obtain ⟨q, hq⟩ : ∃ q, q = if k ≤ p then p + 1 else p := ⟨_, rfl⟩
    have hqk : q ≠ k := by rw [hq]; split <;> omega
    have hqD : (upA (inA A k (w2, 3, 0, 0, [], [])) k (esF f))[q]? = some a := by
      rw [upA_get, if_neg hqk]
      unfold inA
      by_cases c : k ≤ p
      · rw [hq, if_pos c, List.getElem?_append_right (by rw [List.length_take]; omega), List.length_take, Nat.min_eq_left hk, show p + 1 - k = (p - k) + 1 by omega]
        show (A.drop k)[p - k]? = _
        rw [List.getElem?_drop, show k + (p - k) = p by omega]; exact ha
      · rw [hq, if_neg c, List.getElem?_append_left (by rw [List.length_take]; omega), List.getElem?_take_of_lt (by omega)]; exact ha
    refine ⟨upA (inA A k (w2, 3, 0, 0, [], [])) k (esF f), q, ?_, hqD, mk.1, mk.2⟩
    show stl1 (upA (inA (upA A p (esF g)) k (w2, 3, 0, 0, [], [])) k (esF f)) (if none = none ∧ k ≤ p then p + 1 else p) = _
    have eq : (if (none : Option Nat) = none ∧ k ≤ p then p + 1 else p) = q := by
      rw [hq]
      by_cases c : k ≤ p
      · rw [if_pos ⟨rfl, c⟩, if_pos c]
      · rw [if_neg (fun z => c z.2), if_neg c]
    rw [eq, inA_up ha hk, ← hq, upA_comm _ q k hqk]
    exact stl1_up hqD
theorem g_smN {A A' : List AK} {w1 w2 v : List Int32} (hA : IA A) (hs1 : soT A w1 3 = true) (hs2 : soT A w2 3 = true) (hw : WOK w2) (hv : WOK v) (h : smF A w1 w2 v = some A') : IA A' ∧ MSN A A' 1 (w2.length + v.length) 0 (64 + w2.length + v.length) w2.length := by
  have hh := h
  unfold smF at h
  cases e : kyI A w1 with
  | none => rw [e] at h; cases h
  | some p =>
    rw [e] at h
    obtain ⟨a, ha, -⟩ := kyI_get e
    obtain ⟨s1, s2, s3⟩ := soT_ky hA hs1 e ha
    have h : (match A[p]? with
      | none => none
      | some a => if skT v a.2.2.2.2.2 = true then (if kyI A w2 = some p then none else
        some (stl1 (upA (orA (upA A p (esF (rmE (skI v a.2.2.2.2.2)))) w2 3).1 (orA (upA A p (esF (rmE (skI v a.2.2.2.2.2)))) w2 3).2 (esF (ptE v)))
          (if kyI (upA A p (esF (rmE (skI v a.2.2.2.2.2)))) w2 = none ∧ (orA (upA A p (esF (rmE (skI v a.2.2.2.2.2)))) w2 3).2 ≤ p then p + 1 else p))) else none) = some A' := h
    rw [ha] at h
    have h : (if skT v a.2.2.2.2.2 = true then (if kyI A w2 = some p then none else
        some (stl1 (upA (orA (upA A p (esF (rmE (skI v a.2.2.2.2.2)))) w2 3).1 (orA (upA A p (esF (rmE (skI v a.2.2.2.2.2)))) w2 3).2 (esF (ptE v)))
          (if kyI (upA A p (esF (rmE (skI v a.2.2.2.2.2)))) w2 = none ∧ (orA (upA A p (esF (rmE (skI v a.2.2.2.2.2)))) w2 3).2 ≤ p then p + 1 else p))) else none) = some A' := h
    by_cases c1 : skT v a.2.2.2.2.2 = true
    · rw [if_pos c1] at h
      by_cases c : kyI A w2 = some p
      · rw [if_pos c] at h; cases h
      · rw [if_neg c] at h
        obtain ⟨D, q, d1, d2, d3, d4⟩ := mvU3N (g := rmE (skI v a.2.2.2.2.2)) hA ha hs2 (Or.inr (Or.inr (Or.inl rfl))) hw (fun es => rmE_sub es _) (pt_ok hv) c rfl
        rw [d1] at h
        have h : stlA D q (rmE (skI v a.2.2.2.2.2)) = A' := Option.some.inj h
        obtain ⟨k1, k2⟩ := stUN (p := q) (g := rmE (skI v a.2.2.2.2.2)) d3 (fun b _ => rmE_sub _ _)
        rw [← h]
        refine ⟨k1, ?_⟩
        have mB := (g_sm hA hs1 hs2 hw hv hh).2.1.2.2.2.1
        have dk := d4.tr k2
        exact ⟨dk.1, by have := dk.2.1; omega, fun X hX => (dk.2.2.1 X hX).up (by omega), by rw [h]; exact mB, by have := dk.2.2.2.2; omega⟩
    · rw [if_neg c1] at h; cases h
end NX3
