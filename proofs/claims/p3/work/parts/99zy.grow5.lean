/-! What is reckoned of sets: rising names, each once, all of them members of sets. -/
section GROW5
def SN (ms : List (List Int32)) : Prop := ms.Pairwise (fun a b => cmpW a b < 0)
theorem am_gt (v : List Int32) : ∀ (l : List (List Int32)), ∀ z ∈ l.take (amR v l), 0 < cmpW z v := by
  intro l
  induction l with
  | nil => intro z hz; simp at hz
  | cons y r ih =>
    intro z hz
    have e : amR v (y :: r) = if 0 < cmpW y v then amR v r + 1 else 0 := rfl
    rw [e] at hz
    by_cases c : 0 < cmpW y v
    · rw [if_pos c, List.take_succ_cons] at hz
      rcases List.mem_cons.mp hz with rfl | hz
      · exact c
      · exact ih z hz
    · rw [if_neg c] at hz; simp at hz
theorem am_stop (v : List Int32) : ∀ (l : List (List Int32)) (h : List Int32) (t : List (List Int32)), l.drop (amR v l) = h :: t → ¬ 0 < cmpW h v := by
  intro l
  induction l with
  | nil => intro h t e; simp at e
  | cons y r ih =>
    intro h t e
    have e0 : amR v (y :: r) = if 0 < cmpW y v then amR v r + 1 else 0 := rfl
    rw [e0] at e
    by_cases c : 0 < cmpW y v
    · rw [if_pos c, List.drop_succ_cons] at e; exact ih h t e
    · rw [if_neg c] at e; cases e; exact c
theorem am_SN {v : List Int32} {ms : List (List Int32)} (h : SN ms) (hn : ∀ m ∈ ms, ¬ cmpW m v = 0) : SN (amE v ms) := by
  unfold amE
  obtain ⟨k, hk⟩ : ∃ k, k = amR v ms.reverse := ⟨_, rfl⟩
  rw [← hk]
  have h0 : SN (ms.take (ms.length - k) ++ ms.drop (ms.length - k)) := by rw [List.take_append_drop]; exact h
  obtain ⟨p1, p2, p3⟩ := List.pairwise_append.mp h0
  have hi : ∀ z ∈ ms.drop (ms.length - k), cmpW v z < 0 := by
    intro z hz
    have hz2 : z ∈ ms.reverse.take k := by rw [List.take_reverse]; exact List.mem_reverse.mpr hz
    rw [hk] at hz2
    have := am_gt v ms.reverse z hz2
    rw [cmpW_anti z v]; omega
  have lo : ∀ z ∈ ms.take (ms.length - k), cmpW z v < 0 := by
    intro z hz
    have ed : ms.reverse.drop k = (ms.take (ms.length - k)).reverse := List.drop_reverse
    cases el : ms.reverse.drop k with
    | nil =>
      have : ms.take (ms.length - k) = [] := by rw [ed] at el; exact List.reverse_eq_nil_iff.mp el
      rw [this] at hz; cases hz
    | cons y t =>
      have hs := am_stop v ms.reverse y t (by rw [← hk]; exact el)
      have hym : y ∈ ms := by
        have : y ∈ (ms.take (ms.length - k)).reverse := by rw [← ed, el]; exact List.mem_cons_self
        exact List.mem_of_mem_take (List.mem_reverse.mp this)
      have hy : cmpW y v < 0 := by have := hn y hym; omega
      have hp : (y :: t).Pairwise (fun a b => cmpW b a < 0) := by rw [← el, ed, List.pairwise_reverse]; exact p1
      have hzm : z ∈ y :: t := by rw [← el, ed]; exact List.mem_reverse.mpr hz
      rcases List.mem_cons.mp hzm with rfl | hzt
      · exact hy
      · exact cmpW_trans _ _ _ ((List.pairwise_cons.mp hp).1 z hzt) hy
  refine List.pairwise_append.mpr ⟨p1, List.pairwise_cons.mpr ⟨hi, p2⟩, fun a ha b hb => ?_⟩
  rcases List.mem_cons.mp hb with rfl | hb
  · exact lo a ha
  · exact p3 a ha b hb
theorem am_mem {v x : List Int32} {ms : List (List Int32)} (h : x ∈ amE v ms) : x ∈ ms ∨ x = v := by
  unfold amE at h
  rcases List.mem_append.mp h with h | h
  · exact Or.inl (List.mem_of_mem_take h)
  · rcases List.mem_cons.mp h with h | h
    · exact Or.inr h
    · exact Or.inl (List.mem_of_mem_drop h)
theorem rc_ok (T : AE → Bool) : ∀ (es : List AE) (ms : List (List Int32)), SN ms → SP es → (∀ z ∈ es, T z = true → ∀ m ∈ ms, ¬ cmpW m z.1 = 0) → SN (rcF T ms es) ∧ ∀ x ∈ rcF T ms es, x ∈ ms ∨ ∃ z ∈ es, T z = true ∧ x = z.1 := by
  intro es
  induction es with
  | nil => intro ms h _ _; exact ⟨h, fun x hx => Or.inl hx⟩
  | cons y r ih =>
    intro ms h hs hT
    obtain ⟨q1, q2⟩ := List.pairwise_cons.mp hs
    show SN (rcF T (if T y = true then amE y.1 ms else ms) r) ∧ ∀ x ∈ rcF T (if T y = true then amE y.1 ms else ms) r, _
    by_cases c : T y = true
    · rw [if_pos c]
      obtain ⟨k1, k2⟩ := ih (amE y.1 ms) (am_SN h (hT y List.mem_cons_self c)) q2 (fun z hz hz2 m hm => by
        rcases am_mem hm with hm | rfl
        · exact hT z (List.mem_cons_of_mem _ hz) hz2 m hm
        · have := q1 z hz; omega)
      refine ⟨k1, fun x hx => ?_⟩
      rcases k2 x hx with hx | ⟨z, hz, e⟩
      · rcases am_mem hx with hx | rfl
        · exact Or.inl hx
        · exact Or.inr ⟨y, List.mem_cons_self, c, rfl⟩
      · exact Or.inr ⟨z, List.mem_cons_of_mem _ hz, e⟩
    · rw [if_neg c]
      obtain ⟨k1, k2⟩ := ih ms h q2 (fun z hz => hT z (List.mem_cons_of_mem _ hz))
      refine ⟨k1, fun x hx => ?_⟩
      rcases k2 x hx with hx | ⟨z, hz, e⟩
      · exact Or.inl hx
      · exact Or.inr ⟨z, List.mem_cons_of_mem _ hz, e⟩
theorem sk_mem {es : List AE} (h : SP es) {z : AE} (hz : z ∈ es) : skT z.1 es = true := by
  cases c : skT z.1 es with
  | true => rfl
  | false =>
    have hm : z ∈ es.take (skI z.1 es) ++ es.drop (skI z.1 es) := by rw [List.take_append_drop]; exact hz
    rcases List.mem_append.mp hm with hm | hm
    · have := sk_lt z.1 es z hm; rw [cmpW_self] at this; exact absurd this (by decide)
    · have := sk_ge z.1 es h c z hm; rw [cmpW_self] at this; exact absurd this (by decide)
/-- the members of all sets, each with its weight -/
def sets3 : List AK → List (List Int32)
  | [] => []
  | a :: r => (if a.2.1 = 3 then a.2.2.2.2.2.map (fun z => z.1) else []) ++ sets3 r
theorem sl_names : ∀ es : List AE, sl (es.map (fun z => z.1)) ≤ eT es := by
  intro es
  induction es with
  | nil => exact Nat.le_refl _
  | cons z r ih => show z.1.length + sl (r.map (fun z => z.1)) ≤ z.1.length + z.2.1.length + eT r; omega
theorem sets3_m (A : List AK) : (sets3 A).length ≤ eN A ∧ sl (sets3 A) ≤ tT A ∧ 24 * (sets3 A).length + sl (sets3 A) ≤ memB A := by
  induction A with
  | nil => exact ⟨Nat.le_refl _, Nat.le_refl _, Nat.le_refl _⟩
  | cons a r ih =>
    have e1' : eN (a :: r) = a.2.2.2.2.2.length + eN r := rfl
    have e2' : tT (a :: r) = a.1.length + a.2.2.2.2.1.length + eT a.2.2.2.2.2 + tT r := rfl
    have e3' : memB (a :: r) = kM a + memB r := rfl
    have e0 : sets3 (a :: r) = (if a.2.1 = 3 then a.2.2.2.2.2.map (fun z => z.1) else []) ++ sets3 r := rfl
    rw [e0, e1', e2', e3', List.length_append, sl_app]
    by_cases c : a.2.1 = 3
    · have hk : kM a = 64 + a.1.length + a.2.2.2.2.1.length + 24 * a.2.2.2.2.2.length + eT a.2.2.2.2.2 := by unfold kM; rw [c]; rfl
      have := sl_names a.2.2.2.2.2
      rw [if_pos c, List.length_map, hk]; omega
    · rw [if_neg c]
      show 0 + _ ≤ _ ∧ 0 + _ ≤ _ ∧ 24 * (0 + _) + (0 + _) ≤ _
      omega
theorem sets3_mem {A : List AK} {a : AK} (ha : a ∈ A) (hs : a.2.1 = 3) {z : AE} (hz : z ∈ a.2.2.2.2.2) : z.1 ∈ sets3 A := by
  induction A with
  | nil => cases ha
  | cons b r ih =>
    show z.1 ∈ (if b.2.1 = 3 then b.2.2.2.2.2.map (fun z => z.1) else []) ++ sets3 r
    rcases List.mem_cons.mp ha with rfl | ha
    · rw [if_pos hs]; exact List.mem_append_left _ (List.mem_map_of_mem hz)
    · exact List.mem_append_right _ (ih ha)
theorem nodup_sub : ∀ (ms L : List (List Int32)), ms.Nodup → (∀ x ∈ ms, x ∈ L) → ms.length ≤ L.length ∧ sl ms ≤ sl L ∧ 24 * ms.length + sl ms ≤ 24 * L.length + sl L := by
  intro ms
  induction ms with
  | nil => intro L _ _; exact ⟨Nat.zero_le _, Nat.zero_le _, Nat.zero_le _⟩
  | cons x r ih =>
    intro L hn hs
    obtain ⟨n1, n2⟩ := List.nodup_cons.mp hn
    have hx := hs x List.mem_cons_self
    obtain ⟨P, Q, rfl⟩ := List.append_of_mem hx
    have k := ih (P ++ Q) n2 (fun y hy => by
      have := hs y (List.mem_cons_of_mem _ hy)
      rcases List.mem_append.mp this with h | h
      · exact List.mem_append_left _ h
      · rcases List.mem_cons.mp h with rfl | h
        · exact absurd hy n1
        · exact List.mem_append_right _ h)
    rw [sl_app] at k ⊢
    have e : sl (x :: Q) = x.length + sl Q := rfl
    have e' : sl (x :: r) = x.length + sl r := rfl
    rw [e, e']
    simp only [List.length_append, List.length_cons] at k ⊢
    omega
theorem SN_nodup {ms : List (List Int32)} (h : SN ms) : ms.Nodup := by
  refine h.imp (fun {a b} hab e => ?_)
  rw [e, cmpW_self] at hab; exact absurd hab (by decide)
theorem esA_ok {A : List AK} (hA : IA A) {w : List Int32} (hs : soT A w 3 = true) : SP (esA A w) ∧ ∀ z ∈ esA A w, WOK z.1 ∧ z.1 ∈ sets3 A ∧ mbT A w z.1 = true := by
  unfold esA mbT
  cases e : kyI A w with
  | none => exact ⟨List.Pairwise.nil, fun z hz => by cases hz⟩
  | some p =>
    obtain ⟨a, ha, -⟩ := kyI_get e
    obtain ⟨s1, s2, s3⟩ := soT_ky hA hs e ha
    show SP (match A[p]? with | some a => a.2.2.2.2.2 | none => []) ∧ ∀ z ∈ (match A[p]? with | some a => a.2.2.2.2.2 | none => []), WOK z.1 ∧ z.1 ∈ sets3 A ∧ (match A[p]? with | some a => skT z.1 a.2.2.2.2.2 | none => false) = true
    rw [ha]
    obtain ⟨h1, h2⟩ := e3.mp s3
    exact ⟨h1, fun z hz => ⟨(h2 z hz).1, sets3_mem (List.mem_of_getElem? ha) s1 hz, sk_mem h1 hz⟩⟩
theorem anT_mem {A : List AK} {v : List Int32} : ∀ {r : List (List Int32)} {w : List Int32}, w ∈ r → mbT A w v = true → anT A v r = true := by
  intro r
  induction r with
  | nil => intro w hw _; cases hw
  | cons y r ih =>
    intro w hw hm
    show (mbT A y v || anT A v r) = true
    rcases List.mem_cons.mp hw with rfl | hw
    · rw [hm, Bool.true_or]
    · rw [ih hw hm, Bool.or_true]
theorem soL_at {A : List AK} : ∀ {r : List (List Int32)} {w : List Int32}, soL A r = true → w ∈ r → soT A w 3 = true := by
  intro r
  induction r with
  | nil => intro w _ hw; cases hw
  | cons y r ih =>
    intro w h hw
    have h : (soT A y 3 && soL A r) = true := h
    rw [Bool.and_eq_true] at h
    rcases List.mem_cons.mp hw with rfl | hw
    · exact h.1
    · exact ih h.2 hw
/-- what has been piled up: rising, members of sets, found in the keys read so far -/
def RKI (A : List AK) (how : Nat) (seen : List (List Int32)) (ms : List (List Int32)) : Prop := SN ms ∧ ∀ x ∈ ms, WOK x ∧ x ∈ sets3 A ∧ (how = 1 → anT A x seen = true)
theorem rkL_ok {A : List AK} (hA : IA A) (how : Nat) (ws : List (List Int32)) (f : Nat) (hs : soL A (ws.drop f) = true) : ∀ (m a : Nat) (ms : List (List Int32)), f ≤ a → a + m ≤ ws.length → (how = 1 ∨ (m ≤ 1 ∧ (m = 1 → ms = []))) → RKI A how ((ws.drop f).take (a - f)) ms → ∃ seen, RKI A how seen (rkL how A ws f m a ms) := by
  intro m
  induction m with
  | zero => intro a ms _ _ _ h; exact ⟨_, h⟩
  | succ m ih =>
    intro a ms ha hm hh h
    have hal : a < ws.length := by omega
    have eg : ws.getD a [] = ws[a] := by rw [List.getD_eq_getElem?_getD, List.getElem?_eq_getElem hal]; rfl
    have hmem : ws[a] ∈ ws.drop f := by
      have e : (ws.drop f)[a - f]? = some ws[a] := by rw [List.getElem?_drop, show f + (a - f) = a by omega, List.getElem?_eq_getElem hal]
      exact List.mem_of_getElem? e
    have hso := soL_at hs hmem
    obtain ⟨o1, o2⟩ := esA_ok hA hso
    have hT : ∀ z ∈ esA A ws[a], rkT how A ws f a z = true → ∀ x ∈ ms, ¬ cmpW x z.1 = 0 := by
      intro z hz hz2 x hx c
      rcases hh with rfl | ⟨h1, h2⟩
      · have e : rkT 1 A ws f a z = !anT A z.1 ((ws.drop f).take (a - f)) := rfl
        rw [e] at hz2
        have ex := cmpW_eq _ _ (h.2 x hx).1.2 (o2 z hz).1.2 c
        rw [← ex, (h.2 x hx).2.2 rfl] at hz2; cases hz2
      · rw [h2 (by omega)] at hx; cases hx
    obtain ⟨k1, k2⟩ := rc_ok (rkT how A ws f a) (esA A ws[a]) ms h.1 o1 hT
    show ∃ seen, RKI A how seen (rkL how A ws f m (a + 1) (rcF (rkT how A ws f a) ms (esA A (ws.getD a []))))
    rw [eg]
    have hst : (ws.drop f).take (a + 1 - f) = (ws.drop f).take (a - f) ++ [ws[a]] := by
      rw [show a + 1 - f = (a - f) + 1 by omega, List.take_succ_eq_append_getElem (by rw [List.length_drop]; omega)]
      congr 2
      rw [List.getElem_drop]; congr 1; omega
    have hR : RKI A how ((ws.drop f).take (a + 1 - f)) (rcF (rkT how A ws f a) ms (esA A ws[a])) := by
      refine ⟨k1, fun x hx => ?_⟩
      rcases k2 x hx with hx | ⟨z, hz, _, rfl⟩
      · refine ⟨(h.2 x hx).1, (h.2 x hx).2.1, fun e => ?_⟩
        have := (h.2 x hx).2.2 e
        rw [hst]
        have gen : ∀ (r s : List (List Int32)), anT A x r = true → anT A x (r ++ s) = true := by
          intro r s
          induction r with
          | nil => intro z; cases z
          | cons y r ih2 =>
            intro z
            have z : (mbT A y x || anT A x r) = true := z
            show (mbT A y x || anT A x (r ++ s)) = true
            rcases Bool.or_eq_true _ _ |>.mp z with z | z
            · rw [z, Bool.true_or]
            · rw [ih2 z, Bool.or_true]
        exact gen _ _ this
      · refine ⟨(o2 z hz).1, (o2 z hz).2.1, fun _ => ?_⟩
        exact anT_mem (w := ws[a]) (by rw [hst]; exact List.mem_append_right _ List.mem_cons_self) (o2 z hz).2.2
    refine ih (a + 1) _ (by omega) (by omega) ?_ hR
    rcases hh with hh | ⟨h1, h2⟩
    · exact Or.inl hh
    · exact Or.inr ⟨by omega, fun e => by omega⟩
theorem rkM_ok {A : List AK} (hA : IA A) (how : Nat) (ws : List (List Int32)) (f : Nat) (hf : f + 1 ≤ ws.length) (hs : soL A (ws.drop f) = true) : SN (rkM how A ws f) ∧ (∀ x ∈ rkM how A ws f, WOK x) ∧ (rkM how A ws f).length ≤ eN A ∧ sl (rkM how A ws f) ≤ tT A ∧ 24 * (rkM how A ws f).length + sl (rkM how A ws f) ≤ memB A := by
  have h0 : RKI A how ((ws.drop f).take (f - f)) [] := ⟨List.Pairwise.nil, fun x hx => by cases hx⟩
  obtain ⟨seen, h⟩ := rkL_ok hA how ws f hs (if how = 1 then ws.length - f else 1) f [] (Nat.le_refl _) (by split <;> omega) (by by_cases c : how = 1; exact Or.inl c; rw [if_neg c]; exact Or.inr ⟨Nat.le_refl _, fun _ => rfl⟩) h0
  have h : RKI A how seen (rkM how A ws f) := h
  have n := nodup_sub _ (sets3 A) (SN_nodup h.1) (fun x hx => (h.2 x hx).2.1)
  have m := sets3_m A
  exact ⟨h.1, fun x hx => (h.2 x hx).1, by omega, by omega, by omega⟩
theorem rsE_m : ∀ ms : List (List Int32), eT (rsE ms) = sl ms ∧ (rsE ms).length = ms.length := by
  intro ms
  induction ms with
  | nil => exact ⟨rfl, rfl⟩
  | cons m r ih =>
    refine ⟨?_, by unfold rsE; rw [List.length_map]⟩
    show m.length + 0 + eT (rsE r) = m.length + sl r
    rw [ih.1]; omega
theorem up_mem {A : List AK} {p : Nat} {f : AK → AK} {b : AK} (h : b ∈ upA A p f) : b ∈ A ∨ ∃ a, b = f a := by
  induction A generalizing p with
  | nil => cases h
  | cons a r ih =>
    cases p with
    | zero =>
      rcases List.mem_cons.mp h with rfl | h
      · exact Or.inr ⟨a, rfl⟩
      · exact Or.inl (List.mem_cons_of_mem _ h)
    | succ p =>
      rcases List.mem_cons.mp h with rfl | h
      · exact Or.inl List.mem_cons_self
      · exact (ih h).imp (fun z => List.mem_cons_of_mem _ z) id
theorem oz_rr {A : List AK} {w : List Int32} {ms : List (List Int32)} {X : Nat} (hX : OZ X A) {b : AK} (hb : b ∈ upA (orA A w 3).1 (orA A w 3).2 (fun a => (a.1, 3, 0, 0, [], rsE ms))) (hb4 : b.2.1 = 4) : eT b.2.2.2.2.2 ≤ X := by
  rcases up_mem hb with h | ⟨a, rfl⟩
  · cases e : kyI A w with
    | some p => rw [orA_some e] at h; exact hX b h hb4
    | none =>
      rw [orA_none e] at h
      have h : b ∈ inA A (plF (anm A) w) (w, 3, 0, 0, [], []) := h
      unfold inA at h
      rcases List.mem_append.mp h with h | h
      · exact hX b (List.mem_of_mem_take h) hb4
      · rcases List.mem_cons.mp h with rfl | h
        · exact absurd (show (3 : Int32) = 4 from hb4) (by decide)
        · exact hX b (List.mem_of_mem_drop h) hb4
  · exact absurd (show (3 : Int32) = 4 from hb4) (by decide)
theorem g_rr {A A' : List AK} {w : List Int32} {ms : List (List Int32)} (hA : IA A) (hw : WOK w) (h1 : SN ms) (h2 : ∀ x ∈ ms, WOK x) (h : rrF A w ms = some A') : IA A' ∧ MS A A' 1 (w.length + sl ms) ms.length (64 + w.length + (24 * ms.length + sl ms)) w.length ∧ ∀ X, OZ X A → OZ X A' := by
  unfold rrF at h
  by_cases c : ms = []
  · rw [if_pos c] at h
    cases e : kyI A w with
    | none => rw [e] at h; cases h
    | some p =>
      rw [e] at h; cases h
      obtain ⟨k1, k2⟩ := rmU (p := p) hA
      exact ⟨k1, k2.up (Nat.zero_le _) (Nat.zero_le _) (Nat.zero_le _) (Nat.zero_le _) (Nat.zero_le _), fun X hX => k2.2 X hX⟩
  · rw [if_neg c] at h; cases h
    have hm := rsE_m ms
    rw [← and_assoc]
    refine ⟨mkU (f := fun a => (a.1, 3, 0, 0, [], rsE ms)) hA (fun _ => rfl) (fun a ka => ⟨?_, ?_, ?_, ?_⟩) (fun a h => absurd (show (3 : Int32) = 4 from h) (by decide)), fun X hX b hb hb4 => ?_⟩
    rotate_left 4
    · exact oz_rr hX hb hb4
    · have hN : WOK a.1 := by
        rcases kA_ok hA ka with rfl | ok
        · exact hw
        · exact ok.1
      refine ⟨hN, Nat.zero_le _, e3.mpr ⟨?_, fun z hz => ?_⟩, fun _ => ⟨fun z => c ?_, rfl⟩, Or.inl ⟨rfl, rfl⟩, Or.inr (Or.inr (Or.inr (Or.inl rfl)))⟩
      · rw [SP_map]; show ((rsE ms).map (fun z => z.1)).Pairwise _
        unfold rsE; rw [List.map_map]
        have : (fun z : AE => z.1) ∘ (fun m : List Int32 => ((m, [], 0) : AE)) = id := rfl
        rw [this, List.map_id]; exact h1
      · have hz : z ∈ rsE ms := hz
        unfold rsE at hz
        obtain ⟨m, hm1, rfl⟩ := List.mem_map.mp hz
        exact ⟨h2 m hm1, rfl⟩
      · have z : rsE ms = [] := z
        have := hm.2; rw [z] at this; exact List.length_eq_zero_iff.mp this.symm
    · show a.1.length + 0 + eT (rsE ms) ≤ a.1.length + a.2.2.2.2.1.length + eT a.2.2.2.2.2 + sl ms; omega
    · show (rsE ms).length ≤ _ + ms.length; omega
    · show 64 + a.1.length + 0 + memW 3 * (rsE ms).length + eT (rsE ms) ≤ 64 + a.1.length + a.2.2.2.2.1.length + memW a.2.1 * a.2.2.2.2.2.length + eT a.2.2.2.2.2 + (24 * ms.length + sl ms)
      have ew : memW 3 = 24 := rfl
      rw [hm.1, hm.2, ew]; omega
end GROW5
