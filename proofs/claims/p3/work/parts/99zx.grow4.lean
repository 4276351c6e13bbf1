/-! What the commands keep: a new name, moves, what is reckoned of sets. -/
section GROW4
theorem SRT_pw {A : List AK} : SRT A ↔ A.Pairwise (fun a b => cmpW a.1 b.1 < 0) := by
  rw [List.pairwise_iff_getElem]
  unfold SRT SRN anm
  rw [List.length_map]
  have e : ∀ i (h : i < A.length), (A.map (fun a => a.1)).getD i [] = (A[i]).1 := fun i h => by
    rw [List.getD_eq_getElem?_getD, List.getElem?_map, List.getElem?_eq_getElem h]; rfl
  refine ⟨fun h i j hi hj hij => ?_, fun h i j hij hj => ?_⟩
  · have := h i j hij hj; rw [e i hi, e j hj] at this; exact this
  · rw [e i (by omega), e j hj]; exact h i j (by omega) hj hij
theorem ky_no {A : List AK} {w : List Int32} (hA : IA A) (hw : WOK w) : kyI A w = none ↔ ∀ a ∈ A, a.1 ≠ w := by
  refine ⟨fun h a ha e => ?_, fun h => ?_⟩
  · obtain ⟨i, hi, hg⟩ := List.mem_iff_getElem.mp ha
    have hl : (anm A).length = A.length := anm_len A
    have en : ∀ j (h : j < A.length), (anm A).getD j [] = (A[j]).1 := fun j h => by
      unfold anm; rw [List.getD_eq_getElem?_getD, List.getElem?_map, List.getElem?_eq_getElem h]; rfl
    have hp : plF (anm A) w = i := by
      refine plF_uniq hA.1 w i (by omega) (fun j hj => ?_) (fun j h1 h2 => ?_)
      · have := hA.1 j i hj (by omega)
        rw [en i hi, hg, e] at this; exact this
      · by_cases c : j = i
        · subst c; rw [en j hi, hg, e, cmpW_self]; decide
        · have := hA.1 i j (by omega) h2
          rw [en i hi, hg, e] at this
          rw [cmpW_anti w]; omega
    unfold kyI at h
    rw [hp, List.getElem?_eq_getElem hi, hg] at h
    have h : (if cmpW a.1 w = 0 then some i else none) = none := h
    rw [if_pos (by rw [e]; exact cmpW_self w)] at h; cases h
  · cases hk : kyI A w with
    | none => rfl
    | some p =>
      obtain ⟨a, ha, hc⟩ := kyI_get hk
      have hm := List.mem_of_getElem? ha
      exact absurd (cmpW_eq _ _ (hA.2 a hm).1.2 hw.2 hc) (h a hm)
theorem SRT_in {B : List AK} {w : List Int32} {x : AK} (hB : IA B) (hw : WOK w) (hx : x.1 = w) (hn : ∀ b ∈ B, b.1 ≠ w) : SRT (inA B (plF (anm B) w) x) := by
  have hk := (ky_no hB hw).mpr hn
  have e := SRN_in hB.1 w (kyI_hn hk)
  unfold SRT; rw [anm_in, hx]; exact e.1
theorem rnU {A : List AK} {p : Nat} {a : AK} {w : List Int32} (hA : IA A) (ha : A[p]? = some a) (hw : WOK w) (hn : ∀ b ∈ rmA A p, b.1 ≠ w) : IA (rnA A p w) ∧ MS A (rnA A p w) 0 w.length 0 w.length w.length := by
  have e : rnA A p w = inA (rmA A p) (plF (anm (rmA A p)) w) (w, a.2) := by unfold rnA; rw [ha]
  rw [e]
  obtain ⟨hB, hM⟩ := rmU (p := p) hA
  have ok := hA.2 a (List.mem_of_getElem? ha)
  refine ⟨⟨SRT_in hB hw rfl hn, fun x hx => ?_⟩, ?_⟩
  · unfold inA at hx
    rcases List.mem_append.mp hx with hx | hx
    · exact hB.2 x (List.mem_of_mem_take hx)
    · rcases List.mem_cons.mp hx with rfl | hx
      · exact ⟨hw, ok.2⟩
      · exact hB.2 x (List.mem_of_mem_drop hx)
  · obtain ⟨P, Q, rfl, rfl⟩ := get_split ha
    rw [rmA_at]
    generalize plF (anm (P ++ Q)) w = k
    have m := MS_in (P := (P ++ Q).take k) (Q := (P ++ Q).drop k) (a := (w, a.2))
    rw [List.take_append_drop] at m
    have e2 : P ++ a :: Q = P ++ ([a] ++ Q) := rfl
    have t1 : tT [(w, a.2)] ≤ tT [a] + w.length := by show w.length + a.2.2.2.2.1.length + eT a.2.2.2.2.2 + 0 ≤ a.1.length + a.2.2.2.2.1.length + eT a.2.2.2.2.2 + 0 + w.length; omega
    have t2 : eN [(w, a.2)] = eN [a] := rfl
    have t3 : kM (w, a.2) ≤ kM a + w.length := by show 64 + w.length + a.2.2.2.2.1.length + memW a.2.1 * a.2.2.2.2.2.length + eT a.2.2.2.2.2 ≤ 64 + a.1.length + a.2.2.2.2.1.length + memW a.2.1 * a.2.2.2.2.2.length + eT a.2.2.2.2.2 + w.length; omega
    have t4 : memB [a] = kM a := rfl
    have hnb : nB [a] = a.1.length + 0 := rfl
    refine ⟨?_, fun X hX z hz1 hz2 => ?_⟩
    · have m1 := m.1
      unfold inA
      rw [e2]
      rw [tT_app P Q, eN_app P Q, memB_app P Q, nB_app P Q] at m1
      rw [tT_app P ([a] ++ Q), tT_app [a] Q, eN_app P ([a] ++ Q), eN_app [a] Q, memB_app P ([a] ++ Q), memB_app [a] Q, nB_app P ([a] ++ Q), nB_app [a] Q]
      simp only [List.length_append, List.length_cons, List.length_nil] at m1 ⊢
      omega
    · unfold inA at hz1
      rcases List.mem_append.mp hz1 with y | y
      · have y := List.mem_of_mem_take y
        have := hX z (by
          rcases List.mem_append.mp y with y | y
          · exact List.mem_append_left _ y
          · exact List.mem_append_right _ (List.mem_cons_of_mem _ y)) hz2
        omega
      · rcases List.mem_cons.mp y with rfl | y
        · have := hX a (List.mem_append_right _ List.mem_cons_self) hz2
          show eT a.2.2.2.2.2 ≤ _; omega
        · have y := List.mem_of_mem_drop y
          have := hX z (by
            rcases List.mem_append.mp y with y | y
            · exact List.mem_append_left _ y
            · exact List.mem_append_right _ (List.mem_cons_of_mem _ y)) hz2
          omega
theorem rm_mem {A : List AK} {p : Nat} {b : AK} (h : b ∈ rmA A p) : b ∈ A := by
  induction A generalizing p with
  | nil => exact h
  | cons a r ih =>
    cases p with
    | zero => exact List.mem_cons_of_mem _ h
    | succ p =>
      rcases List.mem_cons.mp h with rfl | h
      · exact List.mem_cons_self
      · exact List.mem_cons_of_mem _ (ih h)
theorem rm_ne {A : List AK} {p : Nat} {a : AK} (hA : SRT A) (ha : A[p]? = some a) : ∀ b ∈ rmA A p, b.1 ≠ a.1 := by
  obtain ⟨P, Q, rfl, rfl⟩ := get_split ha
  rw [rmA_at]
  obtain ⟨p1, p2, p3⟩ := List.pairwise_append.mp (SRT_pw.mp hA)
  intro b hb e
  rcases List.mem_append.mp hb with hb | hb
  · have := p3 b hb a List.mem_cons_self; rw [e, cmpW_self] at this; exact absurd this (by decide)
  · have := (List.pairwise_cons.mp p2).1 b hb; rw [e, cmpW_self] at this; exact absurd this (by decide)
theorem g_re {A A' : List AK} {w1 w2 : List Int32} {i1 : Nat} (hA : IA A) (hw : WOK w2) (h : reF A w1 w2 i1 = some A') : IA A' ∧ MS A A' 0 w2.length 0 w2.length w2.length := by
  unfold reF at h
  cases e : kyI A w1 with
  | none => rw [e] at h; cases h
  | some p =>
    rw [e] at h
    obtain ⟨a, ha, -⟩ := kyI_get e
    have h : (if kyI A w2 = some p then none else (match kyI A w2 with | none => some (rnA A p w2) | some q => if i1 = 26 then none else some (rnA (rmA A q) (if q < p then p - 1 else p) w2))) = some A' := h
    by_cases c : kyI A w2 = some p
    · rw [if_pos c] at h; cases h
    · rw [if_neg c] at h
      cases f : kyI A w2 with
      | none =>
        rw [f] at h; cases h
        exact rnU hA ha hw (fun b hb => (ky_no hA hw).mp f b (rm_mem hb))
      | some q =>
        rw [f] at h
        have h : (if i1 = 26 then none else some (rnA (rmA A q) (if q < p then p - 1 else p) w2)) = some A' := h
        by_cases z : i1 = 26
        · rw [if_pos z] at h; cases h
        · rw [if_neg z] at h; cases h
          obtain ⟨y, hy, hyc⟩ := kyI_get f
          have eyw : y.1 = w2 := cmpW_eq _ _ (hA.2 y (List.mem_of_getElem? hy)).1.2 hw.2 hyc
          obtain ⟨hB, hM⟩ := rmU (p := q) hA
          have hqp : q ≠ p := fun z => c (by rw [f, z])
          have hg : (rmA A q)[if q < p then p - 1 else p]? = some a := by
            rw [rmA_get]
            by_cases l : q < p
            · rw [if_pos l, if_neg (by omega), show p - 1 + 1 = p by omega]; exact ha
            · rw [if_neg l, if_pos (by omega)]; exact ha
          obtain ⟨k1, k2⟩ := rnU hB hg hw (fun b hb => by rw [← eyw]; exact rm_ne hA.1 hy b (rm_mem hb))
          exact ⟨k1, (hM.tr k2).up (Nat.le_refl _) (by omega) (Nat.le_refl _) (by omega) (by omega)⟩
theorem upA_comm {f h : AK → AK} : ∀ (A : List AK) (p r : Nat), p ≠ r → upA (upA A p f) r h = upA (upA A r h) p f := by
  intro A
  induction A with
  | nil => intro p r _; rfl
  | cons a A ih =>
    intro p r hpr
    cases p with
    | zero =>
      cases r with
      | zero => exact absurd rfl hpr
      | succ r => rfl
    | succ p =>
      cases r with
      | zero => rfl
      | succ r => show a :: upA (upA A p f) r h = a :: upA (upA A r h) p f; rw [ih p r (by omega)]
theorem upA_none {f : AK → AK} : ∀ (A : List AK) (p : Nat), A[p]? = none → upA A p f = A := by
  intro A
  induction A with
  | nil => intro p _; rfl
  | cons a A ih =>
    intro p h
    cases p with
    | zero => cases h
    | succ p => show a :: upA A p f = a :: A; rw [ih p h]
theorem inA_up {f : AK → AK} {A : List AK} {p k : Nat} {a x : AK} (ha : A[p]? = some a) (hk : k ≤ A.length) : inA (upA A p f) k x = upA (inA A k x) (if k ≤ p then p + 1 else p) f := by
  apply List.ext_getElem?
  intro i
  have hg : ∀ (B : List AK), k ≤ B.length → (inA B k x)[i]? = if i < k then B[i]? else if i = k then some x else B[i - 1]? := by
    intro B hB
    unfold inA
    by_cases c : i < k
    · rw [if_pos c, List.getElem?_append_left (by rw [List.length_take]; omega), List.getElem?_take_of_lt c]
    · rw [if_neg c, List.getElem?_append_right (by rw [List.length_take]; omega), List.length_take, Nat.min_eq_left hB]
      by_cases c2 : i = k
      · rw [if_pos c2, c2, Nat.sub_self]; rfl
      · rw [if_neg c2, show i - k = (i - 1 - k) + 1 by omega]
        show (B.drop k)[i - 1 - k]? = _
        rw [List.getElem?_drop, show k + (i - 1 - k) = i - 1 by omega]
  rw [hg (upA A p f) (by rw [upA_len]; exact hk), upA_get (inA A k x), hg A hk, upA_get A p f i, upA_get A p f (i - 1)]
  by_cases c0 : k ≤ p
  · rw [if_pos c0]
    by_cases c1 : i < k
    · rw [if_pos c1, if_neg (by omega), if_neg (by omega), if_pos c1]
    · rw [if_neg c1]
      by_cases c2 : i = k
      · rw [if_pos c2, if_neg (by omega), if_neg c1, if_pos c2]
      · rw [if_neg c2]
        by_cases c3 : i = p + 1
        · rw [if_pos (by omega), if_pos c3, if_neg c1, if_neg c2]
        · rw [if_neg (by omega), if_neg c3, if_neg c1, if_neg c2]
  · rw [if_neg c0]
    by_cases c1 : i < k
    · rw [if_pos c1, if_pos c1]
    · rw [if_neg c1, if_neg c1, if_neg (show ¬ i = p by omega)]
      by_cases c2 : i = k
      · rw [if_pos c2, if_pos c2]
      · rw [if_neg c2, if_neg c2, if_neg (by omega)]
theorem rmA_up {f : AK → AK} : ∀ (A : List AK) (p : Nat), rmA (upA A p f) p = rmA A p := by
  intro A
  induction A with
  | nil => intro p; rfl
  | cons a A ih =>
    intro p
    cases p with
    | zero => rfl
    | succ p => show a :: rmA (upA A p f) p = a :: rmA A p; rw [ih]
theorem stl1_up {D : List AK} {p : Nat} {a : AK} {g : List AE → List AE} (ha : D[p]? = some a) : stl1 (upA D p (esF g)) p = stlA D p g := by
  unfold stl1 stlA
  rw [upA_get, if_pos rfl, ha]
  show (if g a.2.2.2.2.2 = [] then rmA (upA D p (esF g)) p else upA D p (esF g)) = if g a.2.2.2.2.2 = [] then rmA D p else upA D p (esF g)
  rw [rmA_up]
/-- an element goes from a key to another one -/
theorem mvU {A : List AK} {p : Nat} {a : AK} {w2 : List Int32} {s : Int32} {g f : List AE → List AE} {x1 x2 : Nat} (hA : IA A) (ha : A[p]? = some a) (hs2 : soT A w2 s = true) (h0 : s = 1 ∨ s = 2 ∨ s = 3 ∨ s = 4) (hw : WOK w2) (hg : ∀ es, (g es).Sublist es) (hf : EU s f x1 x2) (hne : kyI A w2 ≠ some p) : ∃ D q, stl1 (upA (orA (upA A p (esF g)) w2 s).1 (orA (upA A p (esF g)) w2 s).2 (esF f)) (if kyI (upA A p (esF g)) w2 = none ∧ (orA (upA A p (esF g)) w2 s).2 ≤ p then p + 1 else p) = stlA D q g ∧ D[q]? = some a ∧ IA D ∧ MS A D 1 (w2.length + x1) x2 (64 + w2.length + (x1 + memW s * x2)) w2.length := by
  have ek : kyI (upA A p (esF g)) w2 = kyI A w2 := kyI_up A p (esF g) (fun _ => rfl) w2
  rw [ek]
  have mk := mkE hA hs2 h0 hw hf
  cases h : kyI A w2 with
  | some r =>
    have hrp : r ≠ p := fun z => hne (by rw [h, z])
    rw [orA_some h] at mk
    rw [orA_some (ek.trans h), if_neg (fun z => by cases z.1)]
    refine ⟨upA A r (esF f), p, ?_, ?_, mk.1, mk.2⟩
    · show stl1 (upA (upA A p (esF g)) r (esF f)) p = _
      have hD : (upA A r (esF f))[p]? = some a := by rw [upA_get, if_neg (fun z => hrp z.symm)]; exact ha
      rw [upA_comm A p r (fun z => hrp z.symm)]; exact stl1_up hD
    · rw [upA_get, if_neg (fun z => hrp z.symm)]; exact ha
  | none =>
    have hpl : plF (anm (upA A p (esF g))) w2 = plF (anm A) w2 := by rw [anm_up A p (esF g) (fun _ => rfl)]
    have hk := plF_le (anm A) w2
    rw [anm_len] at hk
    rw [orA_none h] at mk
    rw [orA_none (ek.trans h), hpl]
    generalize plF (anm A) w2 = k at mk hk
    obtain ⟨q, hq⟩ : ∃ q, q = if k ≤ p then p + 1 else p := ⟨_, rfl⟩
    have hqk : q ≠ k := by rw [hq]; split <;> omega
    have hqD : (upA (inA A k (w2, s, 0, 0, [], [])) k (esF f))[q]? = some a := by
      rw [upA_get, if_neg hqk]
      unfold inA
      by_cases c : k ≤ p
      · rw [hq, if_pos c, List.getElem?_append_right (by rw [List.length_take]; omega), List.length_take, Nat.min_eq_left hk, show p + 1 - k = (p - k) + 1 by omega]
        show (A.drop k)[p - k]? = _
        rw [List.getElem?_drop, show k + (p - k) = p by omega]; exact ha
      · rw [hq, if_neg c, List.getElem?_append_left (by rw [List.length_take]; omega), List.getElem?_take_of_lt (by omega)]; exact ha
    refine ⟨upA (inA A k (w2, s, 0, 0, [], [])) k (esF f), q, ?_, hqD, mk.1, mk.2⟩
    show stl1 (upA (inA (upA A p (esF g)) k (w2, s, 0, 0, [], [])) k (esF f)) (if none = none ∧ k ≤ p then p + 1 else p) = _
    have eq : (if (none : Option Nat) = none ∧ k ≤ p then p + 1 else p) = q := by
      rw [hq]
      by_cases c : k ≤ p
      · rw [if_pos ⟨rfl, c⟩, if_pos c]
      · rw [if_neg (fun z => c z.2), if_neg c]
    rw [eq, inA_up ha hk, ← hq, upA_comm _ q k hqk]
    exact stl1_up hqD
theorem ps1_ok {x : List Int32} (hx : WOK x) (b : Bool) : EU 1 (fun es => if b = true then es ++ [(x, [], 0)] else (x, [], 0) :: es) x.length 1 := by
  intro es h
  cases b with
  | true =>
    show ELS 1 (es ++ [(x, [], 0)]) ∧ es ++ [(x, [], 0)] ≠ [] ∧ eT (es ++ [(x, [], 0)]) ≤ eT es + x.length ∧ (es ++ [(x, [], 0)]).length ≤ es.length + 1
    refine ⟨e1.mpr (fun z hz => ?_), by simp, ?_, ?_⟩
    · rcases List.mem_append.mp hz with hz | hz
      · exact e1.mp h z hz
      · rw [List.mem_singleton.mp hz]; exact ⟨hx, rfl⟩
    · rw [eT_app]; show _ + (x.length + 0 + 0) ≤ _; omega
    · rw [List.length_append]; exact Nat.le_refl _
  | false =>
    show ELS 1 ((x, [], 0) :: es) ∧ (x, [], 0) :: es ≠ [] ∧ eT ((x, [], 0) :: es) ≤ eT es + x.length ∧ ((x, [], 0) :: es).length ≤ es.length + 1
    refine ⟨e1.mpr (fun z hz => ?_), by simp, ?_, ?_⟩
    · rcases List.mem_cons.mp hz with rfl | hz
      · exact ⟨hx, rfl⟩
      · exact e1.mp h z hz
    · show x.length + 0 + eT es ≤ _; omega
    · exact Nat.le_refl _
theorem hdW_mem {es : List AE} (h : es ≠ []) : ∃ z ∈ es, z.1 = hdW es := by
  cases es with
  | nil => exact absurd rfl h
  | cons z r => exact ⟨z, List.mem_cons_self, rfl⟩
theorem g_mv {A A' : List AK} {w1 w2 : List Int32} {fl tl : Int32} (hA : IA A) (hs1 : soT A w1 1 = true) (hs2 : soT A w2 1 = true) (hw : WOK w2) (h : mvF A w1 w2 fl tl = some A') : IA A' ∧ MS A A' 1 (w2.length + 16384) 1 (64 + w2.length + (16384 + 16)) w2.length := by
  unfold mvF at h
  cases e : kyI A w1 with
  | none => rw [e] at h; cases h
  | some p =>
    rw [e] at h
    obtain ⟨a, ha, -⟩ := kyI_get e
    obtain ⟨s1, s2, s3⟩ := soT_ky hA hs1 e ha
    have hne := (s2.2.2.2.1 (by rw [s1]; decide)).1
    obtain ⟨x, hx⟩ : ∃ x, x = if fl = 0 then laW a.2.2.2.2.2 else hdW a.2.2.2.2.2 := ⟨_, rfl⟩
    have hxw : WOK x := by
      rw [hx]
      by_cases c : fl = 0
      · rw [if_pos c]
        obtain ⟨z, hz, e⟩ := hdW_mem (es := a.2.2.2.2.2.reverse) (fun z => hne (List.reverse_eq_nil_iff.mp z))
        show WOK (hdW a.2.2.2.2.2.reverse)
        rw [← e]; exact (s3.1 z (List.mem_reverse.mp hz)).1
      · rw [if_neg c]
        obtain ⟨z, hz, e⟩ := hdW_mem hne
        rw [← e]; exact (s3.1 z hz).1
    obtain ⟨g, hg⟩ : ∃ g : List AE → List AE, g = fun es => if fl = 0 then es.dropLast else es.tail := ⟨_, rfl⟩
    have hgs : ∀ es, (g es).Sublist es := fun es => by
      rw [hg]
      show (if fl = 0 then es.dropLast else es.tail).Sublist es
      by_cases c : fl = 0
      · rw [if_pos c]; exact List.dropLast_sublist es
      · rw [if_neg c]; exact List.tail_sublist es
    obtain ⟨f, hf⟩ : ∃ f : List AE → List AE, f = fun es => if decide (tl = 0) = true then es ++ [(x, [], 0)] else (x, [], 0) :: es := ⟨_, rfl⟩
    have hfe : (fun es : List AE => if tl = 0 then es ++ [((if fl = 0 then laW a.2.2.2.2.2 else hdW a.2.2.2.2.2), [], 0)] else ((if fl = 0 then laW a.2.2.2.2.2 else hdW a.2.2.2.2.2), [], (0 : Int64)) :: es) = f := by
      rw [hf, ← hx]
      funext es
      by_cases c : tl = 0
      · rw [if_pos c, if_pos (decide_eq_true c)]
      · rw [if_neg c, if_neg (fun z => c (of_decide_eq_true z))]
    have hfE : EU 1 f x.length 1 := by rw [hf]; exact ps1_ok hxw (decide (tl = 0))
    have h : (match A[p]? with
      | none => none
      | some a => some (stl1 (upA (orA (upA A p (esF g)) w2 1).1 (orA (upA A p (esF g)) w2 1).2 (esF (fun es => if tl = 0 then es ++ [((if fl = 0 then laW a.2.2.2.2.2 else hdW a.2.2.2.2.2), [], 0)] else ((if fl = 0 then laW a.2.2.2.2.2 else hdW a.2.2.2.2.2), [], 0) :: es)))
        (if kyI (upA A p (esF g)) w2 = none ∧ (orA (upA A p (esF g)) w2 1).2 ≤ p then p + 1 else p))) = some A' := by rw [hg]; exact h
    rw [ha] at h
    have h : some (stl1 (upA (orA (upA A p (esF g)) w2 1).1 (orA (upA A p (esF g)) w2 1).2 (esF (fun es => if tl = 0 then es ++ [((if fl = 0 then laW a.2.2.2.2.2 else hdW a.2.2.2.2.2), [], 0)] else ((if fl = 0 then laW a.2.2.2.2.2 else hdW a.2.2.2.2.2), [], 0) :: es))) (if kyI (upA A p (esF g)) w2 = none ∧ (orA (upA A p (esF g)) w2 1).2 ≤ p then p + 1 else p)) = some A' := h
    rw [hfe] at h
    have hxl := hxw.1
    by_cases c : kyI A w2 = some p
    · have ek : kyI (upA A p (esF g)) w2 = some p := (kyI_up A p (esF g) (fun _ => rfl) w2).trans c
      rw [orA_some ek, ek, if_neg (fun z => by cases z.1), upA_upA] at h
      have h : stl1 (upA A p (fun a => esF f (esF g a))) p = A' := Option.some.inj h
      obtain ⟨k1, k2, k3, k4⟩ := hfE (g a.2.2.2.2.2) (s3.sub (hgs _))
      have sb := eT_sub (hgs a.2.2.2.2.2)
      have k := kM_es (a := a) (g := fun es => f (g es)) (x1 := x.length) (x2 := 1) (by show eT (f (g a.2.2.2.2.2)) ≤ _; omega) (by show (f (g a.2.2.2.2.2)).length ≤ _; omega)
      rw [s1] at k
      have u := upU (f := fun a => esF f (esF g a)) hA ha rfl ⟨AOK_es (g := fun es => f (g es)) s2 (by rw [s1]; exact k1) k2, k⟩
      have es : stl1 (upA A p (fun a => esF f (esF g a))) p = upA A p (fun a => esF f (esF g a)) := by
        unfold stl1
        rw [upA_get, if_pos rfl, ha]
        show (if f (g a.2.2.2.2.2) = [] then _ else _) = _
        rw [if_neg k2]
      rw [es] at h
      rw [← h]
      exact ⟨u.1, u.2.up (by omega) (by omega) (Nat.le_refl _) (by show x.length + 16 * 1 ≤ _; omega)⟩
    · obtain ⟨D, q, d1, d2, d3, d4⟩ := mvU hA ha hs2 (Or.inl rfl) hw hgs hfE c
      rw [d1] at h
      have h : stlA D q g = A' := Option.some.inj h
      obtain ⟨k1, k2⟩ := stU (p := q) (g := g) d3 (fun b _ => hgs _)
      rw [← h]
      exact ⟨k1, (d4.tr k2).up (by omega) (by omega) (by omega) (by show 64 + w2.length + (x.length + 16 * 1) + 0 ≤ _; omega)⟩
theorem rmE_len {es : List AE} {i : Nat} (h : i < es.length) : (rmE i es).length + 1 = es.length := by
  obtain ⟨z, hz⟩ : ∃ z, es[i]? = some z := ⟨es[i], List.getElem?_eq_getElem h⟩
  obtain ⟨P, Q, rfl, rfl⟩ := get_split hz
  rw [rmE_at, List.length_append, List.length_append, List.length_cons]; omega
theorem skT_lt {v : List Int32} {es : List AE} (h : skT v es = true) : skI v es < es.length := by
  unfold skT at h
  cases e : es[skI v es]? with
  | none => rw [e] at h; cases h
  | some z => exact (List.getElem?_eq_some_iff.mp e).1
theorem g_sm {A A' : List AK} {w1 w2 v : List Int32} (hA : IA A) (hs1 : soT A w1 3 = true) (hs2 : soT A w2 3 = true) (hw : WOK w2) (hv : WOK v) (h : smF A w1 w2 v = some A') : IA A' ∧ MS A A' 1 (w2.length + v.length) 0 (64 + w2.length + v.length) w2.length := by
  unfold smF at h
  cases e : kyI A w1 with
  | none => rw [e] at h; cases h
  | some p =>
    rw [e] at h
    obtain ⟨a, ha, -⟩ := kyI_get e
    obtain ⟨s1, s2, s3⟩ := soT_ky hA hs1 e ha
    have h : (match A[p]? with
      | none => none
      | some a => if skT v a.2.2.2.2.2 = true then (if kyI A w2 = some p then none else
        some (stl1 (upA (orA (upA A p (esF (rmE (skI v a.2.2.2.2.2)))) w2 3).1 (orA (upA A p (esF (rmE (skI v a.2.2.2.2.2)))) w2 3).2 (esF (ptE v)))
          (if kyI (upA A p (esF (rmE (skI v a.2.2.2.2.2)))) w2 = none ∧ (orA (upA A p (esF (rmE (skI v a.2.2.2.2.2)))) w2 3).2 ≤ p then p + 1 else p))) else none) = some A' := h
    rw [ha] at h
    have h : (if skT v a.2.2.2.2.2 = true then (if kyI A w2 = some p then none else
        some (stl1 (upA (orA (upA A p (esF (rmE (skI v a.2.2.2.2.2)))) w2 3).1 (orA (upA A p (esF (rmE (skI v a.2.2.2.2.2)))) w2 3).2 (esF (ptE v)))
          (if kyI (upA A p (esF (rmE (skI v a.2.2.2.2.2)))) w2 = none ∧ (orA (upA A p (esF (rmE (skI v a.2.2.2.2.2)))) w2 3).2 ≤ p then p + 1 else p))) else none) = some A' := h
    by_cases c1 : skT v a.2.2.2.2.2 = true
    · rw [if_pos c1] at h
      by_cases c : kyI A w2 = some p
      · rw [if_pos c] at h; cases h
      · rw [if_neg c] at h
        obtain ⟨D, q, d1, d2, d3, d4⟩ := mvU (g := rmE (skI v a.2.2.2.2.2)) hA ha hs2 (Or.inr (Or.inr (Or.inl rfl))) hw (fun es => rmE_sub es _) (pt_ok hv) c
        rw [d1] at h
        have h : stlA D q (rmE (skI v a.2.2.2.2.2)) = A' := Option.some.inj h
        obtain ⟨k1, k2⟩ := stU (p := q) (g := rmE (skI v a.2.2.2.2.2)) d3 (fun b _ => rmE_sub _ _)
        rw [← h]
        refine ⟨k1, ?_⟩
        have hlen := rmE_len (skT_lt c1)
        have hsub := eT_sub (rmE_sub a.2.2.2.2.2 (skI v a.2.2.2.2.2))
        have ew : memW 3 = 24 := rfl
        rw [ew] at d4
        have fin : eN (stlA D q (rmE (skI v a.2.2.2.2.2))) + 1 ≤ eN D ∧ memB (stlA D q (rmE (skI v a.2.2.2.2.2))) + 24 ≤ memB D := by
          obtain ⟨P, Q, rfl, rfl⟩ := get_split d2
          have es : eN (P ++ a :: Q) = eN P + (a.2.2.2.2.2.length + eN Q) := by rw [eN_app]; rfl
          have em : memB (P ++ a :: Q) = memB P + (kM a + memB Q) := by rw [memB_app]; rfl
          have hk : kM a = 64 + a.1.length + a.2.2.2.2.1.length + 24 * a.2.2.2.2.2.length + eT a.2.2.2.2.2 := by unfold kM; rw [s1]; rfl
          unfold stlA
          rw [d2]
          show eN (if rmE (skI v a.2.2.2.2.2) a.2.2.2.2.2 = [] then rmA (P ++ a :: Q) P.length else upA (P ++ a :: Q) P.length (esF (rmE (skI v a.2.2.2.2.2)))) + 1 ≤ _ ∧ memB (if rmE (skI v a.2.2.2.2.2) a.2.2.2.2.2 = [] then rmA (P ++ a :: Q) P.length else upA (P ++ a :: Q) P.length (esF (rmE (skI v a.2.2.2.2.2)))) + 24 ≤ _
          by_cases z : rmE (skI v a.2.2.2.2.2) a.2.2.2.2.2 = []
          · rw [if_pos z, rmA_at, es, em, eN_app, memB_app, hk]; omega
          · rw [if_neg z, upA_at, es, em]
            have es2 : eN (P ++ esF (rmE (skI v a.2.2.2.2.2)) a :: Q) = eN P + ((rmE (skI v a.2.2.2.2.2) a.2.2.2.2.2).length + eN Q) := by rw [eN_app]; rfl
            have em2 : memB (P ++ esF (rmE (skI v a.2.2.2.2.2)) a :: Q) = memB P + (kM (esF (rmE (skI v a.2.2.2.2.2)) a) + memB Q) := by rw [memB_app]; rfl
            have hk2 : kM (esF (rmE (skI v a.2.2.2.2.2)) a) = 64 + a.1.length + a.2.2.2.2.1.length + 24 * (rmE (skI v a.2.2.2.2.2) a.2.2.2.2.2).length + eT (rmE (skI v a.2.2.2.2.2) a.2.2.2.2.2) := by
              show 64 + a.1.length + a.2.2.2.2.1.length + memW a.2.1 * _ + _ = _; rw [s1]; rfl
            rw [es2, em2, hk, hk2]; omega
        have dk := d4.tr k2
        refine ⟨?_, fun X hX => (dk.2 X hX).up (by omega)⟩
        have d1' := dk.1
        have d4' := d4.1
        omega
    · rw [if_neg c1] at h; cases h
end GROW4
