/-! ZADD. -/
section ZADD
variable {Y : Nat → MethodName × ByteArray} {d : Nat}
def zSc (nx inc : Int32) (o : Option (Nat × Int64)) (s : Int64) : Int64 := match o with
  | some q => if (¬ inc = 0) ∧ nx = 0 then q.2 + s else s
  | none => s
def zAb (nx inc : Int32) (o : Option (Nat × Int64)) (s : Int64) : Bool := match o with
  | some q => decide ((¬ inc = 0) ∧ nx = 0 ∧ ¬ ovI q.2 s = 0)
  | none => false
/-- the options let it -/
def zMay (nx xx gt lt : Int32) (o : Option (Nat × Int64)) (sc : Int64) : Bool := match o with
  | none => decide (xx = 0)
  | some q => decide (nx = 0 ∧ (gt = 0 ∨ q.2 < sc) ∧ (lt = 0 ∨ sc < q.2))
def zGo (nx xx gt lt : Int32) (o : Option (Nat × Int64)) (sc : Int64) : Bool := match o with
  | none => zMay nx xx gt lt none sc
  | some q => zMay nx xx gt lt (some q) sc && decide (¬ q.2 = sc)
def zM0 (nx xx : Int32) (o : Option (Nat × Int64)) : Int32 := match o with
  | none => if xx = 0 then 1 else 0
  | some _ => if nx = 0 then 1 else 0
theorem zMay_no {nx xx gt lt : Int32} {q : Nat × Int64} {sc : Int64} (hn : ¬ nx = 0) : ¬ zMay nx xx gt lt (some q) sc = true := fun z => hn (of_decide_eq_true (show decide (nx = 0 ∧ (gt = 0 ∨ q.2 < sc) ∧ (lt = 0 ∨ sc < q.2)) = true from z)).1
theorem zM0_none {nx xx gt lt : Int32} {sc : Int64} : zM0 nx xx none = if zMay nx xx gt lt none sc = true then 1 else 0 := by
  show (if xx = 0 then 1 else 0) = if decide (xx = 0) = true then 1 else 0
  by_cases c : xx = 0
  · rw [if_pos c, if_pos (decide_eq_true c)]
  · rw [if_neg c, if_neg (fun z => c (of_decide_eq_true z))]
def zaA (nx xx gt lt inc : Int32) (w : List Int32) : List AK → Option Nat → List (List Int32) → List AK
  | A, cur, s :: v :: r => (match intF s with
    | none => A
    | some s0 => if zGo nx xx gt lt (zIx A cur v) (zSc nx inc (zIx A cur v) s0) = true then zaA nx xx gt lt inc w (zNew A w cur (zIx A cur v) (zSc nx inc (zIx A cur v) s0) v).1 (some (zNew A w cur (zIx A cur v) (zSc nx inc (zIx A cur v) s0) v).2) r else zaA nx xx gt lt inc w A cur r)
  | A, _, _ => A
def zaN (nx xx gt lt inc : Int32) (w : List Int32) : List AK → Option Nat → List (List Int32) → Nat
  | A, cur, s :: v :: r => (match intF s with
    | none => 0
    | some s0 => if zGo nx xx gt lt (zIx A cur v) (zSc nx inc (zIx A cur v) s0) = true then zaN nx xx gt lt inc w (zNew A w cur (zIx A cur v) (zSc nx inc (zIx A cur v) s0) v).1 (some (zNew A w cur (zIx A cur v) (zSc nx inc (zIx A cur v) s0) v).2) r + 1 else zaN nx xx gt lt inc w A cur r)
  | _, _, _ => 0
/-- the scores are numbers -/
def zOK : List (List Int32) → Prop
  | s :: _ :: r => (∃ z, intF s = some z) ∧ zOK r
  | _ => True
theorem zaN_0 (nx xx gt lt inc : Int32) (w : List Int32) : ∀ (m : Nat) (r : List (List Int32)) (A : List AK) (cur : Option Nat), r.length = 2 * m → zaN nx xx gt lt inc w A cur r = 0 → zaA nx xx gt lt inc w A cur r = A := by
  intro m
  induction m with
  | zero =>
    intro r A cur hm h
    have e : r = [] := List.length_eq_zero_iff.mp hm
    subst e; rfl
  | succ m ih =>
    intro r A cur hm h
    match r, hm with
    | s :: v :: r, hm =>
      have h : (match intF s with
        | none => 0
        | some s0 => if zGo nx xx gt lt (zIx A cur v) (zSc nx inc (zIx A cur v) s0) = true then zaN nx xx gt lt inc w (zNew A w cur (zIx A cur v) (zSc nx inc (zIx A cur v) s0) v).1 (some (zNew A w cur (zIx A cur v) (zSc nx inc (zIx A cur v) s0) v).2) r + 1 else zaN nx xx gt lt inc w A cur r) = 0 := h
      show (match intF s with
        | none => A
        | some s0 => if zGo nx xx gt lt (zIx A cur v) (zSc nx inc (zIx A cur v) s0) = true then zaA nx xx gt lt inc w (zNew A w cur (zIx A cur v) (zSc nx inc (zIx A cur v) s0) v).1 (some (zNew A w cur (zIx A cur v) (zSc nx inc (zIx A cur v) s0) v).2) r else zaA nx xx gt lt inc w A cur r) = A
      cases hi : intF s with
      | none => rfl
      | some s0 =>
        rw [hi] at h
        have h : (if zGo nx xx gt lt (zIx A cur v) (zSc nx inc (zIx A cur v) s0) = true then zaN nx xx gt lt inc w (zNew A w cur (zIx A cur v) (zSc nx inc (zIx A cur v) s0) v).1 (some (zNew A w cur (zIx A cur v) (zSc nx inc (zIx A cur v) s0) v).2) r + 1 else zaN nx xx gt lt inc w A cur r) = 0 := h
        show (if zGo nx xx gt lt (zIx A cur v) (zSc nx inc (zIx A cur v) s0) = true then zaA nx xx gt lt inc w (zNew A w cur (zIx A cur v) (zSc nx inc (zIx A cur v) s0) v).1 (some (zNew A w cur (zIx A cur v) (zSc nx inc (zIx A cur v) s0) v).2) r else zaA nx xx gt lt inc w A cur r) = A
        by_cases c : zGo nx xx gt lt (zIx A cur v) (zSc nx inc (zIx A cur v) s0) = true
        · rw [if_pos c] at h; omega
        · rw [if_neg c] at h ⊢
          exact ih r A cur (by simp at hm; omega) h
/-- what the making of the key costs, if it is wanting -/
def coW (A : List AK) (w : List Int32) : Nat := if kyI A w = none then w.length else 0
def co1 (A : List AK) (w : List Int32) : Nat := if kyI A w = none then 1 else 0
theorem co1_le (A : List AK) (w : List Int32) : coW A w ≤ w.length ∧ co1 A w ≤ 1 := by unfold coW co1; split <;> omega
theorem rmE_m : ∀ (es : List AE) (i : Nat), eT (rmE i es) ≤ eT es ∧ (rmE i es).length ≤ es.length := by
  intro es
  induction es with
  | nil => intro i; unfold rmE; exact ⟨Nat.le_refl _, Nat.le_refl _⟩
  | cons z r ih =>
    intro i
    cases i with
    | zero =>
      refine ⟨?_, Nat.le_succ _⟩
      show eT r ≤ z.1.length + z.2.1.length + eT r; omega
    | succ i =>
      have := ih i
      refine ⟨?_, ?_⟩
      · show z.1.length + z.2.1.length + eT (rmE i r) ≤ z.1.length + z.2.1.length + eT r; omega
      · show (rmE i r).length + 1 ≤ r.length + 1; omega
theorem zNew_m {A : List AK} (hs : SRT A) (w : List Int32) (cur : Option Nat) (o : Option (Nat × Int64)) (sc : Int64) (v : List Int32) : SRT (zNew A w cur o sc v).1 ∧ tT (zNew A w cur o sc v).1 + coW (zNew A w cur o sc v).1 w ≤ tT A + coW A w + v.length ∧ (zNew A w cur o sc v).1.length + co1 (zNew A w cur o sc v).1 w ≤ A.length + co1 A w ∧ eN (zNew A w cur o sc v).1 ≤ eN A + 1 := by
  have new : zNew A w cur o sc v = (upA (orA A w 4).1 (orA A w 4).2 (esF (rkE sc v)), (orA A w 4).2) → SRT (zNew A w cur o sc v).1 ∧ tT (zNew A w cur o sc v).1 + coW (zNew A w cur o sc v).1 w ≤ tT A + coW A w + v.length ∧ (zNew A w cur o sc v).1.length + co1 (zNew A w cur o sc v).1 w ≤ A.length + co1 A w ∧ eN (zNew A w cur o sc v).1 ≤ eN A + 1 := by
    intro e
    rw [e]
    have k := kyI_or hs w 4
    have m := orA_m2 A w 4
    have ky : kyI (upA (orA A w 4).1 (orA A w 4).2 (esF (rkE sc v))) w = some (orA A w 4).2 := by rw [kyI_up _ _ _ (esF_1 _)]; exact k.2
    have c0 : coW (upA (orA A w 4).1 (orA A w 4).2 (esF (rkE sc v))) w = 0 := by unfold coW; rw [ky]; exact if_neg (fun q => by cases q)
    have c1 : co1 (upA (orA A w 4).1 (orA A w 4).2 (esF (rkE sc v))) w = 0 := by unfold co1; rw [ky]; exact if_neg (fun q => by cases q)
    have t1 := upA_tT (orA A w 4).1 (orA A w 4).2 (esF (rkE sc v)) v.length (fun a => by rw [tT_1, tT_1]; have := (rkE_m sc v a.2.2.2.2.2).1; show a.1.length + a.2.2.2.2.1.length + eT (rkE sc v a.2.2.2.2.2) ≤ _; omega)
    have n1 := upA_eN (orA A w 4).1 (orA A w 4).2 (esF (rkE sc v)) 1 (fun a => by rw [eN_1, eN_1]; exact Nat.le_of_eq (rkE_m sc v a.2.2.2.2.2).2)
    have m1 : tT (orA A w 4).1 ≤ tT A + coW A w := m.1
    have m2 : (orA A w 4).1.length ≤ A.length + co1 A w := m.2.1
    refine ⟨SRT_up (esF_1 _) k.1, ?_, ?_, ?_⟩
    · show tT (upA (orA A w 4).1 (orA A w 4).2 (esF (rkE sc v))) + coW (upA (orA A w 4).1 (orA A w 4).2 (esF (rkE sc v))) w ≤ _; rw [c0]; omega
    · show (upA (orA A w 4).1 (orA A w 4).2 (esF (rkE sc v))).length + co1 (upA (orA A w 4).1 (orA A w 4).2 (esF (rkE sc v))) w ≤ _; rw [c1, upA_len]; omega
    · show eN (upA (orA A w 4).1 (orA A w 4).2 (esF (rkE sc v))) ≤ _; omega
  cases o with
  | none => exact new (by cases cur <;> rfl)
  | some q =>
    cases cur with
    | none => exact new rfl
    | some p =>
      have nm : ∀ a : AK, (esF (rkE sc v) (esF (rmE q.1) a)).1 = a.1 := fun a => rfl
      show SRT (upA A p (fun a => esF (rkE sc v) (esF (rmE q.1) a))) ∧ tT (upA A p (fun a => esF (rkE sc v) (esF (rmE q.1) a))) + coW (upA A p (fun a => esF (rkE sc v) (esF (rmE q.1) a))) w ≤ tT A + coW A w + v.length ∧ (upA A p (fun a => esF (rkE sc v) (esF (rmE q.1) a))).length + co1 (upA A p (fun a => esF (rkE sc v) (esF (rmE q.1) a))) w ≤ A.length + co1 A w ∧ eN (upA A p (fun a => esF (rkE sc v) (esF (rmE q.1) a))) ≤ eN A + 1
      have ky := kyI_up A p (fun a => esF (rkE sc v) (esF (rmE q.1) a)) nm w
      have c0 : coW (upA A p (fun a => esF (rkE sc v) (esF (rmE q.1) a))) w = coW A w := by unfold coW; rw [ky]
      have c1 : co1 (upA A p (fun a => esF (rkE sc v) (esF (rmE q.1) a))) w = co1 A w := by unfold co1; rw [ky]
      have t1 := upA_tT A p (fun a => esF (rkE sc v) (esF (rmE q.1) a)) v.length (fun a => by
        rw [tT_1, tT_1]
        have := (rkE_m sc v (rmE q.1 a.2.2.2.2.2)).1
        have := (rmE_m a.2.2.2.2.2 q.1).1
        show a.1.length + a.2.2.2.2.1.length + eT (rkE sc v (rmE q.1 a.2.2.2.2.2)) ≤ _; omega)
      have n1 := upA_eN A p (fun a => esF (rkE sc v) (esF (rmE q.1) a)) 1 (fun a => by
        rw [eN_1, eN_1]
        have := (rkE_m sc v (rmE q.1 a.2.2.2.2.2)).2
        have := (rmE_m a.2.2.2.2.2 q.1).2
        show (rkE sc v (rmE q.1 a.2.2.2.2.2)).length ≤ _; omega)
      refine ⟨SRT_up nm hs, by rw [c0]; omega, by rw [c1, upA_len]; exact Nat.le_refl _, n1⟩
abbrev zaFF : List Nat := [f_num, f_answerSize, f_tooLong, f_digitsSize, f_heapSize, f_keys, f_kFrees, f_eFree]
abbrev zaHH : List Nat := r_answer :: r_digits :: kH
def zOP (nx xx gt lt inc : Int32) (σ : mjS) : Prop := σ.1 f_optNx = nx ∧ σ.1 f_optXx = xx ∧ σ.1 f_optGt = gt ∧ σ.1 f_optLt = lt ∧ σ.1 f_optIncr = inc
theorem zOP.fr {nx xx gt lt inc : Int32} {σ u : mjS} (h : zOP nx xx gt lt inc σ) (f : Fr zaFF zaHH σ u) : zOP nx xx gt lt inc u := ⟨by rw [f.1 _ (by decide)]; exact h.1, by rw [f.1 _ (by decide)]; exact h.2.1, by rw [f.1 _ (by decide)]; exact h.2.2.1, by rw [f.1 _ (by decide)]; exact h.2.2.2.1, by rw [f.1 _ (by decide)]; exact h.2.2.2.2⟩
def zaB (nx inc : Int32) (A : List AK) (cur : Option Nat) : List (List Int32) → Bool
  | s :: v :: _ => (match intF s with
    | some s0 => zAb nx inc (zIx A cur v) s0
    | none => false)
  | _ => false
set_option maxRecDepth 100000 in
set_option maxHeartbeats 4000000 in
theorem c_za_loop (K : mjK) {ws : List (List Int32)} {l : List Int32} {w : List Int32} (h1 : ws[1]? = some w) (hwl : w.length ≤ 100000) (nx xx gt lt inc : Int32) : ∀ (m a f c : Nat) (σ : mjS) (ks : List KR) (cur : Option Nat) (x1 x2 x3 x4 : Int32) (l5 l6 l7 l8 : Option Value), SRT (strip ks) → a + 2 * m = ws.length → f + c + m ≤ 2000 → CU ks cur x1 → x2 = nI f → x3 = nI c → x4 = nI a → zOP nx xx gt lt inc σ → mjTY σ → Wd σ ws ks l → zOK (ws.drop a) → (inc = 0 ∨ m ≤ 1) → tT (strip ks) + coW (strip ks) w + sl (ws.drop a) ≤ 200000 → eN (strip ks) + m < 10000 → ks.length + co1 (strip ks) w < 4700 →
    (∀ u ks' cur' f' c' x1 x2 x3 x4 l5 l6 l7 l8, mjTY u → Fr zaFF zaHH σ u → Wd u ws ks' l → strip ks' = zaA nx xx gt lt inc w (strip ks) cur (ws.drop a) → f' + c' = f + c + zaN nx xx gt lt inc w (strip ks) cur (ws.drop a) → f' + c' ≤ 2000 → x2 = nI f' → x3 = nI c' → CU ks' cur' x1 → ((cur ≠ none ∨ ¬ zaN nx xx gt lt inc w (strip ks) cur (ws.drop a) = 0) → cur' ≠ none) → ¬ zaB nx inc (strip ks) cur (ws.drop a) = true → mjY mjPP (mjQQ Y) (d + 6) 133 175 [some (.ref 0), some (.int x1), some (.int x2), some (.int x3), some (.int x4), l5, l6, l7, l8] [] u K) →
    (∀ u, zaB nx inc (strip ks) cur (ws.drop a) = true → Fr zaFF zaHH σ u → Wd u ws ks l → K none u) →
    mjY mjPP (mjQQ Y) (d + 6) 133 11 [some (.ref 0), some (.int x1), some (.int x2), some (.int x3), some (.int x4), l5, l6, l7, l8] [] σ K := by
  have h1l := (List.getElem?_eq_some_iff.mp h1).1
  intro m
  induction m with
  | zero =>
    intro a f c σ ks cur x1 x2 x3 x4 l5 l6 l7 l8 hS ha hn hc e2 e3 e4 hO ty h hz hm ht he hk hK hA
    have h1024 := h.2.1.2.1
    refine mjZ_y rfl rfl 4 _ _ _ _ ty ?_
    refine (And.intro rfl (And.intro (fun q => ?_) (fun q => ?_)))
    · refine hK σ ks cur f c _ _ _ _ _ _ _ _ ty Fr.rf h ?_ ?_ (by omega) e2 e3 hc ?_ ?_
      · rw [List.drop_of_length_le (by omega)]; rfl
      · rw [List.drop_of_length_le (by omega)]; rfl
      · rw [List.drop_of_length_le (by omega)]; exact fun z => z.elim id (fun t => absurd rfl t)
      · rw [List.drop_of_length_le (by omega)]; exact fun z => absurd (show false = true from z) (by decide)
    · exact absurd (show σ.1 f_words ≤ x4 by rw [h.2.1.1, e4]; exact nI_le (by omega) (by omega)) q
  | succ m ih =>
    intro a f c σ ks cur x1 x2 x3 x4 l5 l6 l7 l8 hS ha hn hc e2 e3 e4 hO ty h hz hm ht he hk hK hA
    have h1024 := h.2.1.2.1
    obtain ⟨s, v, hs, hv, ed⟩ := drop2 ha
    rw [ed] at hK hA ht hz
    obtain ⟨⟨s0, es0⟩, hz2⟩ := hz
    have ht : tT (strip ks) + coW (strip ks) w + (s.length + (v.length + sl (ws.drop (a + 2)))) ≤ 200000 := ht
    have cw := co1_le (strip ks) w
    generalize ho : zIx (strip ks) cur v = o
    have eA : zaA nx xx gt lt inc w (strip ks) cur (s :: v :: ws.drop (a + 2)) = (if zGo nx xx gt lt o (zSc nx inc o s0) = true then zaA nx xx gt lt inc w (zNew (strip ks) w cur o (zSc nx inc o s0) v).1 (some (zNew (strip ks) w cur o (zSc nx inc o s0) v).2) (ws.drop (a + 2)) else zaA nx xx gt lt inc w (strip ks) cur (ws.drop (a + 2))) := by
      rw [← ho]
      show (match intF s with | none => strip ks | some s0 => if zGo nx xx gt lt (zIx (strip ks) cur v) (zSc nx inc (zIx (strip ks) cur v) s0) = true then _ else _) = _
      rw [es0]
    have eNN : zaN nx xx gt lt inc w (strip ks) cur (s :: v :: ws.drop (a + 2)) = (if zGo nx xx gt lt o (zSc nx inc o s0) = true then zaN nx xx gt lt inc w (zNew (strip ks) w cur o (zSc nx inc o s0) v).1 (some (zNew (strip ks) w cur o (zSc nx inc o s0) v).2) (ws.drop (a + 2)) + 1 else zaN nx xx gt lt inc w (strip ks) cur (ws.drop (a + 2))) := by
      rw [← ho]
      show (match intF s with | none => 0 | some s0 => if zGo nx xx gt lt (zIx (strip ks) cur v) (zSc nx inc (zIx (strip ks) cur v) s0) = true then _ else _) = _
      rw [es0]
    have eB : zaB nx inc (strip ks) cur (s :: v :: ws.drop (a + 2)) = zAb nx inc o s0 := by
      rw [← ho]
      show (match intF s with | some s0 => zAb nx inc (zIx (strip ks) cur v) s0 | none => false) = _
      rw [es0]
    rw [eA, eNN, eB] at hK
    rw [eB] at hA
    have z9 : zOP nx xx gt lt inc σ := hO
    let OPT : mjS → Prop := zOP nx xx gt lt inc
    -- the element that was found
    let ZX : Int32 → Prop := fun x7 => (o = none ∧ x7 = -1) ∨ ∃ P y Q F1 t F2, ks = P ++ y :: Q ∧ cur = some P.length ∧ x1 = nI y.1 ∧ y.2.2.2.2.2.2 = F1 ++ t :: F2 ∧ o = some (F1.length, t.2.2.2) ∧ x7 = nI t.1 ∧ t.1 < 10000
    have gl79 : ∀ (u : mjS) (P Q : List KR) (y : KR) (F1 F2 : List ER) (t : ER) (x7 : Int32) (sc : Int64), mjTY u → OPT u → Wd u ws ks l → ks = P ++ y :: Q → y.2.2.2.2.2.2 = F1 ++ t :: F2 → x7 = nI t.1 → nx = 0 → (∀ x8 : Int32, (x8 = if zMay nx xx gt lt (some (F1.length, t.2.2.2)) sc = true then 1 else 0) → mjY mjPP (mjQQ Y) (d + 6) 133 103 [some (.ref 0), some (.int x1), some (.int x2), some (.int x3), some (.int x4), some (.long sc), none, some (.int x7), some (.int x8)] [] u K) → ∀ x8 : Int32, mjY mjPP (mjQQ Y) (d + 6) 133 79 [some (.ref 0), some (.int x1), some (.int x2), some (.int x3), some (.int x4), some (.long sc), none, some (.int x7), some (.int x8)] [] u K := by
      intro u P Q y F1 F2 t x7 sc tu ho hu g0 hF e7 hn hK2 x8
      have hu' : Wd u ws (P ++ y :: Q) l := by rw [← g0]; exact hu
      obtain ⟨hz, hh, hoe⟩ := hu'.eid (y := t) (by rw [hF]; exact List.mem_append_right _ List.mem_cons_self)
      have tid := hoe.1
      have v7 : vp_in x7 10000 := by rw [e7]; exact vp_in_nI tid (by decide)
      have c7 : x7.toNatClampNeg = t.1 := by rw [e7]; exact nI_clamp (by omega)
      have esc : u.2.2.2 (mjHn 30) x7.toNatClampNeg = t.2.2.2 := by rw [c7]; exact hoe.2.2.2
      have no : ¬ (zMay nx xx gt lt (some (F1.length, t.2.2.2)) sc = true) → mjY mjPP (mjQQ Y) (d + 6) 133 101 [some (.ref 0), some (.int x1), some (.int x2), some (.int x3), some (.int x4), some (.long sc), none, some (.int x7), some (.int x8)] [] u K := by
        intro z
        refine mjZ_y rfl rfl 2 _ _ _ _ tu ?_
        refine (And.intro (Nat.le_of_ble_eq_true rfl) ?_)
        exact hK2 _ (by rw [if_neg z]; rfl)
      have ltp : (gt = 0 ∨ t.2.2.2 < sc) → mjY mjPP (mjQQ Y) (d + 6) 133 89 [some (.ref 0), some (.int x1), some (.int x2), some (.int x3), some (.int x4), some (.long sc), none, some (.int x7), some (.int x8)] [] u K := by
        intro hg
        have yes : (lt = 0 ∨ sc < t.2.2.2) → mjY mjPP (mjQQ Y) (d + 6) 133 99 [some (.ref 0), some (.int x1), some (.int x2), some (.int x3), some (.int x4), some (.long sc), none, some (.int x7), some (.int x8)] [] u K := by
          intro hl2
          refine mjZ_y rfl rfl 3 _ _ _ _ tu ?_
          refine (And.intro (Nat.le_of_ble_eq_true rfl) ?_)
          exact hK2 _ (by rw [if_pos (show zMay nx xx gt lt (some (F1.length, t.2.2.2)) sc = true from decide_eq_true ⟨hn, hg, hl2⟩)]; rfl)
        refine mjZ_y rfl rfl 3 _ _ _ _ tu ?_
        refine (And.intro rfl (And.intro (fun a => ?_) (fun a => ?_)))
        · exact yes (Or.inl (ho.2.2.2.1.symm.trans a))
        · refine mjZ_y rfl rfl 7 _ _ _ _ tu ?_
          refine (And.intro rfl (And.intro rfl (And.intro v7 (And.intro (fun b => ?_) (fun b => ?_)))))
          · have b := (lg_cmp_ge _ _).mp b
            rw [esc] at b
            exact no (fun z => (of_decide_eq_true z).2.2.elim (fun c => a (ho.2.2.2.1.trans c)) (fun c => Int64.not_lt.mpr b c))
          · have b : sc < t.2.2.2 := Int64.not_le.mp (fun z => b ((lg_cmp_ge _ _).mpr (by rw [esc]; exact z)))
            exact yes (Or.inr b)
      refine mjZ_y rfl rfl 3 _ _ _ _ tu ?_
      refine (And.intro rfl (And.intro (fun a => ?_) (fun a => ?_)))
      · exact ltp (Or.inl (ho.2.2.1.symm.trans a))
      · refine mjZ_y rfl rfl 7 _ _ _ _ tu ?_
        refine (And.intro rfl (And.intro rfl (And.intro v7 (And.intro (fun b => ?_) (fun b => ?_)))))
        · have b := (lg_cmp_le _ _).mp b
          rw [esc] at b
          exact no (fun z => (of_decide_eq_true z).2.1.elim (fun c => a (ho.2.2.1.trans c)) (fun c => Int64.not_lt.mpr b c))
        · have b : t.2.2.2 < sc := Int64.not_le.mp (fun z => b ((lg_cmp_le _ _).mpr (by rw [esc]; exact z)))
          exact ltp (Or.inr b)
    have gl116 : ∀ (u : mjS) (P Q : List KR) (y : KR) (F1 F2 : List ER) (t : ER) (x7 : Int32) (sc : Int64), mjTY u → OPT u → Wd u ws ks l → ks = P ++ y :: Q → y.2.2.2.2.2.2 = F1 ++ t :: F2 → x7 = nI t.1 → nx = 0 → (∀ x8 : Int32, (x8 = if zMay nx xx gt lt (some (F1.length, t.2.2.2)) sc = true then 1 else 0) → mjY mjPP (mjQQ Y) (d + 6) 133 140 [some (.ref 0), some (.int x1), some (.int x2), some (.int x3), some (.int x4), some (.long sc), none, some (.int x7), some (.int x8)] [] u K) → ∀ x8 : Int32, mjY mjPP (mjQQ Y) (d + 6) 133 116 [some (.ref 0), some (.int x1), some (.int x2), some (.int x3), some (.int x4), some (.long sc), none, some (.int x7), some (.int x8)] [] u K := by
      intro u P Q y F1 F2 t x7 sc tu ho hu g0 hF e7 hn hK2 x8
      have hu' : Wd u ws (P ++ y :: Q) l := by rw [← g0]; exact hu
      obtain ⟨hz, hh, hoe⟩ := hu'.eid (y := t) (by rw [hF]; exact List.mem_append_right _ List.mem_cons_self)
      have tid := hoe.1
      have v7 : vp_in x7 10000 := by rw [e7]; exact vp_in_nI tid (by decide)
      have c7 : x7.toNatClampNeg = t.1 := by rw [e7]; exact nI_clamp (by omega)
      have esc : u.2.2.2 (mjHn 30) x7.toNatClampNeg = t.2.2.2 := by rw [c7]; exact hoe.2.2.2
      have no : ¬ (zMay nx xx gt lt (some (F1.length, t.2.2.2)) sc = true) → mjY mjPP (mjQQ Y) (d + 6) 133 138 [some (.ref 0), some (.int x1), some (.int x2), some (.int x3), some (.int x4), some (.long sc), none, some (.int x7), some (.int x8)] [] u K := by
        intro z
        refine mjZ_y rfl rfl 2 _ _ _ _ tu ?_
        refine (And.intro (Nat.le_of_ble_eq_true rfl) ?_)
        exact hK2 _ (by rw [if_neg z]; rfl)
      have ltp : (gt = 0 ∨ t.2.2.2 < sc) → mjY mjPP (mjQQ Y) (d + 6) 133 126 [some (.ref 0), some (.int x1), some (.int x2), some (.int x3), some (.int x4), some (.long sc), none, some (.int x7), some (.int x8)] [] u K := by
        intro hg
        have yes : (lt = 0 ∨ sc < t.2.2.2) → mjY mjPP (mjQQ Y) (d + 6) 133 136 [some (.ref 0), some (.int x1), some (.int x2), some (.int x3), some (.int x4), some (.long sc), none, some (.int x7), some (.int x8)] [] u K := by
          intro hl2
          refine mjZ_y rfl rfl 3 _ _ _ _ tu ?_
          refine (And.intro (Nat.le_of_ble_eq_true rfl) ?_)
          exact hK2 _ (by rw [if_pos (show zMay nx xx gt lt (some (F1.length, t.2.2.2)) sc = true from decide_eq_true ⟨hn, hg, hl2⟩)]; rfl)
        refine mjZ_y rfl rfl 3 _ _ _ _ tu ?_
        refine (And.intro rfl (And.intro (fun a => ?_) (fun a => ?_)))
        · exact yes (Or.inl (ho.2.2.2.1.symm.trans a))
        · refine mjZ_y rfl rfl 7 _ _ _ _ tu ?_
          refine (And.intro rfl (And.intro rfl (And.intro v7 (And.intro (fun b => ?_) (fun b => ?_)))))
          · have b := (lg_cmp_ge _ _).mp b
            rw [esc] at b
            exact no (fun z => (of_decide_eq_true z).2.2.elim (fun c => a (ho.2.2.2.1.trans c)) (fun c => Int64.not_lt.mpr b c))
          · have b : sc < t.2.2.2 := Int64.not_le.mp (fun z => b ((lg_cmp_ge _ _).mpr (by rw [esc]; exact z)))
            exact yes (Or.inr b)
      refine mjZ_y rfl rfl 3 _ _ _ _ tu ?_
      refine (And.intro rfl (And.intro (fun a => ?_) (fun a => ?_)))
      · exact ltp (Or.inl (ho.2.2.1.symm.trans a))
      · refine mjZ_y rfl rfl 7 _ _ _ _ tu ?_
        refine (And.intro rfl (And.intro rfl (And.intro v7 (And.intro (fun b => ?_) (fun b => ?_)))))
        · have b := (lg_cmp_le _ _).mp b
          rw [esc] at b
          exact no (fun z => (of_decide_eq_true z).2.1.elim (fun c => a (ho.2.2.1.trans c)) (fun c => Int64.not_lt.mpr b c))
        · have b : t.2.2.2 < sc := Int64.not_le.mp (fun z => b ((lg_cmp_le _ _).mpr (by rw [esc]; exact z)))
          exact ltp (Or.inr b)
    -- it is left as it is
    have skip : ∀ (u : mjS) (x7 x8 : Int32) (sc : Int64), mjTY u → Fr zaFF zaHH σ u → Wd u ws ks l → ¬ zAb nx inc o s0 = true → ¬ zGo nx xx gt lt o (zSc nx inc o s0) = true → mjY mjPP (mjQQ Y) (d + 6) 133 173 [some (.ref 0), some (.int x1), some (.int x2), some (.int x3), some (.int x4), some (.long sc), none, some (.int x7), some (.int x8)] [] u K := by
      intro u x7 x8 sc tu fu hu nb ng
      rw [if_neg ng, if_neg ng] at hK
      refine mjZ_y rfl rfl 2 _ _ _ _ tu ?_
      refine ih (a + 2) f c u ks cur _ _ _ _ _ _ _ _ hS (by omega) (by omega) hc e2 e3 (by rw [e4]; exact nI_add a 2) (hO.fr fu) tu hu hz2 (hm.elim Or.inl (fun q => Or.inr (by omega))) (by omega) (by omega) hk (fun u' ks' cur' f' c' x1 x2 x3 x4 l5 l6 l7 l8 tu' fu' hu' eu en hle e2' e3' hc' hz' _ => hK u' ks' cur' f' c' x1 x2 x3 x4 l5 l6 l7 l8 tu' (fu.tr fu') hu' eu en hle e2' e3' hc' hz' nb) (fun u' q fu' hu' => ?_)
      exfalso
      rcases hm with hm | hm
      · cases hd : ws.drop (a + 2) with
        | nil => rw [hd] at q; exact absurd (show false = true from q) (by decide)
        | cons s1 r1 =>
          cases r1 with
          | nil => rw [hd] at q; exact absurd (show false = true from q) (by decide)
          | cons v1 r2 =>
            rw [hd] at q
            have q : (match intF s1 with | some s0 => zAb nx inc (zIx (strip ks) cur v1) s0 | none => false) = true := q
            cases hi1 : intF s1 with
            | none => rw [hi1] at q; exact absurd (show false = true from q) (by decide)
            | some z1 =>
              rw [hi1] at q
              have q : zAb nx inc (zIx (strip ks) cur v1) z1 = true := q
              cases hx1 : zIx (strip ks) cur v1 with
              | none => rw [hx1] at q; exact absurd (show false = true from q) (by decide)
              | some p1 => rw [hx1] at q; exact (of_decide_eq_true q).1 hm
      · rw [List.drop_of_length_le (by omega)] at q; exact absurd (show false = true from q) (by decide)
    -- the new state is there: the rest
    have next : ∀ (u : mjS) (P Q : List KR) (y : KR) (f' c' : Nat) (x1 x2 x3 x7 x8 : Int32) (sc : Int64), mjTY u → Fr zaFF zaHH σ u → Wd u ws (P ++ y :: Q) l → ¬ zAb nx inc o s0 = true → zGo nx xx gt lt o (zSc nx inc o s0) = true → strip (P ++ y :: Q) = (zNew (strip ks) w cur o (zSc nx inc o s0) v).1 → P.length = (zNew (strip ks) w cur o (zSc nx inc o s0) v).2 → x1 = nI y.1 → f' + c' = f + c + 1 → x2 = nI f' → x3 = nI c' → mjY mjPP (mjQQ Y) (d + 6) 133 173 [some (.ref 0), some (.int x1), some (.int x2), some (.int x3), some (.int x4), some (.long sc), none, some (.int x7), some (.int x8)] [] u K := by
      intro u P Q y f' c' x1 x2 x3 x7 x8 sc tu fu hu nb ng es ep e1 efc e2 e3
      rw [if_pos ng, if_pos ng] at hK
      have mm := zNew_m hS w cur o (zSc nx inc o s0) v
      rw [← es] at mm
      rw [← ep, ← es] at hK
      have lenP : (strip (P ++ y :: Q)).length = (P ++ y :: Q).length := strip_len _
      have lenK : (strip ks).length = ks.length := strip_len _
      refine mjZ_y rfl rfl 2 _ _ _ _ tu ?_
      refine ih (a + 2) f' c' u (P ++ y :: Q) (some P.length) _ _ _ _ _ _ _ _ mm.1 (by omega) (by omega) (Or.inr ⟨P, y, Q, rfl, rfl, e1⟩) e2 e3 (by rw [e4]; exact nI_add a 2) (hO.fr fu) tu hu hz2 (hm.elim Or.inl (fun q => Or.inr (by omega))) (by omega) (by omega) (by omega) (fun u' ks' cur' f'' c'' x1 x2 x3 x4 l5 l6 l7 l8 tu' fu' hu' eu en hle e2' e3' hc' hz' _ => hK u' ks' cur' f'' c'' x1 x2 x3 x4 l5 l6 l7 l8 tu' (fu.tr fu') hu' eu (by omega) hle e2' e3' hc' (fun _ => hz' (Or.inl (fun q => by cases q))) nb) (fun u' q fu' hu' => ?_)
      exfalso
      rcases hm with hm | hm
      · cases hd : ws.drop (a + 2) with
        | nil => rw [hd] at q; exact absurd (show false = true from q) (by decide)
        | cons s1 r1 =>
          cases r1 with
          | nil => rw [hd] at q; exact absurd (show false = true from q) (by decide)
          | cons v1 r2 =>
            rw [hd] at q
            have q : (match intF s1 with | some s0 => zAb nx inc (zIx (strip (P ++ y :: Q)) (some P.length) v1) s0 | none => false) = true := q
            cases hi1 : intF s1 with
            | none => rw [hi1] at q; exact absurd (show false = true from q) (by decide)
            | some z1 =>
              rw [hi1] at q
              have q : zAb nx inc (zIx (strip (P ++ y :: Q)) (some P.length) v1) z1 = true := q
              cases hx1 : zIx (strip (P ++ y :: Q)) (some P.length) v1 with
              | none => rw [hx1] at q; exact absurd (show false = true from q) (by decide)
              | some p1 => rw [hx1] at q; exact (of_decide_eq_true q).1 hm
      · rw [List.drop_of_length_le (by omega)] at q; exact absurd (show false = true from q) (by decide)
    -- the decision
    have s140 : ∀ (u : mjS) (x7 x8 : Int32) (sc : Int64), mjTY u → Fr zaFF zaHH σ u → Wd u ws ks l → ZX x7 → sc = zSc nx inc o s0 → ¬ zAb nx inc o s0 = true → (x8 = if zMay nx xx gt lt o (zSc nx inc o s0) = true then 1 else 0) → mjY mjPP (mjQQ Y) (d + 6) 133 140 [some (.ref 0), some (.int x1), some (.int x2), some (.int x3), some (.int x4), some (.long sc), none, some (.int x7), some (.int x8)] [] u K := by
      intro u x7 x8 sc tu fu hu hx esc nb e8
      refine mjZ_y rfl rfl 2 _ _ _ _ tu ?_
      refine And.intro (fun q => ?_) (fun q => ?_)
      · have q : ¬ zMay nx xx gt lt o (zSc nx inc o s0) = true := by
          intro z
          rw [if_pos z] at e8
          exact absurd (e8.symm.trans q) (by decide)
        refine skip u x7 x8 sc tu fu hu nb (fun z => q ?_)
        cases o with
        | none => exact z
        | some p => exact (Bool.and_eq_true_iff.mp z).1
      · have q : zMay nx xx gt lt o (zSc nx inc o s0) = true := by
          refine Decidable.of_not_not (fun z => q ?_)
          rw [if_neg z] at e8; exact e8
        rcases hx with ⟨o1, e7⟩ | ⟨P, y, Q, F1, t, F2, g0, gc, e1, hF, o1, e7, tid⟩
        · have go : zGo nx xx gt lt o (zSc nx inc o s0) = true := by rw [o1] at q ⊢; exact q
          have zn : zNew (strip ks) w cur o (zSc nx inc o s0) v = (upA (orA (strip ks) w 4).1 (orA (strip ks) w 4).2 (esF (rkE (zSc nx inc o s0) v)), (orA (strip ks) w 4).2) := by rw [o1]; cases cur <;> rfl
          have om := orA_m2 (strip ks) w 4
          have om1 : tT (orA (strip ks) w 4).1 ≤ tT (strip ks) + coW (strip ks) w := om.1
          refine mjZ_y rfl rfl 2 _ _ _ _ tu ?_
          refine And.intro (fun b => ?_) (fun b => ?_)
          · refine mjZ_y rfl rfl 2 _ _ _ _ tu ?_
            refine And.intro (fun b2 => ?_) (fun b2 => ?_)
            · refine mjZ_y rfl rfl 4 _ _ _ _ tu ?_
              refine (And.intro (Nat.le_of_ble_eq_true rfl) (And.intro rfl (And.intro (Nat.le_of_ble_eq_true rfl) (And.intro (Nat.le_of_ble_eq_true rfl) (mjY_mono tu (fun q_ u2 ty2 h_ => ?_) (w_makeOr hu tu h1 (x := Int32.ofInt 1) rfl 4 (by omega) (by omega) (by omega)))))))
              obtain ⟨P, y, Q, rfl, h3, f3, g1, g2⟩ := h_
              intro _
              refine mjZ_y rfl rfl 2 _ _ _ _ ty2 ?_
              refine (And.intro (Nat.le_of_ble_eq_true rfl) ?_)
              rw [esc]
              refine mjZ_y rfl rfl 7 _ _ _ _ ty2 ?_
              refine (And.intro (Nat.le_of_ble_eq_true rfl) (And.intro rfl (And.intro (Nat.le_of_ble_eq_true rfl) (And.intro (Nat.le_of_ble_eq_true rfl) (mjY_mono ty2 (fun q_ u3 ty3 h_ => ?_) (w_rank h3 ty2 hv rfl (by rw [e4]; exact nI_1 a) (zSc nx inc o s0) (by rw [g1]; omega) (by rw [g1]; omega) (by rw [g1]; omega)))))))
              obtain ⟨rfl, f4, y', hy, h4, es⟩ := h_
              intro _
              refine next u3 P Q y' (f + 1) c _ _ _ _ _ _ ty3 ((fu.tr (f3.up (by decide) (by decide))).tr (f4.up (by decide) (by decide))) h4 nb go ?_ ?_ (by rw [hy]) (by omega) (by rw [e2]; exact nI_1 f) e3
              · rw [zn, ← g1, ← g2]; exact strip_up es
              · rw [zn]; exact g2
            · exact absurd (lt_m1 e7) b2
          · exact absurd (lt_m1 e7) b
        · have hu' : Wd u ws (P ++ y :: Q) l := by rw [← g0]; exact hu
          have v7 : vp_in x7 10000 := by rw [e7]; exact vp_in_nI tid (by decide)
          have c7 : x7.toNatClampNeg = t.1 := by rw [e7]; exact nI_clamp (by omega)
          obtain ⟨hz', hh, hoe⟩ := hu'.eid (y := t) (by rw [hF]; exact List.mem_append_right _ List.mem_cons_self)
          have esc2 : u.2.2.2 (mjHn 30) x7.toNatClampNeg = t.2.2.2 := by rw [c7]; exact hoe.2.2.2
          refine mjZ_y rfl rfl 2 _ _ _ _ tu ?_
          refine And.intro (fun b => ?_) (fun b => ?_)
          · exact absurd (show x7 < 0 from b) (lt_nI (by omega) e7)
          · refine mjZ_y rfl rfl 7 _ _ _ _ tu ?_
            refine (And.intro rfl (And.intro rfl (And.intro v7 (And.intro (fun b2 => ?_) (fun b2 => ?_)))))
            · have b2' : ¬ t.2.2.2 = zSc nx inc o s0 := fun z => b2 ((lg_cmp_eq _ _).mpr (by rw [esc2, esc]; exact z))
              have go : zGo nx xx gt lt o (zSc nx inc o s0) = true := by
                have q2 := q
                have b3 := b2'
                generalize zSc nx inc o s0 = scc at q2 b3
                rw [o1] at q2 ⊢
                exact Bool.and_eq_true_iff.mpr ⟨q2, decide_eq_true b3⟩
              have zn : zNew (strip ks) w cur o (zSc nx inc o s0) v = (upA (strip ks) P.length (fun a => esF (rkE (zSc nx inc o s0) v) (esF (rmE F1.length) a)), P.length) := by
                generalize zSc nx inc o s0 = scc
                rw [o1, gc]; rfl
              refine mjZ_y rfl rfl 2 _ _ _ _ tu ?_
              refine And.intro (fun b4 => ?_) (fun b4 => ?_)
              · exact absurd (show x7 < 0 from b4) (lt_nI (by omega) e7)
              · refine mjZ_y rfl rfl 4 _ _ _ _ tu ?_
                refine (And.intro (Nat.le_of_ble_eq_true rfl) (And.intro rfl (And.intro (Nat.le_of_ble_eq_true rfl) (And.intro (Nat.le_of_ble_eq_true rfl) (mjY_mono tu (fun q_ u2 ty2 h_ => ?_) (w_unrank hu' tu hF e1 e7))))))
                obtain ⟨rfl, f3, h3, s3, t3, n3⟩ := h_
                intro _
                refine mjZ_y rfl rfl 2 _ _ _ _ ty2 ?_
                rw [esc]
                have gT : tT (strip ks) = tT (strip (P ++ y :: Q)) := by rw [g0]
                have gN : eN (strip ks) = eN (strip (P ++ y :: Q)) := by rw [g0]
                refine mjZ_y rfl rfl 7 _ _ _ _ ty2 ?_
                refine (And.intro (Nat.le_of_ble_eq_true rfl) (And.intro rfl (And.intro (Nat.le_of_ble_eq_true rfl) (And.intro (Nat.le_of_ble_eq_true rfl) (mjY_mono ty2 (fun q_ u3 ty3 h_ => ?_) (w_rank h3 ty2 hv (show x1 = nI (withE y (F1 ++ F2)).1 from e1) (by rw [e4]; exact nI_1 a) (zSc nx inc o s0) (by omega) (by omega) (by omega)))))))
                obtain ⟨rfl, f4, y', hy, h4, es⟩ := h_
                intro _
                refine next u3 P Q y' f (c + 1) _ _ _ _ _ _ ty3 ((fu.tr (f3.up (by decide) (by decide))).tr (f4.up (by decide) (by decide))) h4 nb go ?_ ?_ (by rw [hy]; exact e1) (by omega) e2 (by rw [e3]; exact nI_1 c)
                · rw [zn, g0]; refine strip_up ?_; rw [es, s3]
                · rw [zn]
            · have b2 : t.2.2.2 = zSc nx inc o s0 := by
                have b2 := (lg_cmp_eq _ _).mp (Decidable.of_not_not b2)
                rw [esc2, esc] at b2; exact b2
              refine mjZ_y rfl rfl 1 _ _ _ _ tu ?_
              refine skip u x7 x8 sc tu fu hu nb (fun z => ?_)
              have b3 := b2
              generalize zSc nx inc o s0 = scc at z b3
              rw [o1] at z
              exact (of_decide_eq_true (Bool.and_eq_true_iff.mp z).2) b3
    have s103 : ∀ (u : mjS) (x7 x8 : Int32) (sc : Int64), mjTY u → Fr zaFF zaHH σ u → Wd u ws ks l → ZX x7 → sc = zSc nx inc o s0 → ¬ zAb nx inc o s0 = true → (x8 = if zMay nx xx gt lt o (zSc nx inc o s0) = true then 1 else 0) → mjY mjPP (mjQQ Y) (d + 6) 133 103 [some (.ref 0), some (.int x1), some (.int x2), some (.int x3), some (.int x4), some (.long sc), none, some (.int x7), some (.int x8)] [] u K := by
      intro u x7 x8 sc tu fu hu hx esc nb e8
      refine mjZ_y rfl rfl 2 _ _ _ _ tu ?_
      refine And.intro (fun q => ?_) (fun q => ?_)
      · refine mjZ_y rfl rfl 2 _ _ _ _ tu ?_
        refine (And.intro (Nat.le_of_ble_eq_true rfl) (And.intro rfl (And.intro (Nat.le_of_ble_eq_true rfl) (And.intro (Nat.le_of_ble_eq_true rfl) (mjY_mono tu (fun q_ u2 ty2 h_ => ?_) (w_nil hu tu))))))
        obtain ⟨rfl, h2, f2⟩ := h_
        intro _
        refine mjZ_y rfl rfl 1 _ _ _ _ ty2 ?_
        exact s140 u2 x7 x8 sc ty2 (fu.tr (f2.1.up (by decide) (by decide))) h2 hx esc nb e8
      · refine mjZ_y rfl rfl 3 _ _ _ _ tu ?_
        refine (And.intro (Nat.le_of_ble_eq_true rfl) (And.intro rfl (And.intro (Nat.le_of_ble_eq_true rfl) (And.intro (Nat.le_of_ble_eq_true rfl) (mjY_mono tu (fun q_ u2 ty2 h_ => ?_) (w_numberWord hu tu _))))))
        obtain ⟨rfl, h2, f2⟩ := h_
        intro _
        refine mjZ_y rfl rfl 1 _ _ _ _ ty2 ?_
        exact s140 u2 x7 x8 sc ty2 (fu.tr (f2.1.up (by decide) (by decide))) h2 hx esc nb e8
    have s45 : ∀ (u : mjS) (x7 x8 : Int32), mjTY u → Fr zaFF zaHH σ u → Wd u ws ks l → u.2.1 f_num = s0 → ZX x7 → x8 = zM0 nx xx o → mjY mjPP (mjQQ Y) (d + 6) 133 45 [some (.ref 0), some (.int x1), some (.int x2), some (.int x3), some (.int x4), some (.long s0), none, some (.int x7), some (.int x8)] [] u K := by
      intro u x7 x8 tu fu hu en hx e8
      have hOu := hO.fr fu
      refine mjZ_y rfl rfl 3 _ _ _ _ tu ?_
      refine (And.intro rfl (And.intro (fun q => ?_) (fun q => ?_)))
      · -- no INCR
        have q : inc = 0 := hOu.2.2.2.2.symm.trans q
        have esc : s0 = zSc nx inc o s0 := by
          cases o with
          | none => rfl
          | some p => exact (if_neg (fun z => z.1 q)).symm
        have nb : ¬ zAb nx inc o s0 = true := by
          cases o with
          | none => exact fun z => absurd (show false = true from z) (by decide)
          | some p => exact fun z => (of_decide_eq_true z).1 q
        rcases hx with ⟨o1, e7⟩ | ⟨P, y, Q, F1, t, F2, g0, gc, e1, hF, o1, e7, tid⟩
        · have e8' : x8 = if zMay nx xx gt lt o (zSc nx inc o s0) = true then 1 else 0 := by
            generalize zSc nx inc o s0 = scc
            rw [e8, o1]; exact zM0_none
          refine mjZ_y rfl rfl 2 _ _ _ _ tu ?_
          refine And.intro (fun b => ?_) (fun b => ?_)
          · exact s140 u x7 x8 s0 tu fu hu (Or.inl ⟨o1, e7⟩) esc nb e8'
          · exact absurd (lt_m1 e7) b
        · have zx : ZX x7 := Or.inr ⟨P, y, Q, F1, t, F2, g0, gc, e1, hF, o1, e7, tid⟩
          have e8n : x8 = (if nx = 0 then 1 else 0) := by rw [o1] at e8; exact e8
          refine mjZ_y rfl rfl 2 _ _ _ _ tu ?_
          refine And.intro (fun b => ?_) (fun b => ?_)
          · exact absurd (show x7 < 0 from b) (lt_nI (by omega) e7)
          · refine mjZ_y rfl rfl 2 _ _ _ _ tu ?_
            refine And.intro (fun b2 => ?_) (fun b2 => ?_)
            · have hn : ¬ nx = 0 := fun z => by rw [if_pos z] at e8n; exact absurd (e8n.symm.trans b2) (by decide)
              refine s140 u x7 x8 s0 tu fu hu zx esc nb ?_
              generalize zSc nx inc o s0 = scc
              rw [o1, if_neg (zMay_no hn), e8n, if_neg hn]
            · have hn : nx = 0 := Decidable.of_not_not (fun z => b2 (by show x8 = 0; rw [e8n, if_neg z]))
              refine gl116 u P Q y F1 F2 t x7 s0 tu hOu hu g0 hF e7 hn (fun x8 e8' => ?_) x8
              refine s140 u x7 x8 s0 tu fu hu zx esc nb ?_
              rw [← esc, o1]; exact e8'
      · -- INCR
        have qi : ¬ inc = 0 := fun z => q (hOu.2.2.2.2.trans z)
        rcases hx with ⟨o1, e7⟩ | ⟨P, y, Q, F1, t, F2, g0, gc, e1, hF, o1, e7, tid⟩
        · have esc : s0 = zSc nx inc o s0 := by rw [o1]; rfl
          have nb : ¬ zAb nx inc o s0 = true := by rw [o1]; exact fun z => absurd (show false = true from z) (by decide)
          have e8' : x8 = if zMay nx xx gt lt o (zSc nx inc o s0) = true then 1 else 0 := by
            generalize zSc nx inc o s0 = scc
            rw [e8, o1]; exact zM0_none
          refine mjZ_y rfl rfl 2 _ _ _ _ tu ?_
          refine And.intro (fun b => ?_) (fun b => ?_)
          · refine mjZ_y rfl rfl 2 _ _ _ _ tu ?_
            refine And.intro (fun b2 => ?_) (fun b2 => ?_)
            · exact s103 u x7 x8 s0 tu fu hu (Or.inl ⟨o1, e7⟩) esc nb e8'
            · exact absurd (lt_m1 e7) b2
          · exact absurd (lt_m1 e7) b
        · have zx : ZX x7 := Or.inr ⟨P, y, Q, F1, t, F2, g0, gc, e1, hF, o1, e7, tid⟩
          have e8n : x8 = (if nx = 0 then 1 else 0) := by rw [o1] at e8; exact e8
          have hu' : Wd u ws (P ++ y :: Q) l := by rw [← g0]; exact hu
          have v7 : vp_in x7 10000 := by rw [e7]; exact vp_in_nI tid (by decide)
          have c7 : x7.toNatClampNeg = t.1 := by rw [e7]; exact nI_clamp (by omega)
          obtain ⟨hz', hh, hoe⟩ := hu'.eid (y := t) (by rw [hF]; exact List.mem_append_right _ List.mem_cons_self)
          have esc2 : u.2.2.2 (mjHn 30) x7.toNatClampNeg = t.2.2.2 := by rw [c7]; exact hoe.2.2.2
          have en74 : u.2.1 74 = s0 := en
          refine mjZ_y rfl rfl 2 _ _ _ _ tu ?_
          refine And.intro (fun b => ?_) (fun b => ?_)
          · exact absurd (show x7 < 0 from b) (lt_nI (by omega) e7)
          · refine mjZ_y rfl rfl 2 _ _ _ _ tu ?_
            refine And.intro (fun b2 => ?_) (fun b2 => ?_)
            · have hn : ¬ nx = 0 := fun z => by rw [if_pos z] at e8n; exact absurd (e8n.symm.trans b2) (by decide)
              have esc : s0 = zSc nx inc o s0 := by rw [o1]; exact (if_neg (fun z => hn z.2)).symm
              have nb : ¬ zAb nx inc o s0 = true := by rw [o1]; exact fun z => hn (of_decide_eq_true (show decide ((¬ inc = 0) ∧ nx = 0 ∧ ¬ ovI t.2.2.2 s0 = 0) = true from z)).2.1
              refine mjZ_y rfl rfl 2 _ _ _ _ tu ?_
              refine And.intro (fun b3 => ?_) (fun b3 => ?_)
              · exact absurd (show x7 < 0 from b3) (lt_nI (by omega) e7)
              · refine mjZ_y rfl rfl 2 _ _ _ _ tu ?_
                refine And.intro (fun b4 => ?_) (fun b4 => ?_)
                · refine s103 u x7 x8 s0 tu fu hu zx esc nb ?_
                  generalize zSc nx inc o s0 = scc
                  rw [o1, if_neg (zMay_no hn), e8n, if_neg hn]
                · exact absurd b2 b4
            · have hn : nx = 0 := Decidable.of_not_not (fun z => b2 (by show x8 = 0; rw [e8n, if_neg z]))
              have hc2 := c_overflows (Y := Y) (d := d + 5) tu t.2.2.2 s0
              rw [← esc2, ← en74] at hc2
              refine mjZ_y rfl rfl 8 _ _ _ _ tu ?_
              refine (And.intro rfl (And.intro rfl (And.intro v7 (And.intro rfl (And.intro (Nat.le_of_ble_eq_true rfl) (And.intro rfl (And.intro (Nat.le_of_ble_eq_true rfl) (And.intro (Nat.le_of_ble_eq_true rfl) (mjY_mono tu (fun q_ u2 ty2 h_ => ?_) (hc2))))))))))
              obtain ⟨rfl, rfl⟩ := h_
              intro _
              rw [esc2, en74]
              refine mjZ_y rfl rfl 1 _ _ _ _ tu ?_
              refine And.intro (fun r => ?_) (fun r => ?_)
              · have r : ovI t.2.2.2 s0 = 0 := r
                have esc : t.2.2.2 + s0 = zSc nx inc o s0 := by rw [o1]; exact (if_pos ⟨qi, hn⟩).symm
                have nb : ¬ zAb nx inc o s0 = true := by rw [o1]; exact fun z => (of_decide_eq_true (show decide ((¬ inc = 0) ∧ nx = 0 ∧ ¬ ovI t.2.2.2 s0 = 0) = true from z)).2.2 r
                have go : ∀ sc : Int64, sc = t.2.2.2 + s0 → mjY mjPP (mjQQ Y) (d + 6) 133 75 [some (.ref 0), some (.int x1), some (.int x2), some (.int x3), some (.int x4), some (.long sc), none, some (.int x7), some (.int x8)] [] u2 K := by
                  intro sc es
                  refine mjZ_y rfl rfl 2 _ _ _ _ tu ?_
                  refine And.intro (fun b3 => ?_) (fun b3 => ?_)
                  · exact absurd (show x7 < 0 from b3) (lt_nI (by omega) e7)
                  · refine mjZ_y rfl rfl 2 _ _ _ _ tu ?_
                    refine And.intro (fun b4 => ?_) (fun b4 => ?_)
                    · exact absurd b4 b2
                    · refine gl79 u2 P Q y F1 F2 t x7 sc tu hOu hu g0 hF e7 hn (fun x8 e8' => ?_) x8
                      refine s103 u2 x7 x8 sc tu fu hu zx (es.trans esc) nb ?_
                      rw [← esc, ← es, o1]; exact e8'
                refine mjZ_y rfl rfl 8 _ _ _ _ tu ?_
                refine (And.intro rfl (And.intro rfl (And.intro v7 (And.intro rfl (And.intro (Nat.le_of_ble_eq_true rfl) ?_)))))
                exact go _ (by rw [esc2, en74])
              · have r : ¬ ovI t.2.2.2 s0 = 0 := r
                refine mjZ_y rfl rfl 4 _ _ _ _ tu ?_
                refine (And.intro (Nat.le_of_ble_eq_true rfl) (And.intro rfl (And.intro (Nat.le_of_ble_eq_true rfl) (And.intro (Nat.le_of_ble_eq_true rfl) (mjY_mono tu (fun q_ u3 ty3 h_ => ?_) (w_error hu tu _ _))))))
                obtain ⟨rfl, h3, f3⟩ := h_
                intro _
                refine mjZ_y rfl rfl 2 _ _ _ _ ty3 ?_
                refine And.intro rfl (And.intro rfl ?_)
                refine hA u3 ?_ (fu.tr (f3.1.up (by decide) (by decide))) h3
                rw [o1]
                exact decide_eq_true ⟨qi, hn, r⟩
    have s29 : ∀ (u : mjS) (x7 : Int32), mjTY u → Fr zaFF zaHH σ u → Wd u ws ks l → u.2.1 f_num = s0 → ZX x7 → mjY mjPP (mjQQ Y) (d + 6) 133 29 [some (.ref 0), some (.int x1), some (.int x2), some (.int x3), some (.int x4), some (.long s0), none, some (.int x7), l8] [] u K := by
      intro u x7 tu fu hu en hx
      have hOu := hO.fr fu
      rcases hx with ⟨o1, e7⟩ | ⟨P, y, Q, F1, t, F2, g0, gc, e1, hF, o1, e7, tid⟩
      · refine mjZ_y rfl rfl 2 _ _ _ _ tu ?_
        refine And.intro (fun b => ?_) (fun b => ?_)
        · exact absurd b (ge_m1 e7)
        · refine mjZ_y rfl rfl 3 _ _ _ _ tu ?_
          refine (And.intro rfl (And.intro (fun c2 => ?_) (fun c2 => ?_)))
          · have c2 : ¬ xx = 0 := fun z => c2 (hOu.2.1.trans z)
            refine mjZ_y rfl rfl 3 _ _ _ _ tu ?_
            refine (And.intro (Nat.le_of_ble_eq_true rfl) ?_)
            exact s45 u x7 _ tu fu hu en (Or.inl ⟨o1, e7⟩) (by rw [o1]; exact (if_neg c2).symm)
          · have c2 : xx = 0 := hOu.2.1.symm.trans (Decidable.of_not_not c2)
            refine mjZ_y rfl rfl 3 _ _ _ _ tu ?_
            refine (And.intro (Nat.le_of_ble_eq_true rfl) ?_)
            exact s45 u x7 _ tu fu hu en (Or.inl ⟨o1, e7⟩) (by rw [o1]; exact (if_pos c2).symm)
      · have zx : ZX x7 := Or.inr ⟨P, y, Q, F1, t, F2, g0, gc, e1, hF, o1, e7, tid⟩
        refine mjZ_y rfl rfl 2 _ _ _ _ tu ?_
        refine And.intro (fun b => ?_) (fun b => ?_)
        · refine mjZ_y rfl rfl 3 _ _ _ _ tu ?_
          refine (And.intro rfl (And.intro (fun c2 => ?_) (fun c2 => ?_)))
          · have c2 : ¬ nx = 0 := fun z => c2 (hOu.1.trans z)
            refine mjZ_y rfl rfl 2 _ _ _ _ tu ?_
            refine (And.intro (Nat.le_of_ble_eq_true rfl) ?_)
            exact s45 u x7 _ tu fu hu en zx (by rw [o1]; exact (if_neg c2).symm)
          · have c2 : nx = 0 := hOu.1.symm.trans (Decidable.of_not_not c2)
            refine mjZ_y rfl rfl 3 _ _ _ _ tu ?_
            refine (And.intro (Nat.le_of_ble_eq_true rfl) ?_)
            exact s45 u x7 _ tu fu hu en zx (by rw [o1]; exact (if_pos c2).symm)
        · exact absurd (ge_nI (by omega) e7) b
    refine mjZ_y rfl rfl 4 _ _ _ _ ty ?_
    refine (And.intro rfl (And.intro (fun q => ?_) (fun q => ?_)))
    · exact absurd (show σ.1 f_words ≤ x4 from q) (by rw [h.2.1.1, e4]; exact nI_ge (by omega) (by omega))
    · have hci := c_integer (Y := Y) (d := d + 4) ty h.2.1 a s hs
      rw [← e4] at hci
      refine mjZ_y rfl rfl 3 _ _ _ _ ty ?_
      refine (And.intro (Nat.le_of_ble_eq_true rfl) (And.intro rfl (And.intro (Nat.le_of_ble_eq_true rfl) (And.intro (Nat.le_of_ble_eq_true rfl) (mjY_mono ty (fun q_ u1 ty1 h_ => ?_) (hci))))))
      have h5 := h_
      intro _
      rw [es0] at h5
      obtain ⟨rfl, f5, e5⟩ := h5
      have h6 := h.fr f5 (by decide) (by decide)
      have f5z : Fr zaFF zaHH σ u1 := f5.up (by decide) (by decide)
      have e574 : u1.2.1 74 = s0 := e5
      refine mjZ_y rfl rfl 4 _ _ _ _ ty1 ?_
      refine (And.intro rfl (And.intro (Nat.le_of_ble_eq_true rfl) ?_))
      rw [e574]
      rcases hc with ⟨c1, c2⟩ | ⟨P, y, Q, g0, c1, c2⟩
      · have o1 : o = none := by rw [← ho, c1]; rfl
        refine mjZ_y rfl rfl 6 _ _ _ _ ty1 ?_
        refine (And.intro (Nat.le_of_ble_eq_true rfl) (And.intro rfl (And.intro (Nat.le_of_ble_eq_true rfl) (And.intro (Nat.le_of_ble_eq_true rfl) (mjY_mono ty1 (fun q_ u2 ty2 h_ => ?_) (w_ranked0 ty1 c2))))))
        obtain ⟨rfl, rfl⟩ := h_
        intro _
        refine mjZ_y rfl rfl 1 _ _ _ _ ty1 ?_
        refine (And.intro (Nat.le_of_ble_eq_true rfl) ?_)
        exact s29 u2 _ ty1 f5z h6 e5 (Or.inl ⟨o1, rfl⟩)
      · have h6' : Wd u1 ws (P ++ y :: Q) l := by rw [← g0]; exact h6
        refine mjZ_y rfl rfl 6 _ _ _ _ ty1 ?_
        refine (And.intro (Nat.le_of_ble_eq_true rfl) (And.intro rfl (And.intro (Nat.le_of_ble_eq_true rfl) (And.intro (Nat.le_of_ble_eq_true rfl) (mjY_mono ty1 (fun q_ u2 ty2 h_ => ?_) (w_ranked h6' ty1 hv c2 (by rw [e4]; exact nI_1 a)))))))
        obtain ⟨rfl, r, rfl, hr⟩ := h_
        intro _
        refine mjZ_y rfl rfl 1 _ _ _ _ ty1 ?_
        refine (And.intro (Nat.le_of_ble_eq_true rfl) ?_)
        cases hf : fdE v (y.2.2.2.2.2.2.map (fun z => z.2)) with
        | none =>
          rw [hf] at hr
          have hr : r = -1 := hr
          exact s29 u2 _ ty1 f5z h6 e5 (Or.inl ⟨by rw [← ho, c1, g0]; exact zIx_at.1 hf, hr⟩)
        | some i =>
          rw [hf] at hr
          obtain ⟨F1, t, F2, hF, hl1, er⟩ := hr
          subst hl1
          have tid := (h6'.eid (y := t) (by rw [hF]; exact List.mem_append_right _ List.mem_cons_self)).elim (fun _ k => k.2.1)
          exact s29 u2 _ ty1 f5z h6 e5 (Or.inr ⟨P, y, Q, F1, t, F2, g0, c1, c2, hF, by rw [← ho, c1, g0]; exact zIx_at.2 F1 t F2 hF hf, er, tid⟩)
def zdF (nx xx gt lt inc : Int32) (A : List AK) (w : List Int32) (vs : List (List Int32)) : Option (List AK) := if zaB nx inc A (kyI A w) vs = true then none else if zaN nx xx gt lt inc w A (kyI A w) vs = 0 then none else some (zaA nx xx gt lt inc w A (kyI A w) vs)
set_option maxRecDepth 100000 in
theorem r_zadd {σ : mjS} {ws : List (List Int32)} {ks : List KR} {l : List Int32} (h : Wd σ ws ks l) (ty : mjTY σ) {w : List Int32} (h1 : ws[1]? = some w) (p m : Nat) (ep : σ.1 f_pairs = nI p) (hp : p + 2 * m = ws.length) (hz : zOK (ws.drop p)) (hS : SRT (strip ks)) (hm : σ.1 f_optIncr = 0 ∨ m ≤ 1) (hwl : w.length ≤ 100000) (ht : tT (strip ks) + w.length + sl ws ≤ 200000) (hn : eN (strip ks) + ws.length < 10000) (hl : ks.length + 1 < 4700) (hs : l.length + 132 + sz ws ≤ 420000) :
    mjY mjPP (mjQQ Y) (d + 7) 133 0 (mjL0 9 [.ref 0]) [] σ (cmdK σ ws ks l 78 (zdF (σ.1 f_optNx) (σ.1 f_optXx) (σ.1 f_optGt) (σ.1 f_optLt) (σ.1 f_optIncr) (strip ks) w (ws.drop p))) := by
  have hlen := (List.getElem?_eq_some_iff.mp h1).1
  have h1024 := h.2.1.2.1
  have hsl := sl_drop ws p
  have cw := co1_le (strip ks) w
  refine mjZ_y rfl rfl 3 _ _ _ _ ty ?_
  refine (And.intro (Nat.le_of_ble_eq_true rfl) (And.intro rfl (And.intro (Nat.le_of_ble_eq_true rfl) (And.intro (Nat.le_of_ble_eq_true rfl) (mjY_mono ty (fun q_ u1 ty1 h_ => ?_) (w_key h ty h1 (x := Int32.ofInt 1) rfl))))))
  obtain ⟨rfl, rfl⟩ := h_
  intro _
  refine mjZ_y rfl rfl 8 _ _ _ _ ty1 ?_
  refine (And.intro (Nat.le_of_ble_eq_true rfl) (And.intro (Nat.le_of_ble_eq_true rfl) (And.intro (Nat.le_of_ble_eq_true rfl) (And.intro rfl (And.intro (Nat.le_of_ble_eq_true rfl) ?_)))))
  refine c_za_loop (d := d + 1) _ h1 hwl _ _ _ _ _ m p 0 0 u1 ks (kyI (strip ks) w) _ _ _ _ _ _ _ _ hS hp (by omega) (ky_cu ks w) rfl rfl ep ⟨rfl, rfl, rfl, rfl, rfl⟩ ty1 h hz hm (by omega) (by omega) (by omega) (fun u ks' cur' f' c' x1 x2 x3 x4 l5 l6 l7 l8 tu fu hu eu en hle e2 e3 hc hcz nb => ?_) (fun u q fu hu => ?_)
  · have fa : Fr cF cH u1 u := fu.up (by decide) (by decide)
    have e23 : x2 + x3 = nI (f' + c') := by rw [e2, e3, nI_add]
    -- the answer
    have fin : ∀ (v : mjS) (l' : List Int32) (o : Option (List AK)), mjTY v → Fr cF cH u1 v → Wd v ws ks' l' → (∀ z, Fr cF cH u1 z → Wd z ws ks' l' → cmdK u1 ws ks l 78 o none z) → mjY mjPP (mjQQ Y) (d + 7) 133 185 [some (.ref 0), some (.int x1), some (.int x2), some (.int x3), some (.int x4), l5, l6, l7, l8] [] v (cmdK u1 ws ks l 78 o) := by
      intro v l' o tv fv hv hK
      have tail : ∀ z : Int64, mjY mjPP (mjQQ Y) (d + 7) 133 199 [some (.ref 0), some (.int x1), some (.int x2), some (.int x3), some (.int x4), l5, l6, l7, l8] [.long z, .ref 0] v (cmdK u1 ws ks l 78 o) := by
        intro z
        refine mjZ_y rfl rfl 1 _ _ _ _ tv ?_
        refine (And.intro (Nat.le_of_ble_eq_true rfl) (And.intro rfl (And.intro (Nat.le_of_ble_eq_true rfl) (And.intro (Nat.le_of_ble_eq_true rfl) (mjY_mono tv (fun q_ u2 ty2 h_ => ?_) (w_number hv tv _))))))
        obtain ⟨rfl, h2, f2⟩ := h_
        intro _
        refine mjZ_y rfl rfl 1 _ _ _ _ ty2 ?_
        refine And.intro rfl (And.intro rfl ?_)
        exact hK u2 (fv.tr f2.c) h2
      refine mjZ_y rfl rfl 3 _ _ _ _ tv ?_
      refine (And.intro rfl (And.intro (fun a => ?_) (fun a => ?_)))
      · refine mjZ_y rfl rfl 1 _ _ _ _ tv ?_
        refine And.intro rfl (And.intro rfl ?_)
        exact hK v fv hv
      · refine mjZ_y rfl rfl 4 _ _ _ _ tv ?_
        refine (And.intro rfl (And.intro (fun b => ?_) (fun b => ?_)))
        · refine mjZ_y rfl rfl 2 _ _ _ _ tv ?_
          exact tail _
        · refine mjZ_y rfl rfl 5 _ _ _ _ tv ?_
          exact tail _
    refine mjZ_y rfl rfl 4 _ _ _ _ tu ?_
    refine And.intro (fun q => ?_) (fun q => ?_)
    · have q : zaN (u1.1 f_optNx) (u1.1 f_optXx) (u1.1 f_optGt) (u1.1 f_optLt) (u1.1 f_optIncr) w (strip ks) (kyI (strip ks) w) (ws.drop p) = 0 := by
        have q : x2 + x3 ≤ nI 0 := q
        rw [e23] at q
        have := (nI_leI (by omega) (by decide)).mp q; omega
      have eo : zdF (u1.1 f_optNx) (u1.1 f_optXx) (u1.1 f_optGt) (u1.1 f_optLt) (u1.1 f_optIncr) (strip ks) w (ws.drop p) = none := by unfold zdF; rw [if_neg nb, if_pos q]
      rw [eo]
      exact fin u l none tu fa hu (fun z fz hz => ⟨rfl, fz, ks', hz, by rw [eu]; exact zaN_0 _ _ _ _ _ w m _ _ _ (by rw [List.length_drop]; omega) q⟩)
    · have q : ¬ zaN (u1.1 f_optNx) (u1.1 f_optXx) (u1.1 f_optGt) (u1.1 f_optLt) (u1.1 f_optIncr) w (strip ks) (kyI (strip ks) w) (ws.drop p) = 0 := fun z => q (show x2 + x3 ≤ nI 0 by rw [e23]; exact nI_le (by omega) (by decide))
      have eo : zdF (u1.1 f_optNx) (u1.1 f_optXx) (u1.1 f_optGt) (u1.1 f_optLt) (u1.1 f_optIncr) (strip ks) w (ws.drop p) = some (zaA (u1.1 f_optNx) (u1.1 f_optXx) (u1.1 f_optGt) (u1.1 f_optLt) (u1.1 f_optIncr) w (strip ks) (kyI (strip ks) w) (ws.drop p)) := by unfold zdF; rw [if_neg nb, if_neg q]
      rw [eo]
      rcases hc with ⟨c1, -⟩ | ⟨P, y, Q, g0, -, c2⟩
      · exact absurd c1 (hcz (Or.inr q))
      · refine mjZ_y rfl rfl 3 _ _ _ _ tu ?_
        refine (And.intro (Nat.le_of_ble_eq_true rfl) (And.intro rfl (And.intro (Nat.le_of_ble_eq_true rfl) (And.intro (Nat.le_of_ble_eq_true rfl) (mjY_mono tu (fun q_ u2 ty2 h_ => ?_) (w_touch hu tu (x := y) (by rw [g0]; exact List.mem_append_right _ List.mem_cons_self) c2))))))
        obtain ⟨rfl, h2, f2⟩ := h_
        intro _
        refine mjZ_y rfl rfl 3 _ _ _ _ ty2 ?_
        refine (And.intro (Nat.le_of_ble_eq_true rfl) (And.intro rfl (And.intro (Nat.le_of_ble_eq_true rfl) (And.intro (Nat.le_of_ble_eq_true rfl) (mjY_mono ty2 (fun q_ u3 ty3 h_ => ?_) (w_noteAll h2 ty2 (by omega) 78 rfl (by decide) hs))))))
        obtain ⟨rfl, h3, f3⟩ := h_
        intro _
        have fb := fa.tr f2.t
        rw [ntA_fr fb] at h3
        exact fin u3 _ _ ty3 (fb.tr f3.n) h3 (fun z fz hz => ⟨rfl, fz, ks', hz, eu⟩)
  · have eo : zdF (u1.1 f_optNx) (u1.1 f_optXx) (u1.1 f_optGt) (u1.1 f_optLt) (u1.1 f_optIncr) (strip ks) w (ws.drop p) = none := by unfold zdF; rw [if_pos q]
    rw [eo]
    exact ⟨rfl, fu.up (by decide) (by decide), ks, hu, rfl⟩
end ZADD
