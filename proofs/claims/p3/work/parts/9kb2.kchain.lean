/-! The class's log as blocks of steps, and that it can be run again. -/
section KCHAIN
/-- steps, one after another -/
def KCh (P : Nat) : List AK → List Req → List AK → Prop
  | A, [], A' => A' = A
  | A, q :: ns, A' => ∃ C, KSt A q C ∧ LJ C P ∧ KCh P C ns A'
theorem KCh_app {P : Nat} : ∀ {ns ms : List Req} {A C E : List AK}, KCh P A ns C → KCh P C ms E → KCh P A (ns ++ ms) E
  | [], _, A, C, E, h, g => by have h : C = A := h; rw [← h]; exact g
  | _ :: _, _, _, _, _, h, g => by
    obtain ⟨D, h1, h2, h3⟩ := h
    exact ⟨D, h1, h2, KCh_app h3 g⟩
theorem KCh_less {p q : Nat} (hq : q ≤ p) : ∀ {ns : List Req} {A C : List AK}, KCh p A ns C → KCh q A ns C
  | [], _, _, h => h
  | _ :: _, _, _, h => by
    obtain ⟨D, h1, h2, h3⟩ := h
    exact ⟨D, h1, h2.less hq, KCh_less hq h3⟩
theorem KCh_LJ {P : Nat} : ∀ {ns : List Req} {A C : List AK}, KCh P A ns C → LJ A P → LJ C P
  | [], _, _, h, g => by have h : _ = _ := h; rw [h]; exact g
  | _ :: _, _, _, h, _ => by
    obtain ⟨D, _, h2, h3⟩ := h
    exact KCh_LJ h3 h2
theorem KCh_lq {P : Nat} : ∀ {ns : List Req} {A C : List AK}, KCh P A ns C → ∀ q ∈ ns, LQ q
  | [], _, _, _, q, hq => by cases hq
  | _ :: _, _, _, h, q, hq => by
    obtain ⟨D, h1, h2, h3⟩ := h
    rcases List.mem_cons.mp hq with e | e
    · rw [e]; exact h1.lq
    · exact KCh_lq h3 q e
/-- the blocks lead from one list to another; so many bytes stand before them -/
def KLg (P : Nat) : Nat → List AK → List Blk → List AK → Prop
  | _, A, [], A' => A' = A
  | n, A, x :: r, A' => x.2 ≠ [] ∧ (x.1 = false → x.2.length ≤ 1) ∧ ∃ C, KCh P A x.2 C ∧ n + (blkB x.1 x.2).length + (19 * tS C + 2 * uS C + 8 * P) ≤ 207584 ∧ KLg P (n + (blkB x.1 x.2).length) C r A'
theorem KLg_app {P : Nat} : ∀ {E F : List Blk} {A B C : List AK} {n : Nat}, KLg P n A E B → KLg P (n + (enE E).length) B F C → KLg P n A (E ++ F) C := by
  intro E
  induction E with
  | nil => intro F A B C n h g; have h : B = A := h; rw [← h]; exact g
  | cons x r ih =>
    intro F A B C n h g
    obtain ⟨h1, h2, D, h3, h5, h4⟩ := h
    refine ⟨h1, h2, D, h3, h5, ih h4 ?_⟩
    have e : n + (enE (x :: r)).length = n + (blkB x.1 x.2).length + (enE r).length := by
      show n + (blkB x.1 x.2 ++ enE r).length = _; rw [List.length_append, Nat.add_assoc]
    rw [← e]; exact g
theorem KLg_less {p q : Nat} (hq : q ≤ p) : ∀ {E : List Blk} {A B : List AK} {n : Nat}, KLg p n A E B → KLg q n A E B := by
  intro E
  induction E with
  | nil => intro A B n h; exact h
  | cons x r ih => intro A B n h; obtain ⟨h1, h2, D, h3, h5, h4⟩ := h; exact ⟨h1, h2, D, KCh_less hq h3, by omega, ih h4⟩
theorem KLg_LJ {P : Nat} : ∀ {E : List Blk} {A B : List AK} {n : Nat}, KLg P n A E B → LJ A P → LJ B P := by
  intro E
  induction E with
  | nil => intro A B n h hA; have h : B = A := h; rw [h]; exact hA
  | cons x r ih => intro A B n h hA; obtain ⟨_, _, D, h3, _, h4⟩ := h; exact ih h4 (KCh_LJ h3 hA)
theorem enE_fl : ∀ E : List Blk, enE E = E.flatMap bkB
  | [] => rfl
  | x :: r => by
    show blkB x.1 x.2 ++ enE r = _
    rw [List.flatMap_cons, enE_fl r]; rfl
/-- the words there may be -/
def BS (B : List (List Int32)) : Prop := sl B ≤ 235000 ∧ B.length + 1 ≤ 36000 ∧ [] ∈ B
theorem BS.ok {B : List (List Int32)} (h : BS B) {q : Req} (hq : ∀ w ∈ q, w ∈ B) : BOK B q := ⟨h.1, h.2.1, h.2.2, hq⟩
/-- the word that a request may make -/
def gnW (A : List AK) (q : Req) : List (List Int32) := (intF (gw q 3)).elim [] (fun n => (vhA A (gw q 1) (gw q 2)).elim [] (fun m => [dec (m + n)]))
theorem gn_in {A : List AK} {q : Req} {n m : Int64} (h1 : intF (gw q 3) = some n) (h2 : vhA A (gw q 1) (gw q 2) = some m) : dec (m + n) ∈ gnW A q := by
  unfold gnW; rw [h1, h2]; exact List.mem_cons_self ..
theorem decN_1 : ∀ f m, 1 ≤ (decN f m).length
  | 0, m => Nat.le_refl _
  | f + 1, m => by
    show 1 ≤ (if m < 10 then [nI (48 + m)] else decN f (m / 10) ++ [nI (48 + m % 10)]).length
    split
    · exact Nat.le_refl _
    · rw [List.length_append, List.length_singleton]; omega
theorem dec_ge1 (x : Int64) : 1 ≤ (dec x).length := by
  have := decN_1 19 (mg x)
  unfold dec
  rw [List.length_append]; omega
theorem gn_sz (A : List AK) (q : Req) : gnW A q = [] ∨ (4 ≤ q.length ∧ ∃ w, gnW A q = [w] ∧ w.length ≤ 20) := by
  by_cases c : 4 ≤ q.length
  · unfold gnW
    cases intF (gw q 3) with
    | none => exact Or.inl rfl
    | some n =>
      cases vhA A (gw q 1) (gw q 2) with
      | none => exact Or.inl rfl
      | some m => exact Or.inr ⟨c, dec (m + n), rfl, dec_20 _⟩
  · refine Or.inl ?_
    have e : gw q 3 = [] := by unfold gw; rw [List.getD_eq_getElem?_getD, List.getElem?_eq_none (by omega)]; rfl
    unfold gnW
    rw [e]; rfl
theorem wordL_ge (w : List Int32) : w.length + 6 ≤ (wordL w).length := by
  have h := dec_ge1 (lN w.length)
  unfold wordL
  simp only [List.length_append, List.length_cons, List.length_nil]
  omega
theorem wordsL_ge : ∀ q : Req, sl q + 6 * q.length ≤ (wordsL q).length
  | [] => Nat.le_refl _
  | w :: r => by
    have h1 := wordL_ge w
    have h2 := wordsL_ge r
    show w.length + sl r + 6 * (r.length + 1) ≤ (wordL w ++ wordsL r).length
    rw [List.length_append]; omega
theorem encR_ge4 (q : Req) : sl q + 6 * q.length + 4 ≤ (encR q).length := by
  have h := wordsL_ge q
  have h2 := dec_ge1 (lN q.length)
  rw [encR_hd]
  unfold hdN
  simp only [List.length_append, List.length_cons, List.length_nil]
  omega
theorem tx_3 : ∀ j, j < 105 → 2 ≤ (tb (txC j)).length := by decide +kernel
theorem gn_cost {A A' : List AK} {q : Req} (h : KSt A q A') : sl q + sl (gnW A q) ≤ (encR q).length ∧ 6 * (q.length + (gnW A q).length) ≤ (encR q).length := by
  have g := encR_ge4 q
  rcases gn_sz A q with e | ⟨h4, w, e, hw⟩
  · rw [e]; exact ⟨by show sl q + 0 ≤ _; omega, by simp only [List.length_nil]; omega⟩
  · obtain ⟨j, ⟨hj, ⟨w0, hw0, hm⟩, -⟩, -⟩ := h
    have h2 : 2 ≤ w0.length := by
      have := tx_3 j hj
      rw [← hm, List.length_map] at this; exact this
    have h3 : w0.length ≤ sl q := by have := sl_get hw0; omega
    rw [e]
    exact ⟨by show sl q + (w.length + 0) ≤ _; omega, by simp only [List.length_cons, List.length_nil]; omega⟩
theorem sl_app' (a b : List (List Int32)) : sl (a ++ b) = sl a + sl b := by
  induction a with
  | nil => show sl b = 0 + sl b; omega
  | cons x r ih => show x.length + sl (r ++ b) = x.length + sl r + sl b; omega
/-- steps are run again -/
theorem KCh_RC {P : Nat} : ∀ {ns : List Req} {A A' : List AK}, KCh P A ns A' → ∃ W : List (List Int32), sl W ≤ (encs ns).length ∧ 6 * W.length ≤ (encs ns).length ∧ ∀ B, BS B → (∀ w ∈ W, w ∈ B) → ∀ now r C, RCh B now A' r C → RCh B now A (ns ++ r) C
  | [], _, _, h => ⟨[], Nat.zero_le _, Nat.zero_le _, fun B _ _ now r C hr => by have h : _ = _ := h; rw [← h]; exact hr⟩
  | q :: ns, A, A', h => by
    obtain ⟨D, h1, h2, h3⟩ := h
    obtain ⟨W, w1, w2, w3⟩ := KCh_RC h3
    obtain ⟨c1, c2⟩ := gn_cost h1
    have e : (encs (q :: ns)).length = (encR q).length + (encs ns).length := by
      show (List.flatMap encR (q :: ns)).length = _
      rw [List.flatMap_cons, List.length_append]; rfl
    refine ⟨q ++ (gnW A q ++ W), by rw [sl_app', sl_app', e]; omega, by rw [List.length_append, List.length_append, e]; omega, fun B hB hW now r C hr => ?_⟩
    refine h1.rc (hB.ok (fun w hw => hW w (List.mem_append_left _ hw))) (fun n m g1 g2 => hW _ (List.mem_append_right _ (List.mem_append_left _ (gn_in g1 g2)))) now ?_
    exact w3 B hB (fun w hw => hW w (List.mem_append_right _ (List.mem_append_right _ hw))) now r C hr
end KCHAIN
