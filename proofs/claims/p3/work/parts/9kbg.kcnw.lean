/-! What waits in the connections' inputs and blocks; the world between two requests. -/
/-- a request that waits -/
def QKo (q : Req) : Prop := (∀ w ∈ q, WOK w) ∧ ∃ j, QC q j
def CN1 (s : kS) (c : Nat) (l : List Int32) (qs : List Req) : Prop := (kBY s (c + 1) l ∧ s.1 (c + 1) 3 = 0) ∧ (∃ bk ∈ payB, s.2.2.1 c 3 = some bk ∧ kBY s bk (encs qs) ∧ s.1 bk 3 = 0) ∧ s.1 c 7 = nI qs.length ∧ qs.length ≤ 200 ∧ ∀ q ∈ qs, QKo q
def CNW (s : kS) (I : Nat → List Int32) (Q : Nat → List Req) : Prop := ∀ c ∈ CNs, CN1 s c (I c) (Q c)
def sC (f : Nat → Nat) : Nat := f 12 + f 21 + f 30 + f 39
def sIn (I : Nat → List Int32) : Nat := sC (fun c => (I c).length)
def sQu (Q : Nat → List Req) : Nat := sC (fun c => rqs (Q c))
/-- the block that runs is no connection's -/
def RNW (s : kS) : Prop := BLJ s ∧ ∃ rn ∈ payB, s.2.2.1 0 12 = some rn ∧ ∀ c ∈ CNs, ¬ s.2.2.1 c 3 = some rn
def JB (s : kS) (b : Nat) : Prop := b ∈ [5, 7] ∧ s.2.2.1 0 10 = some b ∧ ∃ b' ∈ [5, 7], s.2.2.1 0 11 = some b' ∧ ¬ b' = b
def CLK (s : kS) : Prop := s.1 59 17 = 0 ∧ 0 ≤ s.2.1 59 16 ∧ s.2.1 59 16 ≤ MXC
def TAP (s : kS) : Prop := kBY s 1 [] ∧ s.1 1 3 = 0
/-- these stay -/
def FIX (s u : kS) : Prop := u.2.2.1 0 10 = s.2.2.1 0 10 ∧ u.2.2.1 0 11 = s.2.2.1 0 11 ∧ u.1 59 17 = s.1 59 17 ∧ u.2.1 59 16 = s.2.1 59 16
section KCNW
variable {s u v : kS} {I : Nat → List Int32} {Q : Nat → List Req} {X : List Nat} {b c : Nat}
theorem CN_4 {c : Nat} (h : c ∈ CNs) : c = 12 ∨ c = 21 ∨ c = 30 ∨ c = 39 := by
  have q : ∀ c ∈ CNs, c = 12 ∨ c = 21 ∨ c = 30 ∨ c = 39 := by decide
  exact q c h
theorem CN_pick {α : Type} {P : Nat → α → Prop} (h : ∀ c ∈ CNs, ∃ x, P c x) : ∃ f : Nat → α, ∀ c ∈ CNs, P c (f c) := by
  obtain ⟨x1, h1⟩ := h 12 (by decide)
  obtain ⟨x2, h2⟩ := h 21 (by decide)
  obtain ⟨x3, h3⟩ := h 30 (by decide)
  obtain ⟨x4, h4⟩ := h 39 (by decide)
  refine ⟨fun c => if c = 12 then x1 else if c = 21 then x2 else if c = 30 then x3 else x4, fun c hc => ?_⟩
  rcases CN_4 hc with rfl | rfl | rfl | rfl
  · exact h1
  · exact h2
  · exact h3
  · exact h4
theorem sC_le {f g : Nat → Nat} (h : ∀ c ∈ CNs, f c ≤ g c) : sC f ≤ sC g := by
  have h1 := h 12 (by decide)
  have h2 := h 21 (by decide)
  have h3 := h 30 (by decide)
  have h4 := h 39 (by decide)
  unfold sC; omega
theorem sC_at {f : Nat → Nat} (hc : c ∈ CNs) : f c ≤ sC f := by
  unfold sC
  rcases CN_4 hc with rfl | rfl | rfl | rfl <;> omega
/-- one is other than it was -/
theorem sC_one {f g : Nat → Nat} (hc : c ∈ CNs) (h : ∀ c' ∈ CNs, ¬ c' = c → f c' ≤ g c') : sC f + g c ≤ sC g + f c := by
  have h1 := h 12 (by decide)
  have h2 := h 21 (by decide)
  have h3 := h 30 (by decide)
  have h4 := h 39 (by decide)
  unfold sC
  rcases CN_4 hc with rfl | rfl | rfl | rfl
  · have := h2 (by decide); have := h3 (by decide); have := h4 (by decide); omega
  · have := h1 (by decide); have := h3 (by decide); have := h4 (by decide); omega
  · have := h1 (by decide); have := h2 (by decide); have := h4 (by decide); omega
  · have := h1 (by decide); have := h2 (by decide); have := h3 (by decide); omega
theorem CNW.cq (h : CNW s I Q) (q : CQ X s u) (J : Nat → List Int32) (hx : ∀ c ∈ CNs, c ∈ X → kBY u (c + 1) (J c) ∧ u.1 (c + 1) 3 = 0) : ∃ I' Q', CNW u I' Q' ∧ ∀ c ∈ CNs, (¬ c ∈ X → (I' c = I c ∧ u.1 c 0 = s.1 c 0) ∨ (I' c = [] ∧ u.1 c 0 = 0)) ∧ (c ∈ X → I' c = J c) ∧ (Q' c = Q c ∨ Q' c = []) := by
  have step : ∀ c ∈ CNs, ∃ x : List Int32 × List Req, CN1 u c x.1 x.2 ∧ (¬ c ∈ X → (x.1 = I c ∧ u.1 c 0 = s.1 c 0) ∨ (x.1 = [] ∧ u.1 c 0 = 0)) ∧ (c ∈ X → x.1 = J c) ∧ (x.2 = Q c ∨ x.2 = []) := by
    intro c hc
    obtain ⟨⟨i1, i2⟩, ⟨bk, hbk, f, k1, k2⟩, c7, l2, hq⟩ := h c hc
    have hl : ∃ l, (kBY u (c + 1) l ∧ u.1 (c + 1) 3 = 0) ∧ (¬ c ∈ X → (l = I c ∧ u.1 c 0 = s.1 c 0) ∨ (l = [] ∧ u.1 c 0 = 0)) ∧ (c ∈ X → l = J c) := by
      by_cases w : c ∈ X
      · exact ⟨J c, hx c hc w, fun y => absurd w y, fun _ => rfl⟩
      · rcases q.2.1 c hc w with ⟨y, z⟩ | ⟨y, z⟩
        · exact ⟨I c, ⟨y.1 _ i1, y.2.trans i2⟩, fun _ => Or.inl ⟨rfl, z⟩, fun y => absurd y w⟩
        · exact ⟨[], y, fun _ => Or.inr ⟨rfl, z⟩, fun y => absurd y w⟩
    obtain ⟨l, hl1, hl2, hl3⟩ := hl
    have fu : u.2.2.1 c 3 = some bk := (q.1 c hc).trans f
    rcases q.2.2.1 c hc bk hbk f with ⟨y, z⟩ | ⟨y, z⟩
    · exact ⟨(l, Q c), ⟨hl1, ⟨bk, hbk, fu, y.1 _ k1, y.2.trans k2⟩, z.trans c7, l2, hq⟩, hl2, hl3, Or.inl rfl⟩
    · exact ⟨(l, []), ⟨hl1, ⟨bk, hbk, fu, y.1, y.2⟩, z, Nat.zero_le _, fun q hq => by cases hq⟩, hl2, hl3, Or.inr rfl⟩
  obtain ⟨g, hg⟩ := CN_pick step
  exact ⟨fun c => (g c).1, fun c => (g c).2, fun c hc => (hg c hc).1, fun c hc => (hg c hc).2⟩
/-- behind what closes no more than it may -/
theorem CNW.cq0 (h : CNW s I Q) (q : CQ [] s u) : ∃ I' Q', CNW u I' Q' ∧ sIn I' ≤ sIn I ∧ sQu Q' ≤ sQu Q ∧ ∀ c ∈ CNs, (I' c = I c ∧ u.1 c 0 = s.1 c 0) ∨ (I' c = [] ∧ u.1 c 0 = 0) := by
  obtain ⟨I', Q', a1, a2⟩ := h.cq q (fun _ => []) (fun c hc w => by cases w)
  refine ⟨I', Q', a1, sC_le (fun c hc => ?_), sC_le (fun c hc => ?_), fun c hc => (a2 c hc).1 List.not_mem_nil⟩
  · rcases (a2 c hc).1 List.not_mem_nil with ⟨e, -⟩ | ⟨e, -⟩
    · rw [e]; exact Nat.le_refl _
    · rw [e]; exact Nat.zero_le _
  · rcases (a2 c hc).2.2 with e | e
    · rw [e]; exact Nat.le_refl _
    · rw [e]; exact Nat.zero_le _
/-- behind the end of a request -/
theorem CNW.fn (h : CNW s I Q) (hj : BLJ s) (eF : ∀ c' ∈ CNs, u.2.2.1 c' 3 = s.2.2.1 c' 3) (hc : c ∈ CNs) (q : FNc c s u) : ∃ I' Q', CNW u I' Q' ∧ (∀ c' ∈ CNs, ¬ c' = c → I' c' = I c') ∧ (∀ c' ∈ CNs, Q' c' = Q c' ∨ Q' c' = []) ∧ ((I' c = I c ∧ u.1 c 0 = s.1 c 0) ∨ (I' c = [] ∧ u.1 c 0 = 0)) := by
  have q1 : (∀ c ∈ CNs, c + 1 ∈ OFb) ∧ ∀ b ∈ payB, b ∈ OFb := by decide
  rcases q with ⟨k1, k2⟩ | ⟨bk, hbk, eb, em, ei, z7, z0, k1, k2⟩
  · refine ⟨I, Q, fun c' hc' => ?_, fun c' _ _ => rfl, fun c' _ => Or.inl rfl, Or.inl ⟨rfl, (k2 c hc).2⟩⟩
    obtain ⟨⟨i1, i2⟩, ⟨bk, hbk, f, j1, j2⟩, c7, l2, hq⟩ := h c' hc'
    obtain ⟨a1, a2⟩ := k1 _ (q1.1 c' hc') _ i1
    obtain ⟨a3, a4⟩ := k1 _ (q1.2 bk hbk) _ j1
    exact ⟨⟨a1, a2.trans i2⟩, ⟨bk, hbk, (eF c' hc').trans f, a3, a4.trans j2⟩, (k2 c' hc').1.trans c7, l2, hq⟩
  · have step : ∀ c' ∈ CNs, ∃ x : List Int32 × List Req, CN1 u c' x.1 x.2 ∧ ((¬ c' = c → x.1 = I c') ∧ (c' = c → x.1 = [])) ∧ (x.2 = Q c' ∨ x.2 = []) := by
      intro c' hc'
      by_cases w : c' = c
      · rw [w]
        exact ⟨([], []), ⟨ei, ⟨bk, hbk, (eF c hc).trans eb, em⟩, z7, Nat.zero_le _, fun q hq => by cases hq⟩, ⟨fun y => absurd rfl y, fun _ => rfl⟩, Or.inr rfl⟩
      · obtain ⟨⟨i1, i2⟩, ⟨bk', hbk', f, j1, j2⟩, c7, l2, hq⟩ := h c' hc'
        have nb : ¬ bk' = bk := fun y => w (hj.2 c' hc' c hc (by rw [f, eb, y]))
        have n1 := cn_ne c hc c' hc' w
        obtain ⟨a1, a2⟩ := k1 _ (q1.1 c' hc') (cn_nb c' hc' bk hbk).2.2.1 n1.2.1 _ i1
        obtain ⟨a3, a4⟩ := k1 _ (q1.2 bk' hbk') nb (cn_nb c hc bk' hbk').2.1 _ j1
        exact ⟨(I c', Q c'), ⟨⟨a1, a2.trans i2⟩, ⟨bk', hbk', (eF c' hc').trans f, a3, a4.trans j2⟩, (k2 c' hc' w).trans c7, l2, hq⟩, ⟨fun _ => rfl, fun y => absurd y w⟩, Or.inl rfl⟩
    obtain ⟨g, hg⟩ := CN_pick step
    exact ⟨fun c => (g c).1, fun c => (g c).2, fun c hc => (hg c hc).1, fun c hc => (hg c hc).2.1.1, fun c hc => (hg c hc).2.2, Or.inr ⟨(hg c hc).2.1.2 rfl, z0⟩⟩
theorem CNW.als (h : CNW s I Q) (q : ALS s u) : CNW u I Q := fun c hc => by
  have q1 : (∀ c ∈ CNs, c + 1 ∈ OFb) ∧ ∀ b ∈ payB, b ∈ OFb := by decide
  obtain ⟨⟨i1, i2⟩, ⟨bk, hbk, f, j1, j2⟩, c7, l2, hq⟩ := h c hc
  have a := q.1 _ (q1.1 c hc)
  have a' := q.1 _ (q1.2 bk hbk)
  exact ⟨⟨a.1 _ i1, a.2.trans i2⟩, ⟨bk, hbk, (q.2 c hc).1.trans f, a'.1 _ j1, a'.2.trans j2⟩, (q.2 c hc).2.2.trans c7, l2, hq⟩
theorem RNW.same (h : RNW s) (e12 : u.2.2.1 0 12 = s.2.2.1 0 12) (e3 : ∀ c ∈ CNs, u.2.2.1 c 3 = s.2.2.1 c 3) : RNW u := by
  obtain ⟨⟨h1, h2⟩, rn, h3, h4, h5⟩ := h
  refine ⟨⟨fun c hc => ?_, fun c hc c' hc' z => h2 c hc c' hc' (by rw [e3 c hc, e3 c' hc'] at z; exact z)⟩, rn, h3, e12.trans h4, fun c hc => by rw [e3 c hc]; exact h5 c hc⟩
  obtain ⟨bk, a1, a2⟩ := h1 c hc
  exact ⟨bk, a1, (e3 c hc).trans a2⟩
theorem FIX.tr (a : FIX s u) (b : FIX u v) : FIX s v := ⟨b.1.trans a.1, b.2.1.trans a.2.1, b.2.2.1.trans a.2.2.1, b.2.2.2.trans a.2.2.2⟩
theorem JB.fix (h : JB s b) (f : FIX s u) : JB u b := by
  obtain ⟨h1, h2, b', h3, h4, h5⟩ := h
  exact ⟨h1, f.1.trans h2, b', h3, f.2.1.trans h4, h5⟩
theorem CLK.fix (h : CLK s) (f : FIX s u) : CLK u := ⟨f.2.2.1.trans h.1, by rw [f.2.2.2]; exact h.2.1, by rw [f.2.2.2]; exact h.2.2⟩
theorem CLK.nev (h : CLK s) : s.2.1 59 16 < NEV := Int64.lt_of_le_of_lt h.2.2 mxc_nev
theorem FIX.ch (ty : kTY s) {vs : Bool} {fs os : List (Nat × Nat)} (ch : Ch vs fs os s u) (h : ∀ p ∈ [((0, 10) : Nat × Nat), (0, 11), (59, 17), (59, 16)], ¬ p ∈ fs) : FIX s u := by
  have f0 := fun x (hx : ¬ (0, x) ∈ fs) => ch.fld ty (h := 0) (c := 9) (x := x) (by decide) rfl (by decide) hx
  have f5 := fun x (hx : ¬ (59, x) ∈ fs) => ch.fld ty (h := 59) (c := 4) (x := x) (by decide) rfl (by decide) hx
  exact ⟨(f0 10 (h _ (by decide))).2.2, (f0 11 (h _ (by decide))).2.2, (f5 17 (h _ (by decide))).1, (f5 16 (h _ (by decide))).2.1⟩
theorem TAP.ch (ty : kTY s) (ow : OWN s) (h : TAP s) {vs : Bool} {fs os : List (Nat × Nat)} (ch : Ch vs fs os s u) (hf : ∀ p ∈ fs, ¬ p.1 = 1) (ho : ∀ p ∈ os, p ∈ OWs ∧ ¬ p.1 = 1) : TAP u := ⟨h.1.fr ty ow (by decide) ch hf ho, (ch.fld ty (h := 1) (c := 0) (x := 3) (by decide) rfl (by decide) (fun z => hf _ z rfl)).1.trans h.2⟩
theorem tx_4 : ∀ j, j < 105 → 3 ≤ (tb (txC j)).length := by decide +kernel
theorem QC.ge {q : Req} {j : Nat} (h : QC q j) : 1 ≤ q.length ∧ 3 ≤ (gw q 0).length ∧ (gw q 0).map up = tb (txC j) ∧ 4 ≤ rw q := by
  obtain ⟨h1, ⟨w, h2, h3⟩, -⟩ := h
  have hl : 3 ≤ w.length := by
    have := tx_4 j h1
    rw [← h3, List.length_map] at this; exact this
  cases q with
  | nil => cases h2
  | cons x r =>
    have h2 : some x = some w := h2
    obtain rfl := Option.some.inj h2
    refine ⟨Nat.succ_le_succ (Nat.zero_le _), hl, h3, ?_⟩
    show 4 ≤ rw1 x + rw r
    have := rw1_b x
    unfold rw1
    rw [if_neg (by omega)]; omega
theorem QKo.all {qs : List Req} (h : ∀ q ∈ qs, QKo q) : (encs qs).length ≤ 4 * rqs qs := encs_4 qs (fun q hq => by
  obtain ⟨h1, j, hj⟩ := h q hq
  exact ⟨hj.ge.1, hj.2.2.1, hj.2.2.2.1, hj.ge.2.1⟩)
/-- the log behind a request or a block -/
theorem fin_E {p e : Nat} {E : List Blk} {A0 A' : List AK} {ns : List Req} {bl : Bool} (h : KLg p 0 [] E A0) (hk : KCh p A0 ns A') (hb : bl = false → ns.length ≤ 1) (he : bl = true → 29 ≤ e) (hc : (enE E).length + (encs ns).length + e + (tmK A' + 8 * p) ≤ 207584) : ∃ E', enE E' = enE E ++ blkB bl ns ∧ KLg p 0 [] E' A' ∧ (enE E').length + (tmK A' + 8 * p) ≤ 207584 := by
  by_cases w : ns = []
  · subst w
    have hk : A' = A0 := hk
    refine ⟨E, ?_, by rw [hk]; exact h, by omega⟩
    show enE E = enE E ++ (if ([] : List Req) = [] then [] else _)
    rw [if_pos rfl, List.append_nil]
  · have lb : (blkB bl ns).length ≤ (encs ns).length + e := by
      cases bl with
      | true => have := he rfl; have := (pend_len (bl := true) (ns := ns)).2; omega
      | false =>
        have e1 : blkB false ns = encs ns := by
          show (if ns = [] then [] else if false = true then _ else pendB false ns) = _
          rw [if_neg w, if_neg (by decide)]
          show (if ns = [] then [] else (if false = true then _ else []) ++ encs ns) = _
          rw [if_neg w, if_neg (by decide)]; rfl
        rw [e1]; omega
    have ee : enE (E ++ [(bl, ns)]) = enE E ++ blkB bl ns := by
      rw [enE_app]; show enE E ++ (blkB bl ns ++ []) = _; rw [List.append_nil]
    exact ⟨E ++ [(bl, ns)], ee, KLg_add h hk w hb (by omega), by rw [ee, List.length_append]; omega⟩
theorem pend_0 {bl : Bool} : pendB bl [] = [] := if_pos rfl
theorem WBe.less {nmm : List (List Int32)} {p q : Nat} (h : WBe nmm p) (hq : q ≤ p) : WBe nmm q := by
  obtain ⟨⟨h1, h2⟩, h3⟩ := h
  exact ⟨⟨by omega, by omega⟩, h3.imp id (fun y => by omega)⟩
theorem ad_x : ∀ c ∈ CNs, (∀ p ∈ adF c, ∀ c' ∈ CNs, (¬ p.1 = c' + 1) ∧ (¬ p = (c', 0)) ∧ (¬ c' = c → (¬ p = (c', 3)) ∧ ¬ p = (c', 7))) := by decide +kernel
theorem ad_o : ∀ p ∈ AFo, p ∈ OWs ∧ (¬ p.1 = 1) ∧ (¬ p.1 = 5) ∧ (¬ p.1 = 7) ∧ ∀ c' ∈ CNs, ¬ p.1 = c' + 1 := by decide +kernel
theorem ad_y : ∀ c ∈ CNs, (∀ p ∈ [((0, 10) : Nat × Nat), (0, 11), (59, 17), (59, 16)], ¬ p ∈ adF c) ∧ ((¬ (0, 17) ∈ adF c) ∧ ∀ p ∈ adF c, (¬ p.1 = 1) ∧ (¬ p.1 = 5) ∧ (¬ p.1 = 7) ∧ ¬ p = (53, 3)) := by decide +kernel
/-- a look at a request: the connections behind it -/
theorem CNW.ad (ty : kTY s) (ow : OWN s) (h : CNW s I Q) (hc : c ∈ CNs) (ch : Ch true (adF c) AFo s u) {qc : List Req} (hq : (∃ bk ∈ payB, u.2.2.1 c 3 = some bk ∧ kBY u bk (encs qc) ∧ u.1 bk 3 = 0) ∧ u.1 c 7 = nI qc.length ∧ qc.length ≤ 200 ∧ ∀ q ∈ qc, QKo q) (ho : ∀ c' ∈ CNs, ¬ c' = c → ∀ b ∈ payB, s.2.2.1 c' 3 = some b → ∀ l, kBY s b l → kBY u b l ∧ u.1 b 3 = s.1 b 3) : CNW u I (fun c' => if c' = c then qc else Q c') ∧ (∀ c' ∈ CNs, u.1 c' 0 = s.1 c' 0) ∧ ∀ c' ∈ CNs, ¬ c' = c → u.2.2.1 c' 3 = s.2.2.1 c' 3 := by
  have e3 : ∀ c' ∈ CNs, ¬ c' = c → u.2.2.1 c' 3 = s.2.2.1 c' 3 := fun c' hc' w => (ch.fld ty (CN_w c' hc').1 (CN_w c' hc').2 (by decide) (fun z => ((ad_x c hc _ z c' hc').2.2 w).1 rfl)).2.2
  refine ⟨fun c' hc' => ?_, fun c' hc' => (ch.fld ty (CN_w c' hc').1 (CN_w c' hc').2 (by decide) (fun z => (ad_x c hc _ z c' hc').2.1 rfl)).1, e3⟩
  obtain ⟨⟨i1, i2⟩, ⟨bk, hbk, f, j1, j2⟩, c7, l2, hq'⟩ := h c' hc'
  have hin : c' + 1 ∈ OFb := by
    have q : ∀ c ∈ CNs, c + 1 ∈ OFb := by decide
    exact q c' hc'
  have a1 : kBY u (c' + 1) (I c') := i1.fr ty ow (pay_w.2 c' hc') ch (fun p hp => (ad_x c hc p hp c' hc').1) (fun p hp => ⟨(ad_o p hp).1, (ad_o p hp).2.2.2.2 c' hc'⟩)
  have a2 : u.1 (c' + 1) 3 = 0 := (ch.fld ty (OFb_w _ hin).2.1 (OFb_w _ hin).2.2 (by decide) (fun z => (ad_x c hc _ z c' hc').1 rfl)).1.trans i2
  by_cases w : c' = c
  · show CN1 u c' (I c') (if c' = c then qc else Q c')
    rw [if_pos w]
    rw [w] at a1 a2 ⊢
    exact ⟨⟨a1, a2⟩, hq⟩
  · show CN1 u c' (I c') (if c' = c then qc else Q c')
    rw [if_neg w]
    obtain ⟨k1, k2⟩ := ho c' hc' w bk hbk f _ j1
    exact ⟨⟨a1, a2⟩, ⟨bk, hbk, (e3 c' hc' w).trans f, k1, k2.trans j2⟩, (ch.fld ty (CN_w c' hc').1 (CN_w c' hc').2 (by decide) (fun z => ((ad_x c hc _ z c' hc').2.2 w).2 rfl)).1.trans c7, l2, hq'⟩
theorem sQ_one (hc : c ∈ CNs) (qc : List Req) : sQu (fun c' => if c' = c then qc else Q c') + rqs (Q c) ≤ sQu Q + rqs qc := by
  have h := sC_one (f := fun c' => rqs (if c' = c then qc else Q c')) (g := fun c' => rqs (Q c')) hc (fun c' _ w => by rw [if_neg w]; exact Nat.le_refl _)
  rw [if_pos rfl] at h
  exact h
end KCNW
