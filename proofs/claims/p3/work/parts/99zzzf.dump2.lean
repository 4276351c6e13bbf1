/-! What a rewrite tells of one key. -/
section DUMP2
theorem dec_20 (v : Int64) : (dec v).length ≤ 20 := by
  have := (decN_len2 19 19 (mg v) (by have := mg_le v; omega) (by decide)).2
  unfold dec
  rw [List.length_append]
  by_cases c : v < 0
  · rw [if_pos c]; show 1 + _ ≤ _; omega
  · rw [if_neg c]; show 0 + _ ≤ _; omega
theorem dec_head (v : Int64) : ∃ x r, dec v = x :: r ∧ (x = 45 ∨ ∃ k : Nat, k < 10 ∧ x = nI (48 + k)) := by
  have hg := decN_DGS 19 (mg v) (by have := mg_le v; omega)
  have hl := (decN_len2 20 19 (mg v) (by have := mg_le v; omega) (by decide)).1
  unfold dec
  by_cases c : v < 0
  · rw [if_pos c]; exact ⟨45, decN 19 (mg v), rfl, Or.inl rfl⟩
  · rw [if_neg c]
    cases e : decN 19 (mg v) with
    | nil => rw [e] at hl; exact absurd hl (by decide)
    | cons x r => rw [e] at hg; exact ⟨x, r, rfl, Or.inr (hg x List.mem_cons_self)⟩
theorem dec_is {v : Int64} {c : Int64} {h : Int32} {t : List Int32} (hb : bl c 8 = h :: t) (h64 : 64 < h) : ¬ isF (dec v) c = 1 := by
  obtain ⟨x, r, e, hx⟩ := dec_head v
  have hx2 : x < 64 := by
    rcases hx with rfl | ⟨k, hk, rfl⟩
    · decide
    · exact Int32.not_le.mp (nI_ge (b := 64) (by omega) (by decide))
  have ux : up x = x := by
    unfold up
    rw [if_neg (fun z => absurd (Int32.lt_of_le_of_lt z.1 hx2) (by decide))]
  unfold isF
  rw [e, hb]
  show ¬ (if up x :: r.map up = h :: t then (1 : Int32) else 0) = 1
  rw [if_neg (fun z => ?_)]
  · decide
  · have := (List.cons.inj z).1
    rw [ux] at this
    rw [this] at hx2
    exact absurd (Int32.lt_trans h64 hx2) (by decide)
theorem zo_dec (v : Int64) (f : F6) : zoT (dec v) f = none := by
  unfold zoT
  rw [if_neg (dec_is (h := 78) (t := [88]) (by decide +kernel) (by decide)), if_neg (dec_is (h := 88) (t := [88]) (by decide +kernel) (by decide)), if_neg (dec_is (h := 71) (t := [84]) (by decide +kernel) (by decide)), if_neg (dec_is (h := 76) (t := [84]) (by decide +kernel) (by decide)), if_neg (dec_is (h := 67) (t := [72]) (by decide +kernel) (by decide)), if_neg (dec_is (h := 73) (t := [78, 67, 82]) (by decide +kernel) (by decide))]
theorem zw_len : ∀ c : List AE, (zwL c).length = 2 * c.length := by
  intro c
  induction c with
  | nil => rfl
  | cons z r ih => show (zwL r).length + 1 + 1 = 2 * (r.length + 1); omega
theorem zo_all {c : List AE} (hn : c ≠ []) (n0 n : List Int32) : zoR (n0 :: n :: zwL c) = some ((0, 0, 0, 0, 0, 0), zwL c) := by
  have hl := zw_len c
  have hc : 1 ≤ c.length := Nat.pos_of_ne_zero (fun z => hn (List.length_eq_zero_iff.mp z))
  unfold zoR
  show (zoF (zwL c) (0, 0, 0, 0, 0, 0)).bind (fun q => zoE q.1 q.2) = _
  have e : zoF (zwL c) (0, 0, 0, 0, 0, 0) = some ((0, 0, 0, 0, 0, 0), zwL c) := by
    cases c with
    | nil => exact absurd rfl hn
    | cons z r => exact zoF_1 (zo_dec z.2.2 _)
  rw [e]
  show zoE (0, 0, 0, 0, 0, 0) (zwL c) = _
  unfold zoE
  have nc : ¬ zoC (0, 0, 0, 0, 0, 0) (zwL c) := by
    unfold zoC
    refine fun z => ?_
    rcases z with z | z | z | z | z
    · omega
    · omega
    · exact z.1 rfl
    · exact z.1 rfl
    · exact z.1 rfl
  rw [if_neg (fun z => nc (@of_decide_eq_true _ (zoD _ _) z)), if_pos (zob_all c)]
theorem cod_4 {P : List AK} {n : List Int32} (h : BHD P n) {es c : List AE} (hs : ZP (es ++ c)) (hc : ∀ z ∈ c, z.2.1 = []) (hn : c ≠ []) (n0 : List Int32) : coF 78 (n0 :: n :: zwL c) (flA P n 4 es) = some (P ++ [kx n 4 (es ++ c)]) := by
  show (zoR (n0 :: n :: zwL c)).bind (fun q => zdF q.1.1 q.1.2.1 q.1.2.2.1 q.1.2.2.2.1 q.1.2.2.2.2.2 (flA P n 4 es) n q.2) = _
  rw [zo_all hn]
  show zdF 0 0 0 0 0 (flA P n 4 es) n (zwL c) = _
  unfold zdF
  obtain ⟨a, b⟩ := za_78 h c es hs hc
  have zb : ¬ zaB 0 0 (flA P n 4 es) (kyC P es) (zwL c) = true := by
    cases c with
    | nil => exact absurd rfl hn
    | cons z r =>
      show ¬ (match intF (dec z.2.2) with | some s0 => zAb 0 0 (zIx (flA P n 4 es) (kyC P es) z.1) s0 | none => false) = true
      rw [int_all, zix_no (fun y hy => (ZP_last hs y hy).2)]
      exact Bool.false_ne_true
  rw [ky_fl h, if_neg zb, b, a, if_neg (fun z => hn (List.length_eq_zero_iff.mp z)), fl_ne (fun z => hn (List.append_eq_nil_iff.mp z).2)]
/-- the words of an element -/
def tlE (s : Int32) (z : AE) : List (List Int32) := if s = 4 then [dec z.2.2, z.1] else if s = 2 then [z.1, z.2.1] else [z.1]
def idS (s : Int32) : Nat := if s = 4 then 78 else if s = 3 then 64 else if s = 2 then 52 else 38
def ptS (s : Int32) : Nat := if s = 4 ∨ s = 2 then 500 else 1000
def eaS (s : Int32) : Nat := if s = 4 ∨ s = 2 then 2 else 1
def rqE (s : Int32) (n : List Int32) (c : List AE) : Req := nm (idS s) :: n :: c.flatMap (tlE s)
theorem fm_map {α β : Type} (f : α → β) (l : List α) : l.flatMap (fun z => [f z]) = l.map f := by
  induction l with
  | nil => rfl
  | cons x r ih => show f x :: r.flatMap (fun z => [f z]) = f x :: r.map f; rw [ih]
/-- a part of a key's elements is told -/
theorem co_S {P : List AK} {n : List Int32} (h : BHD P n) {s : Int32} {es c : List AE} (hs : s = 1 ∨ s = 2 ∨ s = 3 ∨ s = 4) (hE : ELS s (es ++ c)) (hn : c ≠ []) : coF (idS s) (rqE s n c) (flA P n s es) = some (P ++ [kx n s (es ++ c)]) ∧ sfB (idS s) 0 (rqE s n c) (flA P n s es) = true := by
  obtain ⟨-, -, e1, e2, e3, e4⟩ := hE
  have hm : ∀ z ∈ c, z ∈ es ++ c := fun z hz => List.mem_append_right _ hz
  have so := so_fl h s es
  rcases hs with rfl | rfl | rfl | rfl
  · have t : c.flatMap (tlE 1) = c.map (fun z => z.1) := fm_map _ c
    have r : rqE 1 n c = nm 38 :: n :: c.map (fun z => z.1) := by unfold rqE; rw [t]; rfl
    rw [r]
    exact ⟨cod_1 h (fun z hz => e1 rfl z (hm z hz)) _, so⟩
  · exact ⟨cod_2 h (e2 rfl).1 (fun z hz => (e2 rfl).2 z (hm z hz)) _, so⟩
  · have t : c.flatMap (tlE 3) = c.map (fun z => z.1) := fm_map _ c
    have r : rqE 3 n c = nm 64 :: n :: c.map (fun z => z.1) := by unfold rqE; rw [t]; rfl
    rw [r]
    exact ⟨cod_3 h (e3 rfl).1 (fun z hz => (e3 rfl).2 z (hm z hz)) hn _, so⟩
  · exact ⟨cod_4 h (e4 rfl).1 (fun z hz => (e4 rfl).2 z (hm z hz)) hn _, so⟩
theorem rn_co {i : Nat} {q : Req} {A A' : List AK} (h2 : i ≠ 2) (ht : i ∉ tiI) (hs : sfB i 0 q A = true) (hc : coF i q A = some A') (now : Int64) : ∃ e, rnF i q now true A = some (A', e) := by
  refine ⟨(i, q.drop 1), ?_⟩
  unfold rnF
  rw [if_neg h2, if_pos hs, if_neg ht, hc]; rfl
theorem ids_ok {s : Int32} (hs : s = 1 ∨ s = 2 ∨ s = 3 ∨ s = 4) : idS s ≠ 2 ∧ idS s ∉ tiI ∧ 1 ≤ idS s ∧ idS s < 106 ∧ lgB (idS s) = true ∧ ¬ (74 ≤ idS s ∧ idS s ≤ 76) := by
  rcases hs with rfl | rfl | rfl | rfl <;> decide +kernel
theorem tl_len {s : Int32} (hs : s = 1 ∨ s = 2 ∨ s = 3 ∨ s = 4) : ∀ c : List AE, (c.flatMap (tlE s)).length = eaS s * c.length := by
  intro c
  induction c with
  | nil => show 0 = eaS s * 0; omega
  | cons z r ih =>
    show (tlE s z ++ r.flatMap (tlE s)).length = eaS s * (r.length + 1)
    rw [List.length_append, ih, Nat.mul_add, Nat.mul_one, Nat.add_comm]
    congr 1
    rcases hs with rfl | rfl | rfl | rfl <;> rfl
theorem sl_append (a b : List (List Int32)) : sl (a ++ b) = sl a + sl b := by
  induction a with
  | nil => show sl b = 0 + sl b; omega
  | cons w r ih => show w.length + sl (r ++ b) = w.length + sl r + sl b; omega
theorem tl_sl {s : Int32} : ∀ c : List AE, sl (c.flatMap (tlE s)) ≤ eT c + (if s = 4 then 20 * c.length else 0) := by
  intro c
  induction c with
  | nil => exact Nat.zero_le _
  | cons z r ih =>
    show sl (tlE s z ++ r.flatMap (tlE s)) ≤ (z.1.length + z.2.1.length + eT r) + _
    rw [sl_append]
    have hz : sl (tlE s z) ≤ z.1.length + z.2.1.length + (if s = 4 then 20 else 0) := by
      unfold tlE
      by_cases c4 : s = 4
      · rw [if_pos c4, if_pos c4]
        have := dec_20 z.2.2
        show (dec z.2.2).length + (z.1.length + 0) ≤ _
        omega
      · rw [if_neg c4, if_neg c4]
        by_cases c2 : s = 2
        · rw [if_pos c2]; show z.1.length + (z.2.1.length + 0) ≤ _; omega
        · rw [if_neg c2]; show z.1.length + 0 ≤ _; omega
    by_cases c4 : s = 4
    · rw [if_pos c4] at ih hz ⊢
      show _ ≤ _ + 20 * (r.length + 1)
      omega
    · rw [if_neg c4] at ih hz ⊢
      omega
theorem af_S {s : Int32} (hs : s = 1 ∨ s = 2 ∨ s = 3 ∨ s = 4) {k : Nat} (hk : 1 ≤ k) (h1 : k ≤ ptS s) : afX (idS s) (1 + eaS s * k) = true := by
  have a : ∀ k, k < 1001 → 1 ≤ k → afX 38 (1 + 1 * k) = true ∧ afX 64 (1 + 1 * k) = true ∧ afX 52 (1 + 2 * k) = true ∧ afX 78 (1 + 2 * k) = true := by decide +kernel
  have hk2 : k ≤ 1000 := by
    rcases hs with rfl | rfl | rfl | rfl
    · exact h1
    · have : k ≤ 500 := h1; omega
    · exact h1
    · have : k ≤ 500 := h1; omega
  obtain ⟨a1, a2, a3, a4⟩ := a k (by omega) hk
  rcases hs with rfl | rfl | rfl | rfl
  · exact a1
  · exact a3
  · exact a2
  · exact a4
/-- bytes alone -/
def BY (w : List Int32) : Prop := ∀ x ∈ w, x.toInt8.toInt32 = x
def BYA (a : AK) : Prop := BY a.2.2.2.2.1 ∧ ∀ z ∈ a.2.2.2.2.2, BY z.2.1
theorem eT_mem {z : AE} : ∀ {es : List AE}, z ∈ es → z.1.length + z.2.1.length ≤ eT es := by
  intro es
  induction es with
  | nil => intro h; cases h
  | cons y r ih =>
    intro h
    show _ ≤ y.1.length + y.2.1.length + eT r
    rcases List.mem_cons.mp h with rfl | h
    · omega
    · have := ih h; omega
/-- the half told key -/
abbrev pk (a : AK) (es : List AE) : AK := (a.1, a.2.1, 0, 0, a.2.2.2.2.1, es)
theorem LI_half {P : List AK} {a : AK} {Q : List AK} {N : Nat} (h : LI (P ++ a :: Q) N) {b : AK} (hb : AOK b) (h1 : b.1 = a.1) (hs : b.2.1 = a.2.1) (h2 : b.2.2.2.2.1.length ≤ a.2.2.2.2.1.length) (h3 : b.2.2.2.2.2.length ≤ a.2.2.2.2.2.length) (h4 : eT b.2.2.2.2.2 ≤ eT a.2.2.2.2.2) : LI (P ++ [b]) N := by
  obtain ⟨⟨l1, l1'⟩, l2, l3, l4, l5, l6⟩ := h
  have e1 : eN (P ++ a :: Q) = eN P + (a.2.2.2.2.2.length + eN Q) := by rw [eN_app]; rfl
  have e2 : eN (P ++ [b]) = eN P + (b.2.2.2.2.2.length + 0) := by rw [eN_app]; rfl
  have e3 : tT (P ++ a :: Q) = tT P + (a.1.length + a.2.2.2.2.1.length + eT a.2.2.2.2.2 + tT Q) := by rw [tT_app]; rfl
  have e4 : tT (P ++ [b]) = tT P + (b.1.length + b.2.2.2.2.1.length + eT b.2.2.2.2.2 + 0) := by rw [tT_app]; rfl
  have e5 : memB (P ++ a :: Q) = memB P + (64 + a.1.length + a.2.2.2.2.1.length + memW a.2.1 * a.2.2.2.2.2.length + eT a.2.2.2.2.2 + memB Q) := by rw [memB_app]; rfl
  have e6 : memB (P ++ [b]) = memB P + (64 + b.1.length + b.2.2.2.2.1.length + memW b.2.1 * b.2.2.2.2.2.length + eT b.2.2.2.2.2 + 0) := by rw [memB_app]; rfl
  have e7 : nB (P ++ a :: Q) = nB P + (a.1.length + nB Q) := by rw [nB_app]; rfl
  have e8 : nB (P ++ [b]) = nB P + (b.1.length + 0) := by rw [nB_app]; rfl
  have m : memW b.2.1 * b.2.2.2.2.2.length ≤ memW a.2.1 * a.2.2.2.2.2.length := by rw [hs]; exact Nat.mul_le_mul_left _ h3
  have k1 : (P ++ a :: Q).length = P.length + (Q.length + 1) := by rw [List.length_append]; rfl
  have k2 : (P ++ [b]).length = P.length + 1 := by rw [List.length_append]; rfl
  have hl : b.1.length = a.1.length := by rw [h1]
  refine ⟨⟨?_, fun x hx => ?_⟩, by omega, by omega, by omega, by omega, fun x hx h4' => ?_⟩
  · have := SRT_pw.mp l1
    rw [List.pairwise_append] at this
    rw [SRT_pw, List.pairwise_append]
    exact ⟨this.1, List.pairwise_singleton _ _, fun x hx y hy => by rw [List.mem_singleton.mp hy, h1]; exact this.2.2 x hx a List.mem_cons_self⟩
  · rcases List.mem_append.mp hx with hx | hx
    · exact l1' x (List.mem_append_left _ hx)
    · rw [List.mem_singleton.mp hx]; exact hb
  · rcases List.mem_append.mp hx with hx | hx
    · exact l6 x (List.mem_append_left _ hx) h4'
    · rw [List.mem_singleton.mp hx] at h4' ⊢
      have := l6 a (List.mem_append_right _ List.mem_cons_self) (by rw [← hs]; exact h4')
      omega
theorem LI_init {P Q : List AK} {N : Nat} (h : LI (P ++ Q) N) : LI P N := by
  obtain ⟨⟨l1, l1'⟩, l2, l3, l4, l5, l6⟩ := h
  rw [eN_app] at l2
  rw [List.length_append, nB_app] at l3
  rw [tT_app] at l4
  rw [memB_app] at l5
  refine ⟨⟨?_, fun x hx => l1' x (List.mem_append_left _ hx)⟩, by omega, by omega, by omega, by omega, fun x hx => l6 x (List.mem_append_left _ hx)⟩
  exact SRT_pw.mpr (List.pairwise_append.mp (SRT_pw.mp l1)).1
theorem ELS_pre {s : Int32} {es c : List AE} (h : ELS s (es ++ c)) : ELS s es := by
  obtain ⟨a, b, e1, e2, e3, e4⟩ := h
  have hm : ∀ z ∈ es, z ∈ es ++ c := fun z hz => List.mem_append_left _ hz
  refine ⟨fun z hz => a z (hm z hz), fun z => (List.append_eq_nil_iff.mp (b z)).1, fun q z hz => e1 q z (hm z hz), fun q => ⟨(List.pairwise_append.mp (e2 q).1).1, fun z hz => (e2 q).2 z (hm z hz)⟩, fun q => ⟨(List.pairwise_append.mp (e3 q).1).1, fun z hz => (e3 q).2 z (hm z hz)⟩, fun q => ⟨(List.pairwise_append.mp (e4 q).1).1, fun z hz => (e4 q).2 z (hm z hz)⟩⟩
theorem AOK_half {a : AK} (h : AOK a) {es c : List AE} (he : a.2.2.2.2.2 = es ++ c) (hn : (¬ a.2.1 = 0) → es ≠ []) : AOK (pk a es) := by
  obtain ⟨h1, h2, h3, h4, h5, h6⟩ := h
  rw [he] at h3
  exact ⟨h1, h2, ELS_pre h3, fun z => ⟨hn z, (h4 z).2⟩, Or.inl ⟨rfl, rfl⟩, h6⟩
theorem LI.bhd {P : List AK} {a : AK} {Q : List AK} {N : Nat} (h : LI (P ++ a :: Q) N) : BHD P a.1 := by
  have := SRT_pw.mp h.1.1
  rw [List.pairwise_append] at this
  exact ⟨SRT_pw.mpr this.1, fun b hb => this.2.2 b hb a List.mem_cons_self⟩
end DUMP2
