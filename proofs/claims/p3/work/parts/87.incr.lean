/-! INCR and its like. -/
section INCR
variable {Y : Nat → MethodName × ByteArray} {d : Nat}
def ovI (a b : Int64) : Int32 := if (0 : Int32) ≤ lg_cmp ((a ^^^ (a + b)) &&& (b ^^^ (a + b))) 0 then 0 else 1
set_option maxRecDepth 100000 in
theorem c_overflows {σ : mjS} (ty : mjTY σ) (a b : Int64) : mjY mjPP (mjQQ Y) d 89 0 (mjL0 7 [.ref 0, .long a, .long b]) [] σ (fun r u => r = some (.int (ovI a b)) ∧ u = σ) := by
  refine mjZ_y rfl rfl 14 _ _ _ _ ty ?_
  refine (And.intro (Nat.le_of_ble_eq_true rfl) (And.intro (fun q => ?_) (fun q => ?_)))
  · refine mjZ_y rfl rfl 2 _ _ _ _ ty ?_
    refine And.intro rfl (And.intro (Or.inr ⟨rfl, Or.inl rfl⟩) ?_)
    exact ⟨congrArg (fun t => some (Value.int t)) (if_pos q).symm, rfl⟩
  · refine mjZ_y rfl rfl 3 _ _ _ _ ty ?_
    refine And.intro rfl (And.intro (Or.inr ⟨rfl, Or.inr rfl⟩) ?_)
    exact ⟨congrArg (fun t => some (Value.int t)) (if_neg q).symm, rfl⟩
set_option maxRecDepth 100000 in
/-- the digits come to the row of work -/
theorem c_inc_loop (K : mjK) (o1 o2 o3 o5 o7 o8 : Value) (n : Nat) (hn : n ≤ 20) (D W0 : Nat → Int32) : ∀ (j i : Nat) (σ : mjS) (x : Int32), x = nI i → i + j = n → mjTY σ → σ.1 f_digitsSize = nI n → σ.2.2.1 r_digits = D → σ.2.2.1 r_work = va_cpy D W0 0 0 i →
    (∀ u x, mjTY u → Fr [] [r_work] σ u → u.2.2.1 r_work = va_cpy D W0 0 0 n → mjY mjPP (mjQQ Y) d 90 102 [some (.ref 0), some o1, some o2, some o3, none, some o5, none, some o7, some o8, none, some (.int x)] [] u K) →
    mjY mjPP (mjQQ Y) d 90 88 [some (.ref 0), some o1, some o2, some o3, none, some o5, none, some o7, some o8, none, some (.int x)] [] σ K := by
  intro j
  induction j with
  | zero =>
    intro i σ x e1 hi ty ez eD eW hK
    have ei : i = n := by omega
    subst ei
    refine mjZ_y rfl rfl 4 _ _ _ _ ty ?_
    refine (And.intro rfl (And.intro (fun q => ?_) (fun q => ?_)))
    · exact hK σ _ ty Fr.rf eW
    · exact absurd (show σ.1 f_digitsSize ≤ x by rw [ez, e1]; exact nI_le (Nat.le_refl _) (by omega)) q
  | succ j ih =>
    intro i σ x e1 hi ty ez eD eW hK
    refine mjZ_y rfl rfl 4 _ _ _ _ ty ?_
    refine (And.intro rfl (And.intro (fun q => ?_) (fun q => ?_)))
    · exact absurd (show σ.1 f_digitsSize ≤ x from q) (by rw [ez, e1]; exact nI_ge (by omega) (by omega))
    · refine mjZ_y rfl rfl 10 _ _ _ _ ty ?_
      refine (And.intro rfl (And.intro rfl (And.intro (Or.inl rfl) (And.intro (by rw [e1]; exact vp_in_nI (by show i < 24; omega) (by decide)) (And.intro (Or.inl ⟨rfl, ty.2.1 50 _ rfl⟩) (And.intro (by rw [e1]; exact vp_in_nI (by show i < 70000; omega) (by decide)) (fun ty' => ?_)))))))
      refine ih (i + 1) _ _ (by rw [e1]; exact nI_1 i) (by omega) ty' ez (eD) ?_ (fun u x tu fu pu => hK u x tu ((Fr.a (by decide)).tr fu) pu)
      show mjIu σ.2.2.1 r_work x.toNatClampNeg (σ.2.2.1 r_digits x.toNatClampNeg) r_work = _
      rw [mjIu_self, e1, nI_clamp (by omega), eW, eD]
      have e := cpy_s (f := D) (g := W0) (sp := 0) (dp := 0) (k := i)
      rw [Nat.zero_add] at e
      exact e
set_option maxRecDepth 100000 in
theorem c_inc_c (K : mjK) {σ : mjS} {ws : List (List Int32)} {ks : List KR} {l : List Int32} (h : Wd σ ws ks l) (ty : mjTY σ) (x1 : Int32) (i1 : Nat) (e1 : x1 = nI i1) (hi1 : i1 < 128) (o2 o3 o5 o7 : Value) (s : Int64) {w : List Int32} (h1 : ws[1]? = some w) (ht : tT (strip ks) + w.length ≤ 200000) (hl : ks.length < 4700) (hs : l.length + 132 + sz ws ≤ 420000)
    (hK : ∀ u ks', Fr cF cH σ u → Wd u ws ks' (ntA σ l ws i1) → strip ks' = putA (strip ks) w (dec s) → K none u) :
    mjY mjPP (mjQQ Y) (d + 6) 90 79 [some (.ref 0), some (.int x1), some o2, some o3, none, some o5, none, some o7, some (.long s), none, none] [] σ K := by
  have hlen : 1 ≤ ws.length := by have := (List.getElem?_eq_some_iff.mp h1).1; omega
  refine mjZ_y rfl rfl 3 _ _ _ _ ty ?_
  refine (And.intro (Nat.le_of_ble_eq_true rfl) (And.intro rfl (And.intro (Nat.le_of_ble_eq_true rfl) (And.intro (Nat.le_of_ble_eq_true rfl) (mjY_mono ty (fun q_ u1 ty1 h_ => ?_) (c_spell ty s))))))
  obtain ⟨rfl, f1, sp⟩ := h_
  intro _
  obtain ⟨d1, d2, d3⟩ := spelt_dec sp
  have h2 : Wd u1 ws ks l := by
    obtain ⟨hs', fk, fe, k⟩ := h.1
    exact h.fr f1 (by decide) (by decide)
  refine mjZ_y rfl rfl 6 _ _ _ _ ty1 ?_
  refine (And.intro rfl (And.intro rfl (And.intro (Or.inl rfl) (fun ty1' => (And.intro (Nat.le_of_ble_eq_true rfl) ?_)))))
  refine c_inc_loop _ _ _ _ _ _ _ (dec s).length d2 (u1.2.2.1 r_digits) (u1.2.2.1 r_work) (dec s).length 0 _ _ rfl (by omega) ty1' ?_ rfl (by rw [cpy_0]) (fun u2 x ty2 f2 e2 => ?_)
  · exact d1
  have f12 : Fr [f_workSize] [r_work] u1 u2 := (Fr.i (k := f_workSize) (by decide)).tr (f2.up (fun _ q => by cases q) (by decide))
  have h3 := h2.fr f12 (by decide) (by decide)
  have k3 : WK u2 (dec s) := by
    refine ⟨?_, by omega, by rw [e2, cpy_wd, d3]⟩
    rw [f2.1 _ (by decide)]
    exact d1
  refine mjZ_y rfl rfl 3 _ _ _ _ ty2 ?_
  refine (And.intro (Nat.le_of_ble_eq_true rfl) (And.intro rfl (And.intro (Nat.le_of_ble_eq_true rfl) (And.intro (Nat.le_of_ble_eq_true rfl) (mjY_mono ty2 (fun q_ u4 ty4 h_ => ?_) (w_putText h3 ty2 h1 k3 (x1 := Int32.ofInt 1) rfl ht (by omega) hl))))))
  obtain ⟨rfl, f6, ks', h6, e6⟩ := h_
  intro _
  refine mjZ_y rfl rfl 3 _ _ _ _ ty4 ?_
  refine (And.intro (Nat.le_of_ble_eq_true rfl) (And.intro rfl (And.intro (Nat.le_of_ble_eq_true rfl) (And.intro (Nat.le_of_ble_eq_true rfl) (mjY_mono ty4 (fun q_ u5 ty5 h_ => ?_) (w_noteAll h6 ty4 hlen i1 e1 hi1 hs))))))
  obtain ⟨rfl, h7, f7⟩ := h_
  intro _
  refine mjZ_y rfl rfl 3 _ _ _ _ ty5 ?_
  refine (And.intro (Nat.le_of_ble_eq_true rfl) (And.intro rfl (And.intro (Nat.le_of_ble_eq_true rfl) (And.intro (Nat.le_of_ble_eq_true rfl) (mjY_mono ty5 (fun q_ u6 ty6 h_ => ?_) (w_number h7 ty5 _))))))
  obtain ⟨rfl, h8, f8⟩ := h_
  intro _
  refine mjZ_y rfl rfl 1 _ _ _ _ ty6 ?_
  refine And.intro rfl (And.intro rfl ?_)
  have fa : Fr cF cH σ u4 := ((f1.up (by decide) (by decide)).tr (f12.up (by decide) (by decide))).tr f6.k1
  refine hK u6 ks' ((fa.tr f7.n).tr f8.c) ?_ e6
  rw [ntA_fr fa] at h8
  exact h8
def byI (i : Nat) (n : Int64) : Int64 := if i = 16 then -1 else if i = 15 then 1 else n
def sumI (i : Nat) (v b : Int64) : Int64 := if i = 18 then v - b else v + b
def beyI (i : Nat) (v b : Int64) : Int32 := if i = 18 then (if (0 : Int32) ≤ lg_cmp ((v ^^^ b) &&& (v ^^^ (v - b))) 0 then 0 else 1) else ovI v b
/-- the number a text is, 0 for no key -/
def vlA (A : List AK) (w : List Int32) : Option Int64 := match kyI A w with
  | some p => (match A[p]? with
    | some a => intF a.2.2.2.2.1
    | none => none)
  | none => some 0
def icF (A : List AK) (w : List Int32) (i : Nat) (n : Int64) : Option (List AK) := match vlA A w with
  | none => none
  | some v => if beyI i v (byI i n) = 0 then some (putA A w (dec (sumI i v (byI i n)))) else none
set_option maxRecDepth 100000 in
theorem c_inc_b2 (K : mjK) {σ : mjS} {ws : List (List Int32)} {ks : List KR} {l : List Int32} (h : Wd σ ws ks l) (ty : mjTY σ) (x1 : Int32) (i1 : Nat) (e1 : x1 = nI i1) (hi1 : i1 < 128) (o2 : Value) (v b : Int64) {w : List Int32} (h1 : ws[1]? = some w) (ht : tT (strip ks) + w.length ≤ 200000) (hl : ks.length < 4700) (hs : l.length + 132 + sz ws ≤ 420000)
    (hK : ∀ u, cmdK σ ws ks l i1 (if beyI i1 v b = 0 then some (putA (strip ks) w (dec (sumI i1 v b))) else none) none u → K none u) :
    mjY mjPP (mjQQ Y) (d + 6) 90 41 [some (.ref 0), some (.int x1), some o2, some (.long v), none, some (.long b), none, none, none, none, none] [] σ K := by
  have fin : ∀ (x7 : Int32) (s : Int64), x7 = beyI i1 v b → s = sumI i1 v b → mjY mjPP (mjQQ Y) (d + 6) 90 71 [some (.ref 0), some (.int x1), some o2, some (.long v), none, some (.long b), none, some (.int x7), some (.long s), none, none] [] σ K := by
    intro x7 s e7 es
    refine mjZ_y rfl rfl 2 _ _ _ _ ty ?_
    refine And.intro (fun q => ?_) (fun q => ?_)
    · have q : x7 = 0 := q
      rw [← e7, if_pos q, ← es] at hK
      exact c_inc_c K h ty x1 i1 e1 hi1 _ _ _ _ s h1 ht hl hs (fun u ks' f hw e => hK u ⟨rfl, f, ks', hw, e⟩)
    · have q : ¬ x7 = 0 := q
      rw [← e7, if_neg q] at hK
      refine mjZ_y rfl rfl 4 _ _ _ _ ty ?_
      refine (And.intro (Nat.le_of_ble_eq_true rfl) (And.intro rfl (And.intro (Nat.le_of_ble_eq_true rfl) (And.intro (Nat.le_of_ble_eq_true rfl) (mjY_mono ty (fun q_ u1 ty1 h_ => ?_) (w_error h ty _ _))))))
      obtain ⟨rfl, h2, f2⟩ := h_
      intro _
      refine mjZ_y rfl rfl 2 _ _ _ _ ty1 ?_
      refine And.intro rfl (And.intro rfl ?_)
      exact hK u1 ⟨rfl, f2.c, ks, h2, rfl⟩
  refine mjZ_y rfl rfl 4 _ _ _ _ ty ?_
  refine (And.intro (Nat.le_of_ble_eq_true rfl) (And.intro rfl (And.intro (Nat.le_of_ble_eq_true rfl) (And.intro (Nat.le_of_ble_eq_true rfl) (mjY_mono ty (fun q_ u1 ty1 h_ => ?_) (c_overflows ty v b))))))
  obtain ⟨rfl, rfl⟩ := h_
  intro _
  refine mjZ_y rfl rfl 8 _ _ _ _ ty1 ?_
  refine (And.intro (Nat.le_of_ble_eq_true rfl) (And.intro (Nat.le_of_ble_eq_true rfl) (And.intro (fun q => ?_) (fun q => ?_))))
  · have q : ¬ i1 = 18 := fun c => q (by show x1 = nI 18; rw [e1, c])
    exact fin _ _ (if_neg q).symm (if_neg q).symm
  · have q : i1 = 18 := by
      have q : x1 = nI 18 := Decidable.of_not_not q
      rw [e1] at q; exact (nI_eq (by omega) (by omega)).mp q
    refine mjZ_y rfl rfl 14 _ _ _ _ ty1 ?_
    refine (And.intro (Nat.le_of_ble_eq_true rfl) (And.intro (fun c => ?_) (fun c => ?_)))
    · refine mjZ_y rfl rfl 2 _ _ _ _ ty1 ?_
      refine (And.intro (Nat.le_of_ble_eq_true rfl) ?_)
      refine fin _ _ ?_ (if_pos q).symm
      unfold beyI; rw [if_pos q]; exact (if_pos c).symm
    · refine mjZ_y rfl rfl 3 _ _ _ _ ty1 ?_
      refine (And.intro (Nat.le_of_ble_eq_true rfl) ?_)
      refine fin _ _ ?_ (if_pos q).symm
      unfold beyI; rw [if_pos q]; exact (if_neg c).symm
set_option maxRecDepth 100000 in
theorem c_inc_b (K : mjK) {σ : mjS} {ws : List (List Int32)} {ks : List KR} {l : List Int32} (h : Wd σ ws ks l) (ty : mjTY σ) (x1 : Int32) (i1 : Nat) (e1 : x1 = nI i1) (hi1 : i1 < 128) (o2 : Value) (v n : Int64) (en : σ.2.1 f_n1 = n) {w : List Int32} (h1 : ws[1]? = some w) (ht : tT (strip ks) + w.length ≤ 200000) (hl : ks.length < 4700) (hs : l.length + 132 + sz ws ≤ 420000)
    (hK : ∀ u, cmdK σ ws ks l i1 (if beyI i1 v (byI i1 n) = 0 then some (putA (strip ks) w (dec (sumI i1 v (byI i1 n)))) else none) none u → K none u) :
    mjY mjPP (mjQQ Y) (d + 6) 90 28 [some (.ref 0), some (.int x1), some o2, some (.long v), none, none, none, none, none, none, none] [] σ K := by
  have nn : ∀ c : Nat, c < 128 → ((¬ x1 = nI c) ↔ ¬ i1 = c) := fun c hc => by rw [e1, nI_eq (by omega) (by omega)]
  have s2 : ∀ b, (i1 = 16 → byI i1 n = -1) → (¬ i1 = 16 → byI i1 n = b) → mjY mjPP (mjQQ Y) (d + 6) 90 36 [some (.ref 0), some (.int x1), some o2, some (.long v), none, some (.long b), none, none, none, none, none] [] σ K := by
    intro b b1 b2
    refine mjZ_y rfl rfl 3 _ _ _ _ ty ?_
    refine And.intro (fun q => ?_) (fun q => ?_)
    · have q := (nn 16 (by decide)).mp q
      rw [b2 q] at hK
      exact c_inc_b2 K h ty x1 i1 e1 hi1 o2 v b h1 ht hl hs hK
    · have q : i1 = 16 := Decidable.of_not_not (fun c => q ((nn 16 (by decide)).mpr c))
      rw [b1 q] at hK
      refine mjZ_y rfl rfl 2 _ _ _ _ ty ?_
      refine (And.intro (Nat.le_of_ble_eq_true rfl) ?_)
      exact c_inc_b2 K h ty x1 i1 e1 hi1 o2 v _ h1 ht hl hs hK
  refine mjZ_y rfl rfl 6 _ _ _ _ ty ?_
  refine (And.intro rfl (And.intro (Nat.le_of_ble_eq_true rfl) (And.intro (fun q => ?_) (fun q => ?_))))
  · have q := (nn 15 (by decide)).mp q
    exact s2 _ (fun c => if_pos c) (fun c => by unfold byI; rw [if_neg c, if_neg q]; exact en.symm)
  · have q : i1 = 15 := Decidable.of_not_not (fun c => q ((nn 15 (by decide)).mpr c))
    refine mjZ_y rfl rfl 2 _ _ _ _ ty ?_
    refine (And.intro (Nat.le_of_ble_eq_true rfl) ?_)
    exact s2 _ (fun c => if_pos c) (fun c => by unfold byI; rw [if_neg c, if_pos q]; rfl)
set_option maxRecDepth 100000 in
theorem r_incr {σ : mjS} {ws : List (List Int32)} {ks : List KR} {l : List Int32} (h : Wd σ ws ks l) (ty : mjTY σ) (x1 : Int32) (i1 : Nat) (e1 : x1 = nI i1) (hi1 : i1 < 128) (n : Int64) (en : σ.2.1 f_n1 = n) {w : List Int32} (h1 : ws[1]? = some w) (ht : tT (strip ks) + w.length ≤ 200000) (hl : ks.length < 4700) (hs : l.length + 132 + sz ws ≤ 420000) :
    mjY mjPP (mjQQ Y) (d + 6) 90 0 (mjL0 11 [.ref 0, .int x1]) [] σ (cmdK σ ws ks l i1 (icF (strip ks) w i1 n)) := by
  refine mjZ_y rfl rfl 3 _ _ _ _ ty ?_
  refine (And.intro (Nat.le_of_ble_eq_true rfl) (And.intro rfl (And.intro (Nat.le_of_ble_eq_true rfl) (And.intro (Nat.le_of_ble_eq_true rfl) (mjY_mono ty (fun q_ u1 ty1 h_ => ?_) (w_key h ty h1 (x := Int32.ofInt 1) rfl))))))
  obtain ⟨rfl, rfl⟩ := h_
  intro _
  refine mjZ_y rfl rfl 5 _ _ _ _ ty1 ?_
  refine (And.intro (Nat.le_of_ble_eq_true rfl) (And.intro (Nat.le_of_ble_eq_true rfl) (And.intro (fun q => ?_) (fun q => ?_))))
  · rcases ky_cases ks w with ⟨g1, g2⟩ | ⟨P, y, Q, g0, g1, g2, -⟩
    · have ev : vlA (strip ks) w = some 0 := by unfold vlA; rw [g1]
      have ei : icF (strip ks) w i1 n = (if beyI i1 0 (byI i1 n) = 0 then some (putA (strip ks) w (dec (sumI i1 0 (byI i1 n)))) else none) := by unfold icF; rw [ev]
      rw [ei]
      exact c_inc_b _ h ty1 x1 i1 e1 hi1 _ 0 n en h1 ht hl hs (fun u hu => hu)
    · subst g0
      exact absurd (show kyS (P ++ y :: Q) w < 0 from q) (lt_nI (by have := h.id; omega) g2)
  · rcases ky_cases ks w with ⟨g1, g2⟩ | ⟨P, y, Q, g0, g1, g2, -⟩
    · exact absurd (lt_m1 g2) q
    · subst g0
      have e2 : kyS (P ++ y :: Q) w = nI y.1 := g2
      generalize kyS (P ++ y :: Q) w = x2 at e2
      have hid := h.id
      have v2 : vp_in x2 4700 := by rw [e2]; exact vp_in_nI hid (by decide)
      obtain ⟨hz, hh, hk⟩ := h.kok (List.mem_append_right P (List.mem_cons_self (a := y) (l := Q)))
      obtain ⟨a, ea, el, ha, ew⟩ := hk.2.2.2.2.2.1.clamp hh (by omega) e2
      have ev : vlA (strip (P ++ y :: Q)) w = intF y.2.2.2.2.2.1 := by unfold vlA; rw [g1]; show (match (strip (P ++ y :: Q))[P.length]? with | some a => intF a.2.2.2.2.1 | none => none) = _; rw [strip_gt]; rfl
      have hc := c_integerAt (Y := Y) (d := d + 5) ty1 r_heap a y.2.2.2.2.2.1.length rfl ha (by decide)
      rw [← ea, ← el, ew] at hc
      refine mjZ_y rfl rfl 12 _ _ _ _ ty1 ?_
      refine (And.intro rfl (And.intro rfl (And.intro rfl (And.intro v2 (And.intro rfl (And.intro rfl (And.intro v2 (And.intro (Nat.le_of_ble_eq_true rfl) (And.intro rfl (And.intro (Nat.le_of_ble_eq_true rfl) (And.intro (Nat.le_of_ble_eq_true rfl) (mjY_mono ty1 (fun q_ u2 ty2 h_ => ?_) (hc)))))))))))))
      have h3 := h_
      intro _
      cases ei : intF y.2.2.2.2.2.1 with
      | none =>
        rw [ei] at h3
        obtain ⟨rfl, rfl⟩ := h3
        have eo : icF (strip (P ++ y :: Q)) w i1 n = none := by unfold icF; rw [ev, ei]
        rw [eo]
        refine mjZ_y rfl rfl 1 _ _ _ _ ty2 ?_
        refine And.intro (fun c => ?_) (fun c => ?_)
        · exact absurd rfl c
        · refine mjZ_y rfl rfl 2 _ _ _ _ ty2 ?_
          refine (And.intro (Nat.le_of_ble_eq_true rfl) (And.intro rfl (And.intro (Nat.le_of_ble_eq_true rfl) (And.intro (Nat.le_of_ble_eq_true rfl) (mjY_mono ty2 (fun q_ u3 ty3 h_ => ?_) (w_noInteger h ty2))))))
          obtain ⟨rfl, h4, f4⟩ := h_
          intro _
          refine mjZ_y rfl rfl 2 _ _ _ _ ty3 ?_
          refine And.intro rfl (And.intro rfl ?_)
          exact ⟨rfl, f4.c, _, h4, rfl⟩
      | some z =>
        rw [ei] at h3
        obtain ⟨rfl, f3, e3⟩ := h3
        have eo : icF (strip (P ++ y :: Q)) w i1 n = (if beyI i1 z (byI i1 n) = 0 then some (putA (strip (P ++ y :: Q)) w (dec (sumI i1 z (byI i1 n)))) else none) := by unfold icF; rw [ev, ei]
        rw [eo]
        have h4 := h.fr f3 (by decide) (by decide)
        refine mjZ_y rfl rfl 1 _ _ _ _ ty2 ?_
        refine And.intro (fun c => ?_) (fun c => ?_)
        · refine mjZ_y rfl rfl 3 _ _ _ _ ty2 ?_
          refine (And.intro rfl (And.intro (Nat.le_of_ble_eq_true rfl) ?_))
          have go : ∀ zz : Int64, zz = z → mjY mjPP (mjQQ Y) (d + 6) 90 28 [some (.ref 0), some (.int x1), some (.int x2), some (.long zz), none, none, none, none, none, none, none] [] u2 (cmdK u1 ws (P ++ y :: Q) l i1 (if beyI i1 z (byI i1 n) = 0 then some (putA (strip (P ++ y :: Q)) w (dec (sumI i1 z (byI i1 n)))) else none)) := by
            intro zz ez
            subst ez
            refine c_inc_b _ h4 ty2 x1 i1 e1 hi1 _ zz n (by rw [f3.2.1 _ (by decide)]; exact en) h1 ht hl hs (fun u hu => ?_)
            have fc : Fr cF cH u1 u2 := f3.up (by decide) (by decide)
            obtain ⟨q1, q2, ks', q3⟩ := hu
            refine ⟨q1, fc.tr q2, ks', ?_⟩
            rw [ntA_fr fc] at q3
            exact q3
          exact go _ e3
        · exact absurd (show ¬ (1 : Int32) = 0 by decide) c
end INCR
