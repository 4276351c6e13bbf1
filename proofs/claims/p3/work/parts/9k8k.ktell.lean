/-! A part of a key is told to the new log. -/
theorem wdsL_app (a b : Req) : wordsL (a ++ b) = wordsL a ++ wordsL b := by
  induction a with
  | nil => rfl
  | cons x r ih => rw [List.cons_append, wdsL_cons, wdsL_cons, ih, List.append_assoc]
theorem wdsL_1 (w : List Int32) : wordsL [w] = wordL w := by rw [wdsL_cons]; exact List.append_nil _
theorem wdsL_2 (v w : List Int32) : wordsL [v, w] = wordL v ++ wordL w := by rw [wdsL_cons, wdsL_1]
section KTELL
variable {Y : Nat → MethodName × ByteArray} {d : Nat} {σ u : kS} {B ws nm nm' : List (List Int32)} {ks ks' : List KC}
theorem KG.op {P Q : List KC} {y : KC} (g : KG B σ nm (P ++ y :: Q)) : ∃ il sl vs M T r, RST σ il sl vs M T ∧ vs[y.2.2.1]? = some r ∧ r.1 = y.1 ∧ AV nm r y.2.2.2.2.2 := by
  obtain ⟨fr, vs, hR, hV⟩ := g.2.2.1
  obtain ⟨r0, a1, a2, a3, a4, a5, a6⟩ := hV.1 y (List.mem_append_right _ List.mem_cons_self)
  exact ⟨_, _, vs, _, _, r0, hR, a1, a2, a5⟩
theorem KG.kd {P Q : List KC} {y : KC} (g : KG B σ nm (P ++ y :: Q)) {k : Nat} (hk : k ≤ 4) (hs : y.2.2.2.2.2.2.1 = nI k) : σ.1 y.1 1 = nI k ∧ σ.1 y.1 6 = nI (if k = 0 then y.2.2.2.2.2.2.2.2.2.1.length else y.2.2.2.2.2.2.2.2.2.2.length) ∧ (k = 0 → y.2.2.2.2.2.2.2.2.2.1.length ≤ 131072) ∧ (¬ k = 0 → y.2.2.2.2.2.2.2.2.2.2.length ≤ 131072) := by
  obtain ⟨il, sl, vs, M, T, r, hR, a1, a2, a5⟩ := g.op
  obtain ⟨ri, rs, rh, NK, rt, NT, rn, Nn, te, rc, NC, rm, Nm, ce, ls, hG⟩ := hR
  obtain ⟨l, hl, hV, g1, g2, g3, -⟩ := hG.v a1
  obtain ⟨b1, b2, b3, b4, b5, b6⟩ := a5
  have ek : r.2.1 = k := (nI_eq (by omega) (by omega)).mp (b1.symm.trans hs)
  rw [ek] at b5
  refine ⟨by rw [← a2, hV.1.2.2.1, ek], by rw [← a2, hV.2.1.1, b5], fun z => ?_, fun z => ?_⟩
  · rw [if_pos z] at b5; omega
  · rw [if_neg z] at b5; omega
/-- a word of a list, a set, a hash -/
theorem gE_at (ty : kTY σ) {P Q : List KC} {y : KC} (g : KG B σ nm (P ++ y :: Q)) {k : Nat} (hk : k = 1 ∨ k = 2 ∨ k = 3) (hs : y.2.2.2.2.2.2.1 = nI k) {i : Nat} {z : AE} (hz : y.2.2.2.2.2.2.2.2.2.2[i]? = some z) (x : Int32) (ex : x = nI i) : kjY kPP (kQQ Y) d 115 0 (mjL0 3 [.ref y.1, .int x]) [] σ (fun r u => u = σ ∧ ∃ n, r = some (.int (nI n)) ∧ nm[n]? = some z.1) := by
  obtain ⟨il, sl, vs, M, T, r, hR, a1, a2, a5⟩ := g.op
  obtain ⟨b1, b2, b3, b4, b5, b6⟩ := a5
  have ek : r.2.1 = k := (nI_eq (by omega) (by omega)).mp (b1.symm.trans hs)
  have h0 : ¬ r.2.1 = 0 := by omega
  have hi := (List.getElem?_eq_some_iff.mp hz).1
  have hzn : (y.2.2.2.2.2.2.2.2.2.2.map (fun z => z.1))[i]? = some z.1 := by rw [List.getElem?_map, hz]; rfl
  rw [ek] at b6
  have hq : ∃ q0 n, r.2.2.2.2.2.2.2[0]? = some q0 ∧ q0[i]? = some (nI n).toInt64 ∧ nm[n]? = some z.1 := by
    rcases hk with c | c | c
    · obtain ⟨q, c1, c2⟩ := b6.2.1 (Or.inl c)
      obtain ⟨n, d1, d2⟩ := c2.2 i _ hzn
      exact ⟨q, n, by rw [c1]; rfl, d1, d2⟩
    · obtain ⟨q0, q1, c1, c2, -⟩ := b6.2.2.1 c
      obtain ⟨n, d1, d2⟩ := c2.2 i _ hzn
      exact ⟨q0, n, by rw [c1]; rfl, d1, d2⟩
    · obtain ⟨q, c1, c2⟩ := b6.2.1 (Or.inr c)
      obtain ⟨n, d1, d2⟩ := c2.2 i _ hzn
      exact ⟨q, n, by rw [c1]; rfl, d1, d2⟩
  obtain ⟨q0, n, c1, c2, c3⟩ := hq
  rw [← a2]
  refine kjY_mono ty (fun r' z' _ _ h => ?_) (k_vat ty hR a1 x)
  obtain ⟨h1, y', e1, e2⟩ := h
  refine ⟨h1, n, ?_, c3⟩
  rw [e1, e2 i q0 _ ex (by rw [b5, if_neg h0]; exact hi) h0 c1 c2, i64_32]
/-- a hash's value, a name of an order -/
theorem gE_oth (ty : kTY σ) {P Q : List KC} {y : KC} (g : KG B σ nm (P ++ y :: Q)) {k : Nat} (hk : k = 2 ∨ k = 4) (hs : y.2.2.2.2.2.2.1 = nI k) {i : Nat} {z : AE} (hz : y.2.2.2.2.2.2.2.2.2.2[i]? = some z) (x : Int32) (ex : x = nI i) : kjY kPP (kQQ Y) d 116 0 (mjL0 3 [.ref y.1, .int x]) [] σ (fun r u => u = σ ∧ ∃ n, r = some (.int (nI n)) ∧ nm[n]? = some (if k = 4 then z.1 else z.2.1)) := by
  obtain ⟨il, sl, vs, M, T, r, hR, a1, a2, a5⟩ := g.op
  obtain ⟨b1, b2, b3, b4, b5, b6⟩ := a5
  have ek : r.2.1 = k := (nI_eq (by omega) (by omega)).mp (b1.symm.trans hs)
  have h0 : ¬ r.2.1 = 0 := by omega
  have hi := (List.getElem?_eq_some_iff.mp hz).1
  rw [ek] at b6
  have hq : ∃ q0 n, r.2.2.2.2.2.2.2[1]? = some q0 ∧ q0[i]? = some (nI n).toInt64 ∧ nm[n]? = some (if k = 4 then z.1 else z.2.1) := by
    rcases hk with c | c
    · obtain ⟨q0, q1, c1, -, c2⟩ := b6.2.2.1 c
      obtain ⟨n, d1, d2⟩ := c2.2 i z.2.1 (by rw [List.getElem?_map, hz]; rfl)
      exact ⟨q1, n, by rw [c1]; rfl, d1, by rw [if_neg (by omega)]; exact d2⟩
    · obtain ⟨q0, q1, q2, q3, fs, c1, c2, -⟩ := b6.2.2.2 c
      obtain ⟨n, d1, d2⟩ := c2.2 i z.1 (by rw [List.getElem?_map, hz]; rfl)
      exact ⟨q1, n, by rw [c1]; rfl, d1, by rw [if_pos c]; exact d2⟩
  obtain ⟨q0, n, c1, c2, c3⟩ := hq
  rw [← a2]
  refine kjY_mono ty (fun r' z' _ _ h => ?_) (k_voth ty hR a1 x)
  obtain ⟨h1, y', e1, e2⟩ := h
  refine ⟨h1, n, ?_, c3⟩
  rw [e1, e2 i q0 _ ex (by rw [b5, if_neg h0]; exact hi) h0 c1 c2, i64_32]
theorem gE_ls (ty : kTY σ) {P Q : List KC} {y : KC} (g : KG B σ nm (P ++ y :: Q)) (hs : y.2.2.2.2.2.2.1 = nI 4) {i : Nat} {z : AE} (hz : y.2.2.2.2.2.2.2.2.2.2[i]? = some z) (x : Int32) (ex : x = nI i) : kjY kPP (kQQ Y) d 118 0 (mjL0 3 [.ref y.1, .int x]) [] σ (fun r u => u = σ ∧ r = some (.long z.2.2)) := by
  obtain ⟨il, sl, vs, M, T, r, hR, a1, a2, a5⟩ := g.op
  obtain ⟨b1, b2, b3, b4, b5, b6⟩ := a5
  have ek : r.2.1 = 4 := (nI_eq (by omega) (by decide)).mp (b1.symm.trans hs)
  have h0 : ¬ r.2.1 = 0 := by omega
  have hi := (List.getElem?_eq_some_iff.mp hz).1
  rw [ek] at b6
  obtain ⟨q0, q1, q2, q3, fs, c1, -, c3, -⟩ := b6.2.2.2 rfl
  rw [← a2]
  refine kjY_mono ty (fun r' z' _ _ h => ?_) (k_vls ty hR a1 x)
  obtain ⟨h1, y', e1, e2⟩ := h
  refine ⟨h1, ?_⟩
  rw [e1, e2 i q3 z.2.2 ex (by rw [b5, if_neg h0]; exact hi) h0 (by rw [c1]; rfl) (by rw [c3, List.getElem?_map, hz]; rfl)]
/-- the words of one element, one behind another -/
theorem kG_tell_l {P Q : List KC} {y : KC} {b : Nat} (hb : b ∈ [5, 7]) (ts : kTY σ) (h11 : σ.2.2.1 0 11 = some b) {k : Nat} (hk : k = 1 ∨ k = 2 ∨ k = 3 ∨ k = 4) (hs : y.2.2.2.2.2.2.1 = nI k) {N : Nat} (hN : N ≤ 131072) (x1 x3 x4 x5 : Int32) (e4 : x4 = nI N) : ∀ (c : List AE) (i : Nat) (x6 : Int32) (l : List Int32) (u : kS), i + c.length = N → (∀ j z, c[j]? = some z → y.2.2.2.2.2.2.2.2.2.2[i + j]? = some z) → x6 = nI i → kTY u → KG B u nm (P ++ y :: Q) → (kBY u b l ∧ u.1 b 3 = 0) → Ch false (jnF b) [(b, 1)] σ u → (l ++ wordsL (c.flatMap (tlE (nI k)))).length ≤ 210000 →
    kjY kPP (kQQ Y) (d + 7) 35 56 [some (.ref 0), some (.int x1), some (.ref y.1), some (.int x3), some (.int x4), some (.int x5), some (.int x6)] [] u (gjP B b σ nm (P ++ y :: Q) (l ++ wordsL (c.flatMap (tlE (nI k))))) := by
  obtain ⟨b1, b2, b3, b4, b5⟩ := J_ok b hb
  have n11 : ∀ b ∈ [5, 7], ¬ (0, 11) ∈ jnF b := by decide
  have tr : ∀ {v w : kS}, Ch false (jnF b) [(b, 1)] σ v → Ch false (jnF b) [(b, 1)] v w → Ch false (jnF b) [(b, 1)] σ w := fun h1 h2 => Ch.tr ts (fun q hq => by rw [List.mem_singleton.mp hq]; exact ow_b b1) h1 h2
  intro c
  induction c with
  | nil =>
    intro i x6 l u hi hc e6 tu gu ju cu hl
    have hi : i = N := by simpa using hi
    refine kjZ_y rfl rfl 3 _ _ _ _ tu ?_
    refine And.intro (fun q => ?_) (fun q => ?_)
    rotate_left
    · exact absurd (show x4 ≤ x6 by rw [e4, e6, nle (by omega) (by omega)]; omega) q
    refine kjZ_y rfl rfl 1 _ _ _ _ tu ?_
    refine And.intro rfl (And.intro rfl ?_)
    show gjP B b σ nm (P ++ y :: Q) (l ++ []) _ _
    rw [List.append_nil]
    exact ⟨rfl, gu, ju, cu⟩
  | cons z c ih =>
    intro i x6 l u hi hc e6 tu gu ju cu hl
    have hi : i + c.length + 1 = N := by simp only [List.length_cons] at hi; omega
    have hz := hc 0 z rfl
    have hc' : ∀ j z', c[j]? = some z' → y.2.2.2.2.2.2.2.2.2.2[i + 1 + j]? = some z' := fun j z' h => by
      have := hc (j + 1) z' h
      rw [show i + 1 + j = i + (j + 1) by omega]; exact this
    obtain ⟨y1, -, -⟩ := gu.at_
    have kv : (u.2.2.2.1 y.1).1 = 11 := by rw [y1]
    have ek := (gu.kd (by omega) hs).1
    have f11 : u.2.2.1 0 11 = some b := by rw [(cu.fld ts (h := 0) (x := 11) (c := 9) (by decide) rfl (by decide) (n11 b hb)).2.2]; exact h11
    have kb := ob_k tu b1
    rw [List.flatMap_cons, wdsL_app, ← List.append_assoc] at hl ⊢
    -- the next element
    have nxt : ∀ v, kTY v → KG B v nm (P ++ y :: Q) → (kBY v b (l ++ wordsL (tlE (nI k) z)) ∧ v.1 b 3 = 0) → Ch false (jnF b) [(b, 1)] σ v → kjY kPP (kQQ Y) (d + 7) 35 98 [some (.ref 0), some (.int x1), some (.ref y.1), some (.int x3), some (.int x4), some (.int x5), some (.int x6)] [] v (gjP B b σ nm (P ++ y :: Q) (l ++ wordsL (tlE (nI k) z) ++ wordsL (c.flatMap (tlE (nI k))))) := by
      intro v tv gv jv cv
      refine kjZ_y rfl rfl 2 _ _ _ _ tv ?_
      exact ih (i + 1) _ _ v (by omega) hc' (by rw [e6]; exact nI_1 i) tv gv jv cv hl
    have hl2 := hl
    rw [List.length_append, List.length_append] at hl2
    refine kjZ_y rfl rfl 3 _ _ _ _ tu ?_
    refine And.intro (fun q => ?_) (fun q => ?_)
    · exact absurd (show x4 ≤ x6 from q) (by rw [e4, e6, nle (by omega) (by omega)]; omega)
    by_cases k4 : k = 4
    · subst k4
      have et : tlE (nI 4) z = [dec z.2.2, z.1] := by unfold tlE; rw [if_pos (by decide)]
      rw [et] at nxt hl2 ⊢
      rw [wdsL_2, List.length_append] at hl2
      rw [wdsL_2, ← List.append_assoc] at nxt ⊢
      refine kjZ_y rfl rfl 4 _ _ _ _ tu ?_
      refine (And.intro (by assumption) (And.intro (fun q2 => ?_) (fun q2 => ?_)))
      · exact absurd (show u.1 y.1 1 = nI 4 from ek) q2
      refine kjZ_y rfl rfl 5 _ _ _ _ tu ?_
      refine (And.intro (tu.k (by decide) rfl) (Exists.intro _ (And.intro f11 (And.intro (Nat.le_of_ble_eq_true rfl) (And.intro (Or.inl ⟨(Nat.le_of_ble_eq_true rfl), (by assumption)⟩) (And.intro (Nat.le_of_ble_eq_true rfl) (And.intro (Nat.le_of_ble_eq_true rfl) (kjY_mono tu (fun q_ u1 ty1 xu1 h_ => ?_) (gE_ls (d := d + 6) tu gu hs hz _ e6)))))))))
      obtain ⟨rfl, rfl⟩ := h_
      intro _ _
      refine kjZ_y rfl rfl 1 _ _ _ _ ty1 ?_
      refine (And.intro (Nat.le_of_ble_eq_true rfl) (And.intro (Or.inl ⟨(Nat.le_of_ble_eq_true rfl), (by assumption)⟩) (And.intro (Nat.le_of_ble_eq_true rfl) (And.intro (Nat.le_of_ble_eq_true rfl) (kjY_mono ty1 (fun q_ u2 ty2 xu2 h_ => ?_) (g_num (d := d + 2) ty1 gu hb ju z.2.2 (by omega)))))))
      obtain ⟨rfl, g2, j2, c2⟩ := h_
      intro _ _
      have kv2 : (u2.2.2.2.1 y.1).1 = 11 := xu2.k ty1 kv (by decide)
      have cu2 := tr cu c2
      have f112 : u2.2.2.1 0 11 = some b := by rw [(cu2.fld ts (h := 0) (x := 11) (c := 9) (by decide) rfl (by decide) (n11 b hb)).2.2]; exact h11
      have kb2 := ob_k ty2 b1
      refine kjZ_y rfl rfl 5 _ _ _ _ ty2 ?_
      refine (And.intro (ty2.k (by decide) rfl) (And.intro (Nat.le_of_ble_eq_true rfl) (And.intro (Or.inl ⟨(Nat.le_of_ble_eq_true rfl), (by assumption)⟩) (And.intro (Nat.le_of_ble_eq_true rfl) (And.intro (Nat.le_of_ble_eq_true rfl) (kjY_mono ty2 (fun q_ u3 ty3 xu3 h_ => ?_) (gE_oth (d := d + 6) ty2 g2 (k := 4) (Or.inr rfl) hs hz _ e6)))))))
      obtain ⟨rfl, n, rfl, hn⟩ := h_
      intro _ _
      rw [if_pos rfl] at hn
      refine kjZ_y rfl rfl 3 _ _ _ _ ty3 ?_
      refine (And.intro (ty3.k (by decide) rfl) (Exists.intro _ (And.intro f112 (And.intro (Nat.le_of_ble_eq_true rfl) (And.intro (Or.inl ⟨(Nat.le_of_ble_eq_true rfl), (ty3.k (by decide) rfl)⟩) (And.intro (Nat.le_of_ble_eq_true rfl) (And.intro (Nat.le_of_ble_eq_true rfl) (kjY_mono ty3 (fun q_ u4 ty4 xu4 h_ => ?_) (g_word (d := d + 1) ty3 g2 hb j2 hn _ rfl (by rw [List.length_append]; omega))))))))))
      obtain ⟨rfl, g4, j4, c4⟩ := h_
      intro _ _
      have kv4 : (u4.2.2.2.1 y.1).1 = 11 := xu4.k ty3 kv2 (by decide)
      have ek4 := (g4.kd (by omega) hs).1
      refine kjZ_y rfl rfl 1 _ _ _ _ ty4 ?_
      refine kjZ_y rfl rfl 4 _ _ _ _ ty4 ?_
      refine (And.intro (by assumption) (And.intro (fun q5 => ?_) (fun q5 => ?_)))
      rotate_left
      · exact absurd (show u4.1 y.1 1 = Int32.ofInt 2 from Decidable.not_not.mp q5) (by rw [ek4]; decide)
      exact nxt u4 ty4 g4 j4 (tr cu2 c4)
    · have k123 : k = 1 ∨ k = 2 ∨ k = 3 := by omega
      refine kjZ_y rfl rfl 4 _ _ _ _ tu ?_
      refine (And.intro (by assumption) (And.intro (fun q2 => ?_) (fun q2 => ?_)))
      rotate_left
      · refine absurd (show u.1 y.1 1 = Int32.ofInt 4 from Decidable.not_not.mp q2) (fun w => k4 ?_)
        rw [ek] at w
        exact (nI_eq (b := 4) (by omega) (by decide)).mp w
      refine kjZ_y rfl rfl 5 _ _ _ _ tu ?_
      refine (And.intro (tu.k (by decide) rfl) (And.intro (Nat.le_of_ble_eq_true rfl) (And.intro (Or.inl ⟨(Nat.le_of_ble_eq_true rfl), (by assumption)⟩) (And.intro (Nat.le_of_ble_eq_true rfl) (And.intro (Nat.le_of_ble_eq_true rfl) (kjY_mono tu (fun q_ u3 ty3 xu3 h_ => ?_) (gE_at (d := d + 6) tu gu k123 hs hz _ e6)))))))
      obtain ⟨rfl, n, rfl, hn⟩ := h_
      intro _ _
      by_cases k2 : k = 2
      · subst k2
        have et : tlE (nI 2) z = [z.1, z.2.1] := by unfold tlE; rw [if_neg (by decide), if_pos (by decide)]
        rw [et] at nxt hl2 ⊢
        rw [wdsL_2, List.length_append] at hl2
        rw [wdsL_2, ← List.append_assoc] at nxt ⊢
        refine kjZ_y rfl rfl 3 _ _ _ _ ty3 ?_
        refine (And.intro (ty3.k (by decide) rfl) (Exists.intro _ (And.intro f11 (And.intro (Nat.le_of_ble_eq_true rfl) (And.intro (Or.inl ⟨(Nat.le_of_ble_eq_true rfl), (ty3.k (by decide) rfl)⟩) (And.intro (Nat.le_of_ble_eq_true rfl) (And.intro (Nat.le_of_ble_eq_true rfl) (kjY_mono ty3 (fun q_ u4 ty4 xu4 h_ => ?_) (g_word (d := d + 1) ty3 gu hb ju hn _ rfl (by omega))))))))))
        obtain ⟨rfl, g4, j4, c4⟩ := h_
        intro _ _
        have kv4 : (u4.2.2.2.1 y.1).1 = 11 := xu4.k ty3 kv (by decide)
        have ek4 := (g4.kd (by omega) hs).1
        have cu4 := tr cu c4
        have f114 : u4.2.2.1 0 11 = some b := by rw [(cu4.fld ts (h := 0) (x := 11) (c := 9) (by decide) rfl (by decide) (n11 b hb)).2.2]; exact h11
        have kb4 := ob_k ty4 b1
        refine kjZ_y rfl rfl 4 _ _ _ _ ty4 ?_
        refine (And.intro (by assumption) (And.intro (fun q5 => ?_) (fun q5 => ?_)))
        · exact absurd (show u4.1 y.1 1 = Int32.ofInt 2 from ek4) q5
        refine kjZ_y rfl rfl 5 _ _ _ _ ty4 ?_
        refine (And.intro (ty4.k (by decide) rfl) (And.intro (Nat.le_of_ble_eq_true rfl) (And.intro (Or.inl ⟨(Nat.le_of_ble_eq_true rfl), (by assumption)⟩) (And.intro (Nat.le_of_ble_eq_true rfl) (And.intro (Nat.le_of_ble_eq_true rfl) (kjY_mono ty4 (fun q_ u5 ty5 xu5 h_ => ?_) (gE_oth (d := d + 6) ty4 g4 (k := 2) (Or.inl rfl) hs hz _ e6)))))))
        obtain ⟨rfl, n2, rfl, hn2⟩ := h_
        intro _ _
        rw [if_neg (by decide)] at hn2
        refine kjZ_y rfl rfl 3 _ _ _ _ ty5 ?_
        refine (And.intro (ty5.k (by decide) rfl) (Exists.intro _ (And.intro f114 (And.intro (Nat.le_of_ble_eq_true rfl) (And.intro (Or.inl ⟨(Nat.le_of_ble_eq_true rfl), (ty5.k (by decide) rfl)⟩) (And.intro (Nat.le_of_ble_eq_true rfl) (And.intro (Nat.le_of_ble_eq_true rfl) (kjY_mono ty5 (fun q_ u6 ty6 xu6 h_ => ?_) (g_word (d := d + 1) ty5 g4 hb j4 hn2 _ rfl (by rw [List.length_append]; omega))))))))))
        obtain ⟨rfl, g6, j6, c6⟩ := h_
        intro _ _
        exact nxt u6 ty6 g6 j6 (tr cu4 c6)
      · have et : tlE (nI k) z = [z.1] := by
          unfold tlE
          rw [if_neg (fun (w : nI k = (4 : Int32)) => k4 ((nI_eq (b := 4) (by omega) (by decide)).mp w)), if_neg (fun (w : nI k = (2 : Int32)) => k2 ((nI_eq (b := 2) (by omega) (by decide)).mp w))]
        rw [et] at nxt hl2 ⊢
        rw [wdsL_1] at nxt hl2 ⊢
        refine kjZ_y rfl rfl 3 _ _ _ _ ty3 ?_
        refine (And.intro (ty3.k (by decide) rfl) (Exists.intro _ (And.intro f11 (And.intro (Nat.le_of_ble_eq_true rfl) (And.intro (Or.inl ⟨(Nat.le_of_ble_eq_true rfl), (ty3.k (by decide) rfl)⟩) (And.intro (Nat.le_of_ble_eq_true rfl) (And.intro (Nat.le_of_ble_eq_true rfl) (kjY_mono ty3 (fun q_ u4 ty4 xu4 h_ => ?_) (g_word (d := d + 1) ty3 gu hb ju hn _ rfl (by omega))))))))))
        obtain ⟨rfl, g4, j4, c4⟩ := h_
        intro _ _
        have kv4 : (u4.2.2.2.1 y.1).1 = 11 := xu4.k ty3 kv (by decide)
        have ek4 := (g4.kd (by omega) hs).1
        refine kjZ_y rfl rfl 4 _ _ _ _ ty4 ?_
        refine (And.intro (by assumption) (And.intro (fun q5 => ?_) (fun q5 => ?_)))
        rotate_left
        · refine absurd (show u4.1 y.1 1 = Int32.ofInt 2 from Decidable.not_not.mp q5) (fun w => k2 ?_)
          rw [ek4] at w
          exact (nI_eq (b := 2) (by omega) (by decide)).mp w
        exact nxt u4 ty4 g4 j4 (tr cu c4)
end KTELL
