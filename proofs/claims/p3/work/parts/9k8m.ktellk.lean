/-! A key is told to the new log. -/
section KTELLK
variable {Y : Nat → MethodName × ByteArray} {d : Nat} {σ u : kS} {B ws nmm nmm' : List (List Int32)} {ks ks' : List KC}
theorem encs_1' (q : Req) : encs [q] = encR q := by rw [encs_cons]; exact List.append_nil _
theorem encs_app' (a b : List Req) : encs (a ++ b) = encs a ++ encs b := by unfold encs; exact List.flatMap_append
theorem gj_ch {b : Nat} (hb : b ∈ [5, 7]) (ty : kTY σ) {v w : kS} (h1 : Ch false (jnF b) [(b, 1)] σ v) (h2 : Ch false (jnF b) [(b, 1)] v w) : Ch false (jnF b) [(b, 1)] σ w := Ch.tr ty (fun q hq => by rw [List.mem_singleton.mp hq]; exact ow_b (J_ok b hb).1) h1 h2
theorem gj_11 {b : Nat} (hb : b ∈ [5, 7]) (ty : kTY σ) {v : kS} (h1 : Ch false (jnF b) [(b, 1)] σ v) (h11 : σ.2.2.1 0 11 = some b) : v.2.2.1 0 11 = some b := by
  have n11 : ∀ b ∈ [5, 7], ¬ (0, 11) ∈ jnF b := by decide
  rw [(h1.fld ty (h := 0) (x := 11) (c := 9) (by decide) rfl (by decide) (n11 b hb)).2.2]; exact h11
def tmR (a : AK) : List Req := if a.2.2.1 = 0 then [] else [[nm 33, a.1, dec a.2.2.2.1]]
/-- its time -/
theorem kG_tell3 {P Q : List KC} {y : KC} {b : Nat} (hb : b ∈ [5, 7]) (ts : kTY σ) (h11 : σ.2.2.1 0 11 = some b) (htm : ¬ y.2.2.2.2.2.2.2.1 = 0 → ¬ y.2.2.2.2.2.2.2.2.1 = NEV) (x1 : Int32) (e1 : x1 = nI y.2.1) (o3 o4 o5 : Option Value) {l : List Int32} (tu : kTY u) (gu : KG B u nmm (P ++ y :: Q)) (ju : kBY u b l ∧ u.1 b 3 = 0) (cu : Ch false (jnF b) [(b, 1)] σ u) (hl : (l ++ encs (tmR y.2.2.2.2.2)).length ≤ 210000) :
    kjY kPP (kQQ Y) (d + 8) 34 71 [some (.ref 0), some (.int x1), some (.ref y.1), o3, o4, o5] [] u (gjP B b σ nmm (P ++ y :: Q) (l ++ encs (tmR y.2.2.2.2.2))) := by
  obtain ⟨b1, b2, b3, b4, b5⟩ := J_ok b hb
  obtain ⟨y1, y2, y3⟩ := gu.at_
  have kv : (u.2.2.2.1 y.1).1 = 11 := by rw [y1]
  have f11 := gj_11 hb ts cu h11
  have kb := ob_k tu b1
  by_cases c : y.2.2.2.2.2.2.2.1 = 0
  · have et : tmR y.2.2.2.2.2 = [] := by unfold tmR; rw [if_pos c]
    have ee : endE y.2.2.2.2.2 = NEV := by unfold endE; rw [if_pos c]
    rw [et]
    refine kjZ_y rfl rfl 5 _ _ _ _ tu ?_
    refine (And.intro (by assumption) (And.intro (fun q => ?_) (fun q => ?_)))
    rotate_left
    · exact absurd ((lg_cmp_eq _ _).mpr (show u.2.1 y.1 3 = NEV by rw [y2]; exact ee)) q
    refine kjZ_y rfl rfl 1 _ _ _ _ tu ?_
    refine And.intro rfl (And.intro rfl ?_)
    show gjP B b σ nmm (P ++ y :: Q) (l ++ []) _ _
    rw [List.append_nil]
    exact ⟨rfl, gu, ju, cu⟩
  · have et : tmR y.2.2.2.2.2 = [[nm 33, y.2.2.2.2.2.1, dec y.2.2.2.2.2.2.2.2.1]] := by unfold tmR; rw [if_neg c]
    have ee : endE y.2.2.2.2.2 = y.2.2.2.2.2.2.2.2.1 := by unfold endE; rw [if_neg c]
    have eL : l ++ encs (tmR y.2.2.2.2.2) = l ++ hdN 3 ++ wordL (tb 6) ++ wordL y.2.2.2.2.2.1 ++ wordL (dec y.2.2.2.2.2.2.2.2.1) := by
      rw [et, encs_1', encR_hd, nm_tb.2.2.2.2.2.1]
      show l ++ (hdN 3 ++ wordsL [tb 6, _, _]) = _
      rw [wdsL_cons, wdsL_2]; simp only [List.append_assoc]
    rw [eL] at hl ⊢
    rw [List.length_append, List.length_append, List.length_append, List.length_append] at hl
    refine kjZ_y rfl rfl 5 _ _ _ _ tu ?_
    refine (And.intro (by assumption) (And.intro (fun q => ?_) (fun q => ?_)))
    · have := (lg_cmp_eq _ _).mp (show lg_cmp (u.2.1 y.1 3) NEV = 0 from q)
      exact absurd (this.symm.trans (y2.trans ee)).symm (htm c)
    refine kjZ_y rfl rfl 4 _ _ _ _ tu ?_
    refine (And.intro (tu.k (by decide) rfl) (Exists.intro _ (And.intro f11 (And.intro (Nat.le_of_ble_eq_true rfl) (And.intro (Or.inl ⟨(Nat.le_of_ble_eq_true rfl), (by assumption)⟩) (And.intro (Nat.le_of_ble_eq_true rfl) (And.intro (Nat.le_of_ble_eq_true rfl) (kjY_mono tu (fun q_ u1 ty1 xu1 h_ => ?_) (g_headN (d := d + 2) tu gu hb ju (n := 3) (by decide) (by omega) _ rfl)))))))))
    obtain ⟨rfl, g1, j1, c1⟩ := h_
    intro _ _
    have cu1 := gj_ch hb ts cu c1
    have f111 := gj_11 hb ts cu1 h11
    have kb1 := ob_k ty1 b1
    refine kjZ_y rfl rfl 4 _ _ _ _ ty1 ?_
    refine (And.intro (ty1.k (by decide) rfl) (Exists.intro _ (And.intro f111 (And.intro rfl (And.intro (Nat.le_of_ble_eq_true rfl) (And.intro (Or.inl ⟨(Nat.le_of_ble_eq_true rfl), (by assumption)⟩) (And.intro (Nat.le_of_ble_eq_true rfl) (And.intro (Nat.le_of_ble_eq_true rfl) (kjY_mono ty1 (fun q_ u2 ty2 xu2 h_ => ?_) (g_text (d := d + 1) ty1 g1 hb j1 (i := 6) (by decide) (by rw [List.length_append]; omega)))))))))))
    obtain ⟨rfl, g2, j2, c2⟩ := h_
    intro _ _
    have cu2 := gj_ch hb ts cu1 c2
    have f112 := gj_11 hb ts cu2 h11
    have kb2 := ob_k ty2 b1
    refine kjZ_y rfl rfl 6 _ _ _ _ ty2 ?_
    refine (And.intro (ty2.k (by decide) rfl) (And.intro (ty2.k (by decide) rfl) (Exists.intro _ (And.intro f112 (And.intro (Nat.le_of_ble_eq_true rfl) (And.intro (Or.inl ⟨(Nat.le_of_ble_eq_true rfl), (ty2.k (by decide) rfl)⟩) (And.intro (Nat.le_of_ble_eq_true rfl) (And.intro (Nat.le_of_ble_eq_true rfl) (kjY_mono ty2 (fun q_ u3 ty3 xu3 h_ => ?_) (g_word (d := d + 2) ty2 g2 hb j2 y3 _ e1 (by rw [List.length_append, List.length_append]; omega)))))))))))
    obtain ⟨rfl, g3, j3, c3⟩ := h_
    intro _ _
    have cu3 := gj_ch hb ts cu2 c3
    have f113 := gj_11 hb ts cu3 h11
    have kb3 := ob_k ty3 b1
    obtain ⟨z1, z2, -⟩ := g3.at_
    have kv3 : (u3.2.2.2.1 y.1).1 = 11 := by rw [z1]
    have eN : u3.2.1 y.1 3 = y.2.2.2.2.2.2.2.2.1 := z2.trans ee
    have hg := g_num (Y := Y) (d := d + 3) ty3 g3 hb j3 (u3.2.1 y.1 3) (by rw [eN, List.length_append, List.length_append, List.length_append]; omega)
    refine kjZ_y rfl rfl 5 _ _ _ _ ty3 ?_
    refine (And.intro (ty3.k (by decide) rfl) (Exists.intro _ (And.intro f113 (And.intro (by assumption) (And.intro (Nat.le_of_ble_eq_true rfl) (And.intro (Or.inl ⟨(Nat.le_of_ble_eq_true rfl), (by assumption)⟩) (And.intro (Nat.le_of_ble_eq_true rfl) (And.intro (Nat.le_of_ble_eq_true rfl) (kjY_mono ty3 (fun q_ u4 ty4 xu4 h_ => ?_) (hg))))))))))
    obtain ⟨rfl, g4, j4, c4⟩ := h_
    intro _ _
    refine kjZ_y rfl rfl 1 _ _ _ _ ty4 ?_
    refine And.intro rfl (And.intro rfl ?_)
    rw [eN] at j4
    exact ⟨rfl, g4, j4, gj_ch hb ts cu3 c4⟩
/-- its parts -/
theorem kG_tell2 (K : kK) {P Q : List KC} {y : KC} {b : Nat} (hb : b ∈ [5, 7]) (ts : kTY σ) (h11 : σ.2.2.1 0 11 = some b) {k : Nat} (hk : k = 1 ∨ k = 2 ∨ k = 3 ∨ k = 4) (hs : y.2.2.2.2.2.2.1 = nI k) (x1 x3 x4 : Int32) (e1 : x1 = nI y.2.1) (e4 : x4 = nI (ptS (nI k))) (L : List Int32) (hL : L.length ≤ 210000)
    (hK : ∀ v x5, kTY v → KG B v nmm (P ++ y :: Q) → (kBY v b L ∧ v.1 b 3 = 0) → Ch false (jnF b) [(b, 1)] σ v → kjY kPP (kQQ Y) (d + 8) 34 71 [some (.ref 0), some (.int x1), some (.ref y.1), some (.int x3), some (.int x4), some (.int x5)] [] v K) :
    ∀ (f i : Nat) (x5 : Int32) (l : List Int32) (u : kS), y.2.2.2.2.2.2.2.2.2.2.length ≤ i + f → i ≤ y.2.2.2.2.2.2.2.2.2.2.length + 1000 → x5 = nI i → kTY u → KG B u nmm (P ++ y :: Q) → (kBY u b l ∧ u.1 b 3 = 0) → Ch false (jnF b) [(b, 1)] σ u → L = l ++ encs ((ckF (ptS (nI k)) f (y.2.2.2.2.2.2.2.2.2.2.drop i)).map (rqE (nI k) y.2.2.2.2.2.1)) →
    kjY kPP (kQQ Y) (d + 8) 34 51 [some (.ref 0), some (.int x1), some (.ref y.1), some (.int x3), some (.int x4), some (.int x5)] [] u K := by
  obtain ⟨b1, b2, b3, b4, b5⟩ := J_ok b hb
  have hpt : ptS (nI k) = 500 ∨ ptS (nI k) = 1000 := by unfold ptS; split <;> omega
  have hpe : eaS (nI k) * ptS (nI k) = 1000 := by rcases hk with z | z | z | z <;> rw [z] <;> decide
  intro f
  induction f with
  | zero =>
    intro i x5 l u hf hi e5 tu gu ju cu eL
    obtain ⟨y1, -, -⟩ := gu.at_
    have kv : (u.2.2.2.1 y.1).1 = 11 := by rw [y1]
    obtain ⟨-, k6, -, k7⟩ := gu.kd (by omega) hs
    rw [if_neg (by omega)] at k6
    have k7 := k7 (by omega)
    have eL : L = l := by rw [eL]; exact List.append_nil l
    refine kjZ_y rfl rfl 4 _ _ _ _ tu ?_
    refine (And.intro (by assumption) (And.intro (fun q => ?_) (fun q => ?_)))
    · exact hK u x5 tu gu (by rw [eL]; exact ju) cu
    · exact absurd (show u.1 y.1 6 ≤ x5 by rw [k6, e5, nle (by omega) (by omega)]; omega) q
  | succ f ih =>
    intro i x5 l u hf hi e5 tu gu ju cu eL
    obtain ⟨y1, -, -⟩ := gu.at_
    have kv : (u.2.2.2.1 y.1).1 = 11 := by rw [y1]
    obtain ⟨-, k6, -, k7⟩ := gu.kd (by omega) hs
    rw [if_neg (by omega)] at k6
    have k7 := k7 (by omega)
    by_cases c : y.2.2.2.2.2.2.2.2.2.2.length ≤ i
    · have e0 : y.2.2.2.2.2.2.2.2.2.2.drop i = [] := List.drop_eq_nil_of_le c
      have eL : L = l := by
        rw [eL, e0]
        show l ++ encs (List.map _ (if ([] : List AE) = [] then [] else _)) = l
        rw [if_pos rfl]; exact List.append_nil l
      refine kjZ_y rfl rfl 4 _ _ _ _ tu ?_
      refine (And.intro (by assumption) (And.intro (fun q => ?_) (fun q => ?_)))
      · exact hK u x5 tu gu (by rw [eL]; exact ju) cu
      · exact absurd (show u.1 y.1 6 ≤ x5 by rw [k6, e5, nle (by omega) (by omega)]; omega) q
    have hne : ¬ y.2.2.2.2.2.2.2.2.2.2.drop i = [] := fun z => by
      have := List.length_drop (i := i) (l := y.2.2.2.2.2.2.2.2.2.2)
      rw [z] at this; have : 0 = y.2.2.2.2.2.2.2.2.2.2.length - i := this; omega
    have eL2 : L = l ++ encR (rqE (nI k) y.2.2.2.2.2.1 ((y.2.2.2.2.2.2.2.2.2.2.drop i).take (ptS (nI k)))) ++ encs ((ckF (ptS (nI k)) f (y.2.2.2.2.2.2.2.2.2.2.drop (i + ptS (nI k)))).map (rqE (nI k) y.2.2.2.2.2.1)) := by
      rw [eL]
      show l ++ encs (List.map _ (if y.2.2.2.2.2.2.2.2.2.2.drop i = [] then [] else (y.2.2.2.2.2.2.2.2.2.2.drop i).take (ptS (nI k)) :: ckF (ptS (nI k)) f ((y.2.2.2.2.2.2.2.2.2.2.drop i).drop (ptS (nI k))))) = _
      rw [if_neg hne, List.map_cons, encs_cons, List.drop_drop, ← List.append_assoc]
    have hcl : ((y.2.2.2.2.2.2.2.2.2.2.drop i).take (ptS (nI k))).length = min (ptS (nI k)) (y.2.2.2.2.2.2.2.2.2.2.length - i) := by rw [List.length_take, List.length_drop]
    have hl1 : (l ++ encR (rqE (nI k) y.2.2.2.2.2.1 ((y.2.2.2.2.2.2.2.2.2.2.drop i).take (ptS (nI k))))).length ≤ 210000 := by
      rw [eL2, List.length_append] at hL; omega
    refine kjZ_y rfl rfl 4 _ _ _ _ tu ?_
    refine (And.intro (by assumption) (And.intro (fun q => ?_) (fun q => ?_)))
    · exact absurd (show u.1 y.1 6 ≤ x5 from q) (by rw [k6, e5, nle (by omega) (by omega)]; omega)
    refine kjZ_y rfl rfl 10 _ _ _ _ tu ?_
    refine (And.intro (by assumption) (And.intro (Nat.le_of_ble_eq_true rfl) (And.intro (Nat.le_of_ble_eq_true rfl) (And.intro (Nat.le_of_ble_eq_true rfl) (kjY_mono tu (fun q_ u1 ty1 xu1 h_ => ?_) (k_min tu _ _))))))
    obtain ⟨rfl, rfl⟩ := h_
    intro _ _
    have em : (if x5 + x4 < u1.1 y.1 6 then x5 + x4 else u1.1 y.1 6) = nI (i + ((y.2.2.2.2.2.2.2.2.2.2.drop i).take (ptS (nI k))).length) := by
      rw [hcl, k6, e5, e4, nI_add]
      by_cases w : i + ptS (nI k) < y.2.2.2.2.2.2.2.2.2.2.length
      · rw [if_pos (nI_lt w (by omega))]; congr 1; omega
      · rw [if_neg (Int32.not_lt.mpr (nI_le (by omega) (by omega)))]; congr 1; omega
    have hea : eaS (nI k) * ((y.2.2.2.2.2.2.2.2.2.2.drop i).take (ptS (nI k))).length ≤ 1000 := by
      rw [← hpe]; exact Nat.mul_le_mul_left _ (by rw [hcl]; exact Nat.min_le_left _ _)
    have tp := kG_tellPart (Y := Y) (d := d) (σ := u1) ty1 gu hb (gj_11 hb ts cu h11) hk hs ju (i := i) (c := (y.2.2.2.2.2.2.2.2.2.2.drop i).take (ptS (nI k))) (fun j z hz => ?_) hea (by rw [hcl]; omega) x1 x5 _ e1 e5 em hl1
    · refine kjZ_y rfl rfl 1 _ _ _ _ ty1 ?_
      refine (And.intro (Nat.le_of_ble_eq_true rfl) (And.intro (Or.inl ⟨(Nat.le_of_ble_eq_true rfl), (ty1.k (by decide) rfl)⟩) (And.intro (Nat.le_of_ble_eq_true rfl) (And.intro (Nat.le_of_ble_eq_true rfl) (kjY_mono ty1 (fun q_ u2 ty2 xu2 h_ => ?_) (tp))))))
      obtain ⟨rfl, g2, j2, c2⟩ := h_
      intro _ _
      refine kjZ_y rfl rfl 5 _ _ _ _ ty2 ?_
      refine (And.intro (Nat.le_of_ble_eq_true rfl) ?_)
      exact ih (i + ptS (nI k)) _ _ u2 (by omega) (by omega) (by rw [e5, e4, nI_add]) ty2 g2 j2 (gj_ch hb ts cu c2) eL2
    · have hj := (List.getElem?_eq_some_iff.mp hz).1
      rw [List.getElem?_take_of_lt (by rw [List.length_take] at hj; omega), List.getElem?_drop] at hz
      exact hz
theorem kG_tellKey (ty : kTY σ) {P Q : List KC} {y : KC} (g : KG B σ nmm (P ++ y :: Q)) {b : Nat} (hb : b ∈ [5, 7]) (h11 : σ.2.2.1 0 11 = some b) {k : Nat} (hk : k ≤ 4) (hs : y.2.2.2.2.2.2.1 = nI k) (htm : ¬ y.2.2.2.2.2.2.2.1 = 0 → ¬ y.2.2.2.2.2.2.2.2.1 = NEV) {l : List Int32} (j : kBY σ b l ∧ σ.1 b 3 = 0) (x1 : Int32) (e1 : x1 = nI y.2.1) (hl : (l ++ encs (dkR y.2.2.2.2.2)).length ≤ 210000) :
    kjY kPP (kQQ Y) (d + 8) 34 0 (mjL0 6 [.ref 0, .int x1, .ref y.1]) [] σ (gjP B b σ nmm (P ++ y :: Q) (l ++ encs (dkR y.2.2.2.2.2))) := by
  obtain ⟨b1, b2, b3, b4, b5⟩ := J_ok b hb
  obtain ⟨y1, y2, y3⟩ := g.at_
  have kv : (σ.2.2.2.1 y.1).1 = 11 := by rw [y1]
  obtain ⟨ek, k6, k7, k8⟩ := g.kd hk hs
  have kb := ob_k ty b1
  by_cases c : k = 0
  · subst c
    have ed : dkR y.2.2.2.2.2 = [[nm 2, y.2.2.2.2.2.1, y.2.2.2.2.2.2.2.2.2.1]] ++ tmR y.2.2.2.2.2 := by unfold dkR tmR; rw [if_pos (by rw [hs]; rfl)]
    have eL : l ++ encs (dkR y.2.2.2.2.2) = l ++ hdN 3 ++ wordL (tb 9) ++ wordL y.2.2.2.2.2.1 ++ wordL y.2.2.2.2.2.2.2.2.2.1 ++ encs (tmR y.2.2.2.2.2) := by
      rw [ed, encs_app', encs_1', encR_hd, nm_tb.2.2.2.2.1]
      show l ++ (hdN 3 ++ wordsL [tb 9, _, _] ++ _) = _
      rw [wdsL_cons, wdsL_2]; simp only [List.append_assoc]
    rw [eL] at hl ⊢
    have hl2 := hl
    rw [List.length_append, List.length_append, List.length_append, List.length_append, List.length_append] at hl2
    refine kjZ_y rfl rfl 2 _ _ _ _ ty ?_
    refine kjZ_y rfl rfl 3 _ _ _ _ ty ?_
    refine (And.intro (by assumption) (And.intro (fun q => ?_) (fun q => ?_)))
    · exact absurd (show σ.1 y.1 1 = 0 from ek) q
    refine kjZ_y rfl rfl 4 _ _ _ _ ty ?_
    refine (And.intro (ty.k (by decide) rfl) (Exists.intro _ (And.intro h11 (And.intro (Nat.le_of_ble_eq_true rfl) (And.intro (Or.inl ⟨(Nat.le_of_ble_eq_true rfl), (by assumption)⟩) (And.intro (Nat.le_of_ble_eq_true rfl) (And.intro (Nat.le_of_ble_eq_true rfl) (kjY_mono ty (fun q_ u1 ty1 xu1 h_ => ?_) (g_headN (d := d + 2) ty g hb j (n := 3) (by decide) (by omega) _ rfl)))))))))
    obtain ⟨rfl, g1, j1, c1⟩ := h_
    intro _ _
    have f111 := gj_11 hb ty c1 h11
    have kb1 := ob_k ty1 b1
    refine kjZ_y rfl rfl 4 _ _ _ _ ty1 ?_
    refine (And.intro (ty1.k (by decide) rfl) (Exists.intro _ (And.intro f111 (And.intro rfl (And.intro (Nat.le_of_ble_eq_true rfl) (And.intro (Or.inl ⟨(Nat.le_of_ble_eq_true rfl), (by assumption)⟩) (And.intro (Nat.le_of_ble_eq_true rfl) (And.intro (Nat.le_of_ble_eq_true rfl) (kjY_mono ty1 (fun q_ u2 ty2 xu2 h_ => ?_) (g_text (d := d + 1) ty1 g1 hb j1 (i := 9) (by decide) (by rw [List.length_append]; omega)))))))))))
    obtain ⟨rfl, g2, j2, c2⟩ := h_
    intro _ _
    have cu2 := gj_ch hb ty c1 c2
    have f112 := gj_11 hb ty cu2 h11
    have kb2 := ob_k ty2 b1
    refine kjZ_y rfl rfl 6 _ _ _ _ ty2 ?_
    refine (And.intro (ty2.k (by decide) rfl) (And.intro (ty2.k (by decide) rfl) (Exists.intro _ (And.intro f112 (And.intro (Nat.le_of_ble_eq_true rfl) (And.intro (Or.inl ⟨(Nat.le_of_ble_eq_true rfl), (ty2.k (by decide) rfl)⟩) (And.intro (Nat.le_of_ble_eq_true rfl) (And.intro (Nat.le_of_ble_eq_true rfl) (kjY_mono ty2 (fun q_ u3 ty3 xu3 h_ => ?_) (g_word (d := d + 2) ty2 g2 hb j2 y3 _ e1 (by rw [List.length_append, List.length_append]; omega)))))))))))
    obtain ⟨rfl, g3, j3, c3⟩ := h_
    intro _ _
    have cu3 := gj_ch hb ty cu2 c3
    have f113 := gj_11 hb ty cu3 h11
    have kb3 := ob_k ty3 b1
    obtain ⟨il, sl, vs, M, T, r, hR, a1, a2, a5⟩ := g3.op
    obtain ⟨v0, k0, n0, w0, c0, e0, t0, cs0⟩ := r
    obtain ⟨d1, d2, d3, d4, d5, d6⟩ := a5
    have d2 : k0 ≤ 4 := d2
    have ek0 : k0 = 0 := (nI_eq (a := k0) (b := 0) (by omega) (by decide)).mp (d1.symm.trans hs)
    subst ek0
    have a2 : v0 = y.1 := a2
    subst a2
    have d4 : t0 = y.2.2.2.2.2.2.2.2.2.1 := d4
    have d5 : n0 = y.2.2.2.2.2.2.2.2.2.1.length := d5
    obtain ⟨rt, NT, st, ro, ⟨f1, f2, f3⟩, ⟨v1, v6, v7, v8, v4⟩, ⟨n1, n2, n3, n4, n5⟩, -, -⟩ := hR.tx ty3 g3.1.1 g3.1.2 a1
    have kv3 : (u3.2.2.2.1 y.1).1 = 11 := by rw [v1]
    have hg : ¬ u3.2.2.1 b 1 = some rt := fun z => by
      have := g3.1.1 (b, 1) (ow_b b1) (59, 7) (by decide) (by rw [z]; exact f1.symm)
      have q : ∀ b ∈ [5, 7], ¬ ((b, 1) : Nat × Nat) = (59, 7) := by decide
      exact q b hb this
    have kt : u3.2.2.2.1 rt = (21, NT) := f2
    have ew : wd (u3.1 rt) st n0 = y.2.2.2.2.2.2.2.2.2.1 := by rw [n5]; exact d4
    have hw := k_word (Y := Y) (d := d + 3) ty3 g3.1.1 b1 j3.1 kt (by omega) (a := st) (n := n0) (by omega) hg _ _ v7 v6 (by rw [ew]; exact opQ_j hb g3.1.2 _ (by rw [List.length_append, List.length_append, List.length_append]; omega))
    rw [ew] at hw
    refine kjZ_y rfl rfl 10 _ _ _ _ ty3 ?_
    refine (And.intro (ty3.k (by decide) rfl) (Exists.intro _ (And.intro f113 (And.intro (ty3.k (by decide) rfl) (And.intro (ty3.k (by decide) rfl) (Exists.intro _ (And.intro f1 (And.intro (by assumption) (And.intro (by assumption) (And.intro (Nat.le_of_ble_eq_true rfl) (And.intro (Or.inl ⟨(Nat.le_of_ble_eq_true rfl), (by assumption)⟩) (And.intro (Nat.le_of_ble_eq_true rfl) (And.intro (Nat.le_of_ble_eq_true rfl) (kjY_mono ty3 (fun q_ u4 ty4 xu4 h_ => ?_) (hw)))))))))))))))
    have q4 := h_
    intro _ _
    have q5 := g3.gj ty3 hb j3.2 q4 (by rw [List.length_append, List.length_append, List.length_append]; omega)
    obtain ⟨rfl, g4, j4, c4⟩ := q5
    refine kjZ_y rfl rfl 1 _ _ _ _ ty4 ?_
    exact kG_tell3 hb ty h11 htm x1 e1 none none none ty4 g4 j4 (gj_ch hb ty cu3 c4) hl
  · have hk' : k = 1 ∨ k = 2 ∨ k = 3 ∨ k = 4 := by omega
    have ed : dkR y.2.2.2.2.2 = (ckF (ptS (nI k)) y.2.2.2.2.2.2.2.2.2.2.length y.2.2.2.2.2.2.2.2.2.2).map (rqE (nI k) y.2.2.2.2.2.1) ++ tmR y.2.2.2.2.2 := by
      unfold dkR tmR; rw [if_neg (fun (z : y.2.2.2.2.2.2.1 = (0 : Int32)) => c ((nI_eq (a := k) (b := 0) (by omega) (by decide)).mp (hs.symm.trans z))), hs]
    have eL : l ++ encs (dkR y.2.2.2.2.2) = l ++ encs ((ckF (ptS (nI k)) y.2.2.2.2.2.2.2.2.2.2.length y.2.2.2.2.2.2.2.2.2.2).map (rqE (nI k) y.2.2.2.2.2.1)) ++ encs (tmR y.2.2.2.2.2) := by rw [ed, encs_app', List.append_assoc]
    rw [eL] at hl ⊢
    have k8 := k8 c
    have ne : ∀ a : Nat, a ≤ 4 → ¬ k = a → ¬ σ.1 y.1 1 = nI a := fun a ha z w => z ((nI_eq (by omega) (by omega)).mp (ek.symm.trans w))
    have lp : ∀ x3 x4 : Int32, x4 = nI (ptS (nI k)) → kjY kPP (kQQ Y) (d + 8) 34 48 [some (.ref 0), some (.int x1), some (.ref y.1), some (.int x3), none, none] [.int x4] σ (gjP B b σ nmm (P ++ y :: Q) (l ++ encs ((ckF (ptS (nI k)) y.2.2.2.2.2.2.2.2.2.2.length y.2.2.2.2.2.2.2.2.2.2).map (rqE (nI k) y.2.2.2.2.2.1)) ++ encs (tmR y.2.2.2.2.2))) := by
      intro x3 x4 e4
      refine kjZ_y rfl rfl 3 _ _ _ _ ty ?_
      refine (And.intro (Nat.le_of_ble_eq_true rfl) (And.intro (Nat.le_of_ble_eq_true rfl) ?_))
      refine kG_tell2 _ hb ty h11 hk' hs x1 x3 x4 e1 e4 (l ++ encs ((ckF (ptS (nI k)) y.2.2.2.2.2.2.2.2.2.2.length y.2.2.2.2.2.2.2.2.2.2).map (rqE (nI k) y.2.2.2.2.2.1))) (by rw [List.length_append] at hl; omega) (fun v x5 tv gv jv cv => ?_) y.2.2.2.2.2.2.2.2.2.2.length 0 _ l σ (by omega) (by omega) rfl ty g j Ch.rf (by rw [List.drop_zero])
      exact kG_tell3 hb ty h11 htm x1 e1 _ _ _ tv gv jv cv hl
    have l42 : ∀ v : Int32, v = (if k = 2 ∨ k = 4 then 1 else 0) → kjY kPP (kQQ Y) (d + 8) 34 42 [some (.ref 0), some (.int x1), some (.ref y.1), none, none, none] [.int v] σ (gjP B b σ nmm (P ++ y :: Q) (l ++ encs ((ckF (ptS (nI k)) y.2.2.2.2.2.2.2.2.2.2.length y.2.2.2.2.2.2.2.2.2.2).map (rqE (nI k) y.2.2.2.2.2.1)) ++ encs (tmR y.2.2.2.2.2))) := by
      intro v hv
      have hp : ptS (nI k) = if k = 2 ∨ k = 4 then 500 else 1000 := by rcases hk' with z | z | z | z <;> rw [z] <;> decide
      refine kjZ_y rfl rfl 3 _ _ _ _ ty ?_
      refine (And.intro (Nat.le_of_ble_eq_true rfl) (And.intro (fun q => ?_) (fun q => ?_)))
      · have q : v = 0 := q
        refine kjZ_y rfl rfl 1 _ _ _ _ ty ?_
        refine lp v _ ?_
        rw [hp, if_neg (fun w => by rw [if_pos w] at hv; rw [hv] at q; exact absurd q (by decide))]; rfl
      · have q : ¬ v = 0 := q
        refine kjZ_y rfl rfl 2 _ _ _ _ ty ?_
        refine lp v _ ?_
        have w : k = 2 ∨ k = 4 := Decidable.byContradiction (fun w => q (by rw [hv, if_neg w]))
        rw [hp, if_pos w]; rfl
    refine kjZ_y rfl rfl 2 _ _ _ _ ty ?_
    refine kjZ_y rfl rfl 3 _ _ _ _ ty ?_
    refine (And.intro (by assumption) (And.intro (fun q => ?_) (fun q => ?_)))
    rotate_left
    · exact absurd (Decidable.not_not.mp q) (ne 0 (by decide) c)
    by_cases k2 : k = 2
    · refine kjZ_y rfl rfl 4 _ _ _ _ ty ?_
      refine (And.intro (by assumption) (And.intro (fun q => ?_) (fun q => ?_)))
      rotate_left
      · exact absurd (show σ.1 y.1 1 = Int32.ofInt 2 by rw [ek, k2]; rfl) q
      refine kjZ_y rfl rfl 2 _ _ _ _ ty ?_
      exact l42 _ (by rw [if_pos (Or.inl k2)]; rfl)
    · refine kjZ_y rfl rfl 4 _ _ _ _ ty ?_
      refine (And.intro (by assumption) (And.intro (fun q => ?_) (fun q => ?_)))
      · exact absurd (show σ.1 y.1 1 = Int32.ofInt 2 from q) (ne 2 (by decide) k2)
      by_cases k4 : k = 4
      · refine kjZ_y rfl rfl 4 _ _ _ _ ty ?_
        refine (And.intro (by assumption) (And.intro (fun q2 => ?_) (fun q2 => ?_)))
        · exact absurd (show σ.1 y.1 1 = Int32.ofInt 4 by rw [ek, k4]; rfl) q2
        refine kjZ_y rfl rfl 2 _ _ _ _ ty ?_
        exact l42 _ (by rw [if_pos (Or.inr k4)]; rfl)
      · refine kjZ_y rfl rfl 4 _ _ _ _ ty ?_
        refine (And.intro (by assumption) (And.intro (fun q2 => ?_) (fun q2 => ?_)))
        rotate_left
        · exact absurd (show σ.1 y.1 1 = Int32.ofInt 4 from Decidable.not_not.mp q2) (ne 4 (by decide) k4)
        refine kjZ_y rfl rfl 1 _ _ _ _ ty ?_
        exact l42 _ (by rw [if_neg (fun w => w.elim k2 k4)]; rfl)
end KTELLK
