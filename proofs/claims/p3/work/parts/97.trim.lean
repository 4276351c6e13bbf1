/-! LTRIM, LSET and LINDEX. -/
section TRIM
variable {Y : Nat → MethodName × ByteArray} {d : Nat}
theorem W_last {σ : mjS} {ws : List (List Int32)} {P Q : List KR} {y : KR} {l : List Int32} (h : Wd σ ws (P ++ y :: Q) l) {x : Int32} (ex : x = nI y.1) (hn : y.2.2.2.2.2.2 ≠ []) : ∃ R z, y.2.2.2.2.2.2 = R ++ [z] ∧ σ.2.2.1 r_kTail x.toNatClampNeg = nI z.1 := by
  obtain ⟨kT, -, -, -⟩ := W_tail h ex
  rcases List.eq_nil_or_concat y.2.2.2.2.2.2 with hE | ⟨R, z, hE⟩
  · exact absurd hE hn
  · rw [List.concat_eq_append] at hE
    refine ⟨R, z, hE, ?_⟩
    rw [kT, hE, ids_app]; exact lst_snoc _ _ _
theorem W_first {σ : mjS} {ws : List (List Int32)} {P Q : List KR} {y : KR} {l : List Int32} (h : Wd σ ws (P ++ y :: Q) l) {x : Int32} (ex : x = nI y.1) (hn : y.2.2.2.2.2.2 ≠ []) : ∃ z R, y.2.2.2.2.2.2 = z :: R ∧ σ.2.2.1 r_kHead x.toNatClampNeg = nI z.1 := by
  obtain ⟨-, kH, -, -⟩ := W_tail h ex
  cases hE : y.2.2.2.2.2.2 with
  | nil => exact absurd hE hn
  | cons z R => rw [hE] at kH; exact ⟨z, R, rfl, kH⟩
theorem st1_with {y : KR} {es : List ER} {g : List AE → List AE} (h : es.map (fun z => z.2) = g (y.2.2.2.2.2.2.map (fun z => z.2))) : st1 (withE y es) = esF g (st1 y) := by
  show (y.2.1, y.2.2.1, y.2.2.2.1, tmN y.2.2.2.1 y.2.2.2.2.1, y.2.2.2.2.2.1, es.map (fun z => z.2)) = (y.2.1, y.2.2.1, y.2.2.2.1, tmN y.2.2.2.1 y.2.2.2.2.1, y.2.2.2.2.2.1, g (y.2.2.2.2.2.2.map (fun z => z.2)))
  rw [h]
set_option maxRecDepth 100000 in
theorem c_trim_a (K : mjK) {ws : List (List Int32)} {l : List Int32} {P Q : List KR} (k t : Nat) (x1 x2 : Int32) (e1 : x1 = nI k) (ht : t ≤ 20000) : ∀ (j : Nat) (σ : mjS) (y : KR) (x3 : Int32), x3 = nI (t + j) → j ≤ 10000 → σ.1 f_upTo = nI t → y.1 = k → mjTY σ → Wd σ ws (P ++ y :: Q) l → j ≤ y.2.2.2.2.2.2.length →
    (∀ u y' x3, mjTY u → Fr kF kH σ u → y'.1 = k → Wd u ws (P ++ y' :: Q) l → st1 y' = esF (popE 42 j) (st1 y) → mjY mjPP (mjQQ Y) (d + 1) 113 37 [some (.ref 0), some (.int x1), some (.int x2), some (.int x3)] [] u K) →
    mjY mjPP (mjQQ Y) (d + 1) 113 24 [some (.ref 0), some (.int x1), some (.int x2), some (.int x3)] [] σ K := by
  intro j
  induction j with
  | zero =>
    intro σ y x3 e3 h0 eu hy ty h hj hK
    refine mjZ_y rfl rfl 4 _ _ _ _ ty ?_
    refine (And.intro rfl (And.intro (fun q => ?_) (fun q => ?_)))
    · exact hK σ y _ ty Fr.rf hy h rfl
    · exact absurd (show x3 ≤ σ.1 f_upTo by rw [e3, eu]; exact nI_le (by omega) (by omega)) q
  | succ j ih =>
    intro σ y x3 e3 h0 eu hy ty h hj hK
    have e1y : x1 = nI y.1 := by rw [hy]; exact e1
    obtain ⟨-, -, -, vk⟩ := W_tail h e1y
    have ne : y.2.2.2.2.2.2 ≠ [] := fun z => by rw [z] at hj; exact absurd hj (Nat.not_succ_le_zero j)
    obtain ⟨R, z, hE, eT⟩ := W_last h e1y ne
    refine mjZ_y rfl rfl 4 _ _ _ _ ty ?_
    refine (And.intro rfl (And.intro (fun q => ?_) (fun q => ?_)))
    · exact absurd (show x3 ≤ σ.1 f_upTo from q) (by rw [e3, eu]; exact nI_ge (by omega) (by omega))
    · refine mjZ_y rfl rfl 7 _ _ _ _ ty ?_
      refine (And.intro rfl (And.intro rfl (And.intro vk (And.intro (Nat.le_of_ble_eq_true rfl) (And.intro rfl (And.intro (Nat.le_of_ble_eq_true rfl) (And.intro (Nat.le_of_ble_eq_true rfl) (mjY_mono ty (fun q_ u1 ty1 h_ => ?_) (w_unlink h ty (E1 := R) (E2 := []) hE e1y eT)))))))))
      obtain ⟨rfl, h2, f2⟩ := h_
      intro _
      rw [List.append_nil] at h2
      refine mjZ_y rfl rfl 2 _ _ _ _ ty1 ?_
      refine ih u1 (withE y R) _ (by rw [e3]; exact pk_m1 (t + j)) (by omega) (by rw [f2.1 _ (by decide)]; exact eu) hy ty1 h2 (by show j ≤ R.length; rw [hE, List.length_append, List.length_singleton] at hj; omega) (fun u y' x3 tu fu hy' hu es => hK u y' x3 tu (f2.tr fu) hy' hu ?_)
      rw [es, st1_with (g := fun es => es.dropLast) (by rw [hE, List.map_append]; show _ = (_ ++ [z.2]).dropLast; rw [List.dropLast_concat])]; rfl
set_option maxRecDepth 100000 in
theorem c_trim_b (K : mjK) {ws : List (List Int32)} {l : List Int32} {P Q : List KR} (k f : Nat) (x1 x2 : Int32) (e1 : x1 = nI k) (hf : f ≤ 20000) : ∀ (j i : Nat) (σ : mjS) (y : KR) (x3 : Int32), x3 = nI i → i + j = f → σ.1 f_from = nI f → y.1 = k → mjTY σ → Wd σ ws (P ++ y :: Q) l → j ≤ y.2.2.2.2.2.2.length →
    (∀ u y' x3, mjTY u → Fr kF kH σ u → y'.1 = k → Wd u ws (P ++ y' :: Q) l → st1 y' = esF (popE 41 j) (st1 y) → mjY mjPP (mjQQ Y) (d + 1) 113 57 [some (.ref 0), some (.int x1), some (.int x2), some (.int x3)] [] u K) →
    mjY mjPP (mjQQ Y) (d + 1) 113 39 [some (.ref 0), some (.int x1), some (.int x2), some (.int x3)] [] σ K := by
  intro j
  induction j with
  | zero =>
    intro i σ y x3 e3 h0 eu hy ty h hj hK
    refine mjZ_y rfl rfl 4 _ _ _ _ ty ?_
    refine (And.intro rfl (And.intro (fun q => ?_) (fun q => ?_)))
    · exact hK σ y _ ty Fr.rf hy h rfl
    · exact absurd (show σ.1 f_from ≤ x3 by rw [e3, eu]; exact nI_le (by omega) (by omega)) q
  | succ j ih =>
    intro i σ y x3 e3 h0 eu hy ty h hj hK
    have e1y : x1 = nI y.1 := by rw [hy]; exact e1
    obtain ⟨-, -, kM, vk⟩ := W_tail h e1y
    have hle := W_len h
    have ne : y.2.2.2.2.2.2 ≠ [] := fun z => by rw [z] at hj; exact absurd hj (Nat.not_succ_le_zero j)
    obtain ⟨z, R, hE, eH⟩ := W_first h e1y ne
    refine mjZ_y rfl rfl 4 _ _ _ _ ty ?_
    refine (And.intro rfl (And.intro (fun q => ?_) (fun q => ?_)))
    · exact absurd (show σ.1 f_from ≤ x3 from q) (by rw [e3, eu]; exact nI_ge (by omega) (by omega))
    · refine mjZ_y rfl rfl 5 _ _ _ _ ty ?_
      refine (And.intro rfl (And.intro rfl (And.intro vk (And.intro (fun c => ?_) (fun c => ?_)))))
      · exact absurd (show σ.2.2.1 r_kMany x1.toNatClampNeg ≤ nI 0 from c) (by rw [kM]; exact nI_ge (by omega) (by omega))
      · refine mjZ_y rfl rfl 7 _ _ _ _ ty ?_
        refine (And.intro rfl (And.intro rfl (And.intro vk (And.intro (Nat.le_of_ble_eq_true rfl) (And.intro rfl (And.intro (Nat.le_of_ble_eq_true rfl) (And.intro (Nat.le_of_ble_eq_true rfl) (mjY_mono ty (fun q_ u1 ty1 h_ => ?_) (w_unlink h ty (E1 := []) (E2 := R) hE e1y eH)))))))))
        obtain ⟨rfl, h2, f2⟩ := h_
        intro _
        have h2 : Wd u1 ws (P ++ withE y R :: Q) l := h2
        refine mjZ_y rfl rfl 2 _ _ _ _ ty1 ?_
        refine ih (i + 1) u1 (withE y R) _ (by rw [e3]; exact nI_1 i) (by omega) (by rw [f2.1 _ (by decide)]; exact eu) hy ty1 h2 (by show j ≤ R.length; rw [hE, List.length_cons] at hj; omega) (fun u y' x3 tu fu hy' hu es => hK u y' x3 tu (f2.tr fu) hy' hu ?_)
        rw [es, st1_with (g := fun es => es.tail) (by rw [hE]; rfl)]; rfl
def trF (A : List AK) (w : List Int32) (i j : Int64) : Option (List AK) := match kyI A w with
  | none => none
  | some p => if (strF i j (mnA A w)).2 - (strF i j (mnA A w)).1 < mnA A w then some (stlA A p (fun es => popE 41 (strF i j (mnA A w)).1 (popE 42 (mnA A w - (strF i j (mnA A w)).2) es))) else none
theorem popE_len {α : Type} (i : Nat) : ∀ (j : Nat) (es : List α), (popE i j es).length = es.length - j := by
  intro j
  induction j with
  | zero => intro es; rfl
  | succ j ih =>
    intro es
    show (popE i j _).length = _
    rw [ih]
    by_cases c : i = 42
    · rw [if_pos c, List.length_dropLast]; omega
    · rw [if_neg c, List.length_tail]; omega
set_option maxRecDepth 100000 in
theorem r_trim {σ : mjS} {ws : List (List Int32)} {ks : List KR} {l : List Int32} (h : Wd σ ws ks l) (ty : mjTY σ) {w : List Int32} (h1 : ws[1]? = some w) (i j : Int64) (ei : σ.2.1 f_n1 = i) (ej : σ.2.1 f_n2 = j) (hs : l.length + 132 + sz ws ≤ 420000) :
    mjY mjPP (mjQQ Y) (d + 6) 113 0 (mjL0 4 [.ref 0]) [] σ (cmdK σ ws ks l 49 (trF (strip ks) w i j)) := by
  have hlen := (List.getElem?_eq_some_iff.mp h1).1
  have hm := mnA_le h w
  have sle := strF_le i j (mnA (strip ks) w) (by omega)
  refine mjZ_y rfl rfl 3 _ _ _ _ ty ?_
  refine (And.intro (Nat.le_of_ble_eq_true rfl) (And.intro rfl (And.intro (Nat.le_of_ble_eq_true rfl) (And.intro (Nat.le_of_ble_eq_true rfl) (mjY_mono ty (fun q_ u1 ty1 h_ => ?_) (w_key h ty h1 (x := Int32.ofInt 1) rfl))))))
  obtain ⟨rfl, rfl⟩ := h_
  intro _
  refine mjZ_y rfl rfl 4 _ _ _ _ ty1 ?_
  refine (And.intro (Nat.le_of_ble_eq_true rfl) (And.intro (Nat.le_of_ble_eq_true rfl) (And.intro rfl (And.intro (Nat.le_of_ble_eq_true rfl) (And.intro (Nat.le_of_ble_eq_true rfl) (mjY_mono ty1 (fun q_ u2 ty2 h_ => ?_) (w_many h ty1 (w := w) rfl)))))))
  obtain ⟨rfl, rfl⟩ := h_
  intro _
  have hc := c_stretch (Y := Y) (d := d + 5) ty1 i j (mnA (strip ks) w) (by omega) rfl
  rw [← ei, ← ej] at hc
  refine mjZ_y rfl rfl 8 _ _ _ _ ty1 ?_
  refine (And.intro (Nat.le_of_ble_eq_true rfl) (And.intro rfl (And.intro rfl (And.intro (Nat.le_of_ble_eq_true rfl) (And.intro rfl (And.intro (Nat.le_of_ble_eq_true rfl) (And.intro (Nat.le_of_ble_eq_true rfl) (mjY_mono ty1 (fun q_ u3 ty3 h_ => ?_) (hc)))))))))
  obtain ⟨rfl, f3, e3, e4⟩ := h_
  intro _
  rw [ei, ej] at e3 e4
  have h3 := h.fr f3 (by decide) (by decide)
  have fc : Fr cF cH u2 u3 := f3.up (by decide) (by decide)
  have es : u3.1 f_upTo - u3.1 f_from = nI ((strF i j (mnA (strip ks) w)).2 - (strF i j (mnA (strip ks) w)).1) := by rw [e3, e4]; exact pk_sub sle.1
  have fin : ∀ (u : mjS) (ks' : List KR) (l' : List Int32) (o : Option (List AK)) (lv : mjL), mjTY u → Fr cF cH u2 u → Wd u ws ks' l' → (∀ v, Fr cF cH u2 v → Wd v ws ks' l' → cmdK u2 ws ks l 49 o none v) → mjY mjPP (mjQQ Y) (d + 6) 113 63 (some (.ref 0) :: lv) [] u (cmdK u2 ws ks l 49 o) := by
    intro u ks' l' o lv tu fu hu hv
    refine mjZ_y rfl rfl 2 _ _ _ _ tu ?_
    refine (And.intro (Nat.le_of_ble_eq_true rfl) (And.intro rfl (And.intro (Nat.le_of_ble_eq_true rfl) (And.intro (Nat.le_of_ble_eq_true rfl) (mjY_mono tu (fun q_ u5 ty5 h_ => ?_) (w_ok hu tu))))))
    obtain ⟨rfl, h5, f5⟩ := h_
    intro _
    refine mjZ_y rfl rfl 1 _ _ _ _ ty5 ?_
    refine And.intro rfl (And.intro rfl ?_)
    exact hv u5 (fu.tr f5.c) h5
  refine mjZ_y rfl rfl 7 _ _ _ _ ty3 ?_
  refine (And.intro rfl (And.intro rfl (And.intro (fun c => ?_) (fun c => ?_))))
  · have c : ¬ (strF i j (mnA (strip ks) w)).2 - (strF i j (mnA (strip ks) w)).1 < mnA (strip ks) w := by
      have c : nI (mnA (strip ks) w) ≤ u3.1 f_upTo - u3.1 f_from := c
      rw [es] at c
      have := (nI_leI (by omega) (by omega)).mp c; omega
    have eo : trF (strip ks) w i j = none := by
      unfold trF
      cases kyI (strip ks) w with
      | none => rfl
      | some p => exact if_neg c
    rw [eo]
    exact fin u3 ks l none _ ty3 fc h3 (fun v fv hv => ⟨rfl, fv, ks, hv, rfl⟩)
  · have c : (strF i j (mnA (strip ks) w)).2 - (strF i j (mnA (strip ks) w)).1 < mnA (strip ks) w := by
      refine Nat.lt_of_not_le (fun z => c ?_)
      show nI (mnA (strip ks) w) ≤ u3.1 f_upTo - u3.1 f_from
      rw [es]; exact nI_le z (by omega)
    have kn : ¬ kyI (strip ks) w = none := by
      intro z
      unfold mnA at c; rw [z] at c; exact absurd c (Nat.not_lt_zero _)
    obtain ⟨P, y, Q, g0, g1, g2, -⟩ := ky_some kn
    have e1 : kyS ks w = nI y.1 := g2
    generalize kyS ks w = x1 at e1
    subst g0
    have em := mnA_at g1
    have eo : trF (strip (P ++ y :: Q)) w i j = some (stlA (strip (P ++ y :: Q)) P.length (fun es => popE 41 (strF i j (mnA (strip (P ++ y :: Q)) w)).1 (popE 42 (mnA (strip (P ++ y :: Q)) w - (strF i j (mnA (strip (P ++ y :: Q)) w)).2) es))) := by
      unfold trF; rw [g1]; exact if_pos c
    rw [eo]
    generalize mnA (strip (P ++ y :: Q)) w = n at *
    generalize (strF i j n).1 = fr at *
    generalize (strF i j n).2 = tt at *
    refine mjZ_y rfl rfl 2 _ _ _ _ ty3 ?_
    refine (And.intro (Nat.le_of_ble_eq_true rfl) ?_)
    refine c_trim_a _ y.1 tt x1 _ e1 (by omega) (n - tt) u3 y _ (by congr 1; omega) (by omega) e4 rfl ty3 h3 (by omega) (fun u4 y4 x3 ty4 f4 hy4 h4 es4 => ?_)
    have el4 : y4.2.2.2.2.2.2.length = tt := by
      have e : (st1 y4).2.2.2.2.2.length = (popE 42 (n - tt) (st1 y).2.2.2.2.2).length := by rw [es4]; rfl
      rw [popE_len] at e
      have e' : (y4.2.2.2.2.2.2.map (fun z => z.2)).length = (y.2.2.2.2.2.2.map (fun z => z.2)).length - (n - tt) := e
      rw [List.length_map, List.length_map] at e'; omega
    refine mjZ_y rfl rfl 2 _ _ _ _ ty4 ?_
    refine (And.intro (Nat.le_of_ble_eq_true rfl) ?_)
    refine c_trim_b _ y.1 fr x1 _ e1 (by omega) fr 0 u4 y4 _ rfl (Nat.zero_add _) (by rw [f4.1 _ (by decide)]; exact e3) hy4 ty4 h4 (by omega) (fun u5 y5 x3 ty5 f5 hy5 h5 es5 => ?_)
    have es : st1 y5 = esF (fun es => popE 41 fr (popE 42 (n - tt) es)) (st1 y) := by rw [es5, es4]; rfl
    have hl5 := W_len h5
    have fa := (fc.tr f4.k).tr f5.k
    refine mjZ_y rfl rfl 3 _ _ _ _ ty5 ?_
    refine (And.intro (Nat.le_of_ble_eq_true rfl) (And.intro rfl (And.intro (Nat.le_of_ble_eq_true rfl) (And.intro (Nat.le_of_ble_eq_true rfl) (mjY_mono ty5 (fun q_ u6 ty6 h_ => ?_) (w_settle h5 ty5 (show x1 = nI y5.1 by rw [hy5]; exact e1) (by omega)))))))
    obtain ⟨rfl, f6, h6⟩ := h_
    intro _
    have fb := fa.tr f6.k1
    rcases h6 with ⟨z, h6⟩ | ⟨z, h6⟩
    · refine mjZ_y rfl rfl 3 _ _ _ _ ty6 ?_
      refine (And.intro (Nat.le_of_ble_eq_true rfl) (And.intro rfl (And.intro (Nat.le_of_ble_eq_true rfl) (And.intro (Nat.le_of_ble_eq_true rfl) (mjY_mono ty6 (fun q_ u7 ty7 h_ => ?_) (w_noteAll h6 ty6 (by omega) 49 rfl (by decide) hs))))))
      obtain ⟨rfl, h7, f7⟩ := h_
      intro _
      rw [ntA_fr fb] at h7
      exact fin u7 _ _ (some _) _ ty7 (fb.tr f7.n) h7 (fun v fv hv => ⟨rfl, fv, _, hv, stl_nil es z⟩)
    · refine mjZ_y rfl rfl 3 _ _ _ _ ty6 ?_
      refine (And.intro (Nat.le_of_ble_eq_true rfl) (And.intro rfl (And.intro (Nat.le_of_ble_eq_true rfl) (And.intro (Nat.le_of_ble_eq_true rfl) (mjY_mono ty6 (fun q_ u7 ty7 h_ => ?_) (w_noteAll h6 ty6 (by omega) 49 rfl (by decide) hs))))))
      obtain ⟨rfl, h7, f7⟩ := h_
      intro _
      rw [ntA_fr fb] at h7
      exact fin u7 _ _ (some _) _ ty7 (fb.tr f7.n) h7 (fun v fv hv => ⟨rfl, fv, _, hv, stl_cons es z⟩)
end TRIM
