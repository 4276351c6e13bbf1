/-! LPOP and RPOP; many, at, stretch. -/
section POP
variable {Y : Nat → MethodName × ByteArray} {d : Nat}
def popE {α : Type} (i : Nat) : Nat → List α → List α
  | 0, es => es
  | j + 1, es => popE i j (if i = 42 then es.dropLast else es.tail)
theorem popE_map {α β : Type} (f : α → β) (i : Nat) : ∀ (j : Nat) (es : List α), (popE i j es).map f = popE i j (es.map f) := by
  intro j
  induction j with
  | zero => intro es; rfl
  | succ j ih =>
    intro es
    show (popE i j _).map f = popE i j _
    rw [ih]
    congr 1
    by_cases c : i = 42
    · rw [if_pos c, if_pos c, List.map_dropLast]
    · rw [if_neg c, if_neg c, List.map_tail]
def stlA (A : List AK) (p : Nat) (g : List AE → List AE) : List AK := match A[p]? with
  | some a => if g a.2.2.2.2.2 = [] then rmA A p else upA A p (esF g)
  | none => A
theorem stl_nil {P Q : List KR} {y y' : KR} {g : List AE → List AE} (h : st1 y' = esF g (st1 y)) (hn : y'.2.2.2.2.2.2 = []) : strip (P ++ Q) = stlA (strip (P ++ y :: Q)) P.length g := by
  unfold stlA
  rw [strip_gt]
  have e : g (st1 y).2.2.2.2.2 = [] := by
    have e1 : (st1 y').2.2.2.2.2 = (esF g (st1 y)).2.2.2.2.2 := by rw [h]
    have e2 : (st1 y').2.2.2.2.2 = [] := by show y'.2.2.2.2.2.2.map _ = []; rw [hn]; rfl
    exact e1.symm.trans e2
  show strip (P ++ Q) = if g (st1 y).2.2.2.2.2 = [] then _ else _
  rw [if_pos e]; exact strip_rm
theorem stl_cons {P Q : List KR} {y y' : KR} {g : List AE → List AE} (h : st1 y' = esF g (st1 y)) (hn : y'.2.2.2.2.2.2 ≠ []) : strip (P ++ y' :: Q) = stlA (strip (P ++ y :: Q)) P.length g := by
  unfold stlA
  rw [strip_gt]
  have e : ¬ g (st1 y).2.2.2.2.2 = [] := by
    have e1 : (st1 y').2.2.2.2.2 = (esF g (st1 y)).2.2.2.2.2 := by rw [h]
    have e2 : (st1 y').2.2.2.2.2 ≠ [] := by
      intro z
      exact hn (List.map_eq_nil_iff.mp z)
    exact fun z => e2 (e1.trans z)
  show strip (P ++ y' :: Q) = if g (st1 y).2.2.2.2.2 = [] then _ else _
  rw [if_neg e]; exact strip_up h
set_option maxRecDepth 100000 in
theorem c_pop_loop (K : mjK) (i1 : Nat) (hi : i1 < 128) (x1 : Int32) (e1 : x1 = nI i1) {ws : List (List Int32)} {l : List Int32} {P Q : List KR} (k n : Nat) (hn : n < 2 ^ 30) (x2 x3 : Int32) (e2 : x2 = nI k) (e3 : x3 = nI n) : ∀ (j i : Nat) (σ : mjS) (y : KR) (x4 : Int32) (l5 : Option Value), i + j = n → x4 = nI i → y.1 = k → mjTY σ → Wd σ ws (P ++ y :: Q) l → j ≤ y.2.2.2.2.2.2.length →
    (∀ u y' x4 l5, mjTY u → Fr cF cH σ u → y'.1 = k → Wd u ws (P ++ y' :: Q) l → st1 y' = esF (popE i1 j) (st1 y) → mjY mjPP (mjQQ Y) (d + 3) 105 77 [some (.ref 0), some (.int x1), some (.int x2), some (.int x3), some (.int x4), l5] [] u K) →
    mjY mjPP (mjQQ Y) (d + 3) 105 43 [some (.ref 0), some (.int x1), some (.int x2), some (.int x3), some (.int x4), l5] [] σ K := by
  intro j
  induction j with
  | zero =>
    intro i σ y x4 l5 hi e4 hy ty h hj hK
    refine mjZ_y rfl rfl 3 _ _ _ _ ty ?_
    refine And.intro (fun q => ?_) (fun q => ?_)
    · exact hK σ y _ _ ty Fr.rf hy h rfl
    · exact absurd (show x3 ≤ x4 by rw [e3, e4]; exact nI_le (by omega) (by omega)) q
  | succ j ih =>
    intro i σ y x4 l5 hi4 e4 hy ty h hj hK
    have e2y : x2 = nI y.1 := by rw [hy]; exact e2
    obtain ⟨kT, kHd, kM, vk⟩ := W_tail h e2y
    have nn : ∀ c : Nat, c < 128 → ((¬ x1 = nI c) ↔ ¬ i1 = c) := fun c hc => by rw [e1, nI_eq (by omega) (by omega)]
    have go : ∀ (x5 : Int32) (E1 E2 : List ER) (z : ER), y.2.2.2.2.2.2 = E1 ++ z :: E2 → x5 = nI z.1 → E1 ++ E2 = (if i1 = 42 then y.2.2.2.2.2.2.dropLast else y.2.2.2.2.2.2.tail) → mjY mjPP (mjQQ Y) (d + 3) 105 59 [some (.ref 0), some (.int x1), some (.int x2), some (.int x3), some (.int x4), some (.int x5)] [] σ K := by
      intro x5 E1 E2 z hE e5 hm
      obtain ⟨hs, hh, hz⟩ := h.eid (y := z) (by rw [hE]; exact List.mem_append_right _ List.mem_cons_self)
      have v5 : vp_in x5 10000 := by rw [e5]; exact vp_in_nI hz.1 (by decide)
      refine mjZ_y rfl rfl 12 _ _ _ _ ty ?_
      refine (And.intro rfl (And.intro rfl (And.intro rfl (And.intro v5 (And.intro rfl (And.intro rfl (And.intro v5 (And.intro (Nat.le_of_ble_eq_true rfl) (And.intro rfl (And.intro (Nat.le_of_ble_eq_true rfl) (And.intro (Nat.le_of_ble_eq_true rfl) (mjY_mono ty (fun q_ u1 ty1 h_ => ?_) (w_wordR h ty hz.2.1 hh (by have := hz.1; omega) e5)))))))))))))
      obtain ⟨rfl, h2, f2⟩ := h_
      intro _
      refine mjZ_y rfl rfl 4 _ _ _ _ ty1 ?_
      refine (And.intro (Nat.le_of_ble_eq_true rfl) (And.intro rfl (And.intro (Nat.le_of_ble_eq_true rfl) (And.intro (Nat.le_of_ble_eq_true rfl) (mjY_mono ty1 (fun q_ u2 ty2 h_ => ?_) (w_unlink h2 ty1 hE e2y e5))))))
      obtain ⟨rfl, h3, f3⟩ := h_
      intro _
      refine mjZ_y rfl rfl 2 _ _ _ _ ty2 ?_
      have el : (E1 ++ E2).length + 1 = y.2.2.2.2.2.2.length := by rw [hE, List.length_append, List.length_append, List.length_cons]; omega
      refine ih (i + 1) u2 (withE y (E1 ++ E2)) _ _ (by omega) (by rw [e4]; exact nI_1 i) hy ty2 h3 (by show j ≤ (E1 ++ E2).length; omega) (fun u y' x4 l5 tu fu hy' hu eu => hK u y' x4 l5 tu ((f2.c.tr f3.k).tr fu) hy' hu ?_)
      rw [eu]
      show (y.2.1, y.2.2.1, y.2.2.2.1, tmN y.2.2.2.1 y.2.2.2.2.1, y.2.2.2.2.2.1, popE i1 j ((E1 ++ E2).map (fun z => z.2))) = (y.2.1, y.2.2.1, y.2.2.2.1, tmN y.2.2.2.1 y.2.2.2.2.1, y.2.2.2.2.2.1, popE i1 (j + 1) (y.2.2.2.2.2.2.map (fun z => z.2)))
      rw [← popE_map, ← popE_map, hm]; rfl
    have ne : y.2.2.2.2.2.2 ≠ [] := fun z => by rw [z] at hj; exact absurd hj (Nat.not_succ_le_zero j)
    refine mjZ_y rfl rfl 3 _ _ _ _ ty ?_
    refine And.intro (fun q => ?_) (fun q => ?_)
    · exact absurd (show x3 ≤ x4 from q) (by rw [e3, e4]; exact nI_ge (by omega) (by omega))
    · refine mjZ_y rfl rfl 8 _ _ _ _ ty ?_
      refine (And.intro rfl (And.intro rfl (And.intro vk (And.intro (Nat.le_of_ble_eq_true rfl) (And.intro (fun c => ?_) (fun c => ?_))))))
      · have c := (nn 42 (by decide)).mp c
        cases hE : y.2.2.2.2.2.2 with
        | nil => exact absurd hE ne
        | cons z r =>
          rw [hE] at kHd
          exact go _ [] r z hE kHd (by rw [if_neg c, hE]; rfl)
      · have c : i1 = 42 := Decidable.of_not_not (fun z => c ((nn 42 (by decide)).mpr z))
        refine mjZ_y rfl rfl 5 _ _ _ _ ty ?_
        refine (And.intro rfl (And.intro rfl (And.intro vk (And.intro (Nat.le_of_ble_eq_true rfl) ?_))))
        rcases List.eq_nil_or_concat y.2.2.2.2.2.2 with hE | ⟨R, z, hE⟩
        · exact absurd hE ne
        · rw [List.concat_eq_append] at hE
          rw [hE, ids_app] at kT
          exact go _ R [] z hE (kT.trans (lst_snoc _ _ _)) (by rw [if_pos c, hE, List.dropLast_concat, List.append_nil])
def popF (A : List AK) (w : List Int32) (i N : Nat) : Option (List AK) := match kyI A w with
  | none => none
  | some p => (match A[p]? with
    | some a => if min N a.2.2.2.2.2.length = 0 then none else some (stlA A p (popE i (min N a.2.2.2.2.2.length)))
    | none => none)
set_option maxRecDepth 100000 in
theorem r_pop {σ : mjS} {ws : List (List Int32)} {ks : List KR} {l : List Int32} (h : Wd σ ws ks l) (ty : mjTY σ) (i1 : Nat) (hi : i1 < 128) {x1 : Int32} (e1 : x1 = nI i1) {w : List Int32} (h1 : ws[1]? = some w) (N : Nat) (hN : N < 2 ^ 63) (en : σ.2.1 f_n1 = lN N) (hs : l.length + 132 + sz ws ≤ 420000) :
    mjY mjPP (mjQQ Y) (d + 6) 105 0 (mjL0 6 [.ref 0, .int x1]) [] σ (cmdK σ ws ks l i1 (popF (strip ks) w i1 N)) := by
  have hlen := (List.getElem?_eq_some_iff.mp h1).1
  refine mjZ_y rfl rfl 3 _ _ _ _ ty ?_
  refine (And.intro (Nat.le_of_ble_eq_true rfl) (And.intro rfl (And.intro (Nat.le_of_ble_eq_true rfl) (And.intro (Nat.le_of_ble_eq_true rfl) (mjY_mono ty (fun q_ u1 ty1 h_ => ?_) (w_key h ty h1 (x := Int32.ofInt 1) rfl))))))
  obtain ⟨rfl, rfl⟩ := h_
  intro _
  refine mjZ_y rfl rfl 3 _ _ _ _ ty1 ?_
  refine (And.intro (Nat.le_of_ble_eq_true rfl) (And.intro (fun c => ?_) (fun c => ?_)))
  · have c := (ky_ge h w).1.mp c
    obtain ⟨P, y, Q, g0, g1, g2, -⟩ := ky_some c
    have e2 : kyS ks w = nI y.1 := g2
    generalize kyS ks w = x2 at e2
    subst g0
    obtain ⟨kT, kHd, kM, vk⟩ := W_tail h e2
    have hle := W_len h
    have ea : (strip (P ++ y :: Q))[P.length]? = some (st1 y) := strip_gt
    have el : (st1 y).2.2.2.2.2.length = y.2.2.2.2.2.2.length := by show (y.2.2.2.2.2.2.map _).length = _; rw [List.length_map]
    have eo : popF (strip (P ++ y :: Q)) w i1 N = if min N y.2.2.2.2.2.2.length = 0 then none else some (stlA (strip (P ++ y :: Q)) P.length (popE i1 (min N y.2.2.2.2.2.2.length))) := by
      unfold popF; rw [g1]; show (match (strip (P ++ y :: Q))[P.length]? with | some a => if min N a.2.2.2.2.2.length = 0 then none else some (stlA (strip (P ++ y :: Q)) P.length (popE i1 (min N a.2.2.2.2.2.length))) | none => none) = _
      rw [ea]; show (if min N (st1 y).2.2.2.2.2.length = 0 then none else some (stlA (strip (P ++ y :: Q)) P.length (popE i1 (min N (st1 y).2.2.2.2.2.length)))) = _
      rw [el]
    rw [eo]
    -- from the row on
    have go2 : ∀ (x3 : Int32) (u : mjS), mjTY u → oO u1 u → Wd u ws (P ++ y :: Q) l → x3 = nI (min N y.2.2.2.2.2.2.length) → mjY mjPP (mjQQ Y) (d + 6) 105 41 [some (.ref 0), some (.int x1), some (.int x2), some (.int x3), none, none] [] u (cmdK u1 ws (P ++ y :: Q) l i1 (if min N y.2.2.2.2.2.2.length = 0 then none else some (stlA (strip (P ++ y :: Q)) P.length (popE i1 (min N y.2.2.2.2.2.2.length))))) := by
      intro x3 u tu ou hu e3
      refine mjZ_y rfl rfl 2 _ _ _ _ tu ?_
      refine (And.intro (Nat.le_of_ble_eq_true rfl) ?_)
      refine c_pop_loop _ i1 hi x1 e1 y.1 (min N y.2.2.2.2.2.2.length) (by omega) x2 x3 e2 e3 _ 0 u y _ _ (Nat.zero_add _) rfl rfl tu hu (by omega) (fun u2 y' x4 l5 ty2 f2 hy h2 es => ?_)
      have fa := ou.c.tr f2
      refine mjZ_y rfl rfl 2 _ _ _ _ ty2 ?_
      refine And.intro (fun b => ?_) (fun b => ?_)
      · have b : ¬ min N y.2.2.2.2.2.2.length = 0 := fun z => b (show x3 = 0 by rw [e3, z]; rfl)
        rw [if_neg b]
        have hl2 := W_len h2
        refine mjZ_y rfl rfl 3 _ _ _ _ ty2 ?_
        refine (And.intro (Nat.le_of_ble_eq_true rfl) (And.intro rfl (And.intro (Nat.le_of_ble_eq_true rfl) (And.intro (Nat.le_of_ble_eq_true rfl) (mjY_mono ty2 (fun q_ u3 ty3 h_ => ?_) (w_settle h2 ty2 (show x2 = nI y'.1 by rw [hy]; exact e2) (by omega)))))))
        obtain ⟨rfl, f3, h3⟩ := h_
        intro _
        rcases h3 with ⟨z, h3⟩ | ⟨z, h3⟩
        · refine mjZ_y rfl rfl 3 _ _ _ _ ty3 ?_
          refine (And.intro (Nat.le_of_ble_eq_true rfl) (And.intro rfl (And.intro (Nat.le_of_ble_eq_true rfl) (And.intro (Nat.le_of_ble_eq_true rfl) (mjY_mono ty3 (fun q_ u4 ty4 h_ => ?_) (w_noteAll h3 ty3 (by omega) i1 e1 hi hs))))))
          obtain ⟨rfl, h4, f4⟩ := h_
          intro _
          refine mjZ_y rfl rfl 1 _ _ _ _ ty4 ?_
          refine And.intro rfl (And.intro rfl ?_)
          have fb := fa.tr f3.k1
          rw [ntA_fr fb] at h4
          exact ⟨rfl, fb.tr f4.n, _, h4, stl_nil es z⟩
        · refine mjZ_y rfl rfl 3 _ _ _ _ ty3 ?_
          refine (And.intro (Nat.le_of_ble_eq_true rfl) (And.intro rfl (And.intro (Nat.le_of_ble_eq_true rfl) (And.intro (Nat.le_of_ble_eq_true rfl) (mjY_mono ty3 (fun q_ u4 ty4 h_ => ?_) (w_noteAll h3 ty3 (by omega) i1 e1 hi hs))))))
          obtain ⟨rfl, h4, f4⟩ := h_
          intro _
          refine mjZ_y rfl rfl 1 _ _ _ _ ty4 ?_
          refine And.intro rfl (And.intro rfl ?_)
          have fb := fa.tr f3.k1
          rw [ntA_fr fb] at h4
          exact ⟨rfl, fb.tr f4.n, _, h4, stl_cons es z⟩
      · have b : min N y.2.2.2.2.2.2.length = 0 := by
          have b : x3 = nI 0 := Decidable.of_not_not b
          rw [e3] at b
          exact (nI_eq (by omega) (by decide)).mp b
        rw [if_pos b]
        refine mjZ_y rfl rfl 1 _ _ _ _ ty2 ?_
        refine And.intro rfl (And.intro rfl ?_)
        refine ⟨rfl, fa, _, h2, ?_⟩
        rw [b] at es
        have es : st1 y' = st1 y := es
        rw [strip_app, strip_cons, strip_app, strip_cons, es]
    have go : ∀ x3 : Int32, x3 = nI (min N y.2.2.2.2.2.2.length) → mjY mjPP (mjQQ Y) (d + 6) 105 34 [some (.ref 0), some (.int x1), some (.int x2), some (.int x3), none, none] [] u1 (cmdK u1 ws (P ++ y :: Q) l i1 (if min N y.2.2.2.2.2.2.length = 0 then none else some (stlA (strip (P ++ y :: Q)) P.length (popE i1 (min N y.2.2.2.2.2.2.length))))) := by
      intro x3 e3
      refine mjZ_y rfl rfl 4 _ _ _ _ ty1 ?_
      refine (And.intro rfl (And.intro (fun b => ?_) (fun b => ?_)))
      · exact go2 x3 u1 ty1 (oO.rf h.2.2.2.1) h e3
      · refine mjZ_y rfl rfl 3 _ _ _ _ ty1 ?_
        refine (And.intro (Nat.le_of_ble_eq_true rfl) (And.intro rfl (And.intro (Nat.le_of_ble_eq_true rfl) (And.intro (Nat.le_of_ble_eq_true rfl) (mjY_mono ty1 (fun q_ u2 ty2 h_ => ?_) (w_row h ty1 _))))))
        obtain ⟨rfl, h2, o2⟩ := h_
        intro _
        exact go2 x3 u2 ty2 o2 h2 e3
    refine mjZ_y rfl rfl 11 _ _ _ _ ty1 ?_
    refine (And.intro rfl (And.intro rfl (And.intro vk (And.intro (Nat.le_of_ble_eq_true rfl) (And.intro rfl (And.intro (fun b => ?_) (fun b => ?_)))))))
    · have b : lN y.2.2.2.2.2.2.length ≤ lN N := by
        have b := (lg_cmp_ge _ _).mp b
        rw [show (u1.2.2.1 (mjHn 21) x2.toNatClampNeg) = nI y.2.2.2.2.2.2.length from kM, nI_l (by omega)] at b
        exact Eq.mp (congrArg (fun t => lN y.2.2.2.2.2.2.length ≤ t) en) b
      have b := (pk_lLE (by omega) hN).mp b
      exact go _ (by rw [show (u1.2.2.1 (mjHn 21) x2.toNatClampNeg) = nI y.2.2.2.2.2.2.length from kM]; congr 1; omega)
    · have b : ¬ y.2.2.2.2.2.2.length ≤ N := fun z => b ((lg_cmp_ge _ _).mpr (by
        rw [show (u1.2.2.1 (mjHn 21) x2.toNatClampNeg) = nI y.2.2.2.2.2.2.length from kM, nI_l (by omega)]
        exact Eq.mpr (congrArg (fun t => lN y.2.2.2.2.2.2.length ≤ t) en) ((pk_lLE (by omega) hN).mpr z)))
      refine mjZ_y rfl rfl 4 _ _ _ _ ty1 ?_
      refine (And.intro rfl (And.intro (Nat.le_of_ble_eq_true rfl) ?_))
      exact go _ (by rw [show u1.2.1 75 = lN N from en, lN_i]; congr 1; omega)
  · have c : kyI (strip ks) w = none := Decidable.of_not_not (fun z => c ((ky_ge h w).1.mpr z))
    have eo : popF (strip ks) w i1 N = none := by unfold popF; rw [c]
    rw [eo]
    refine mjZ_y rfl rfl 4 _ _ _ _ ty1 ?_
    refine (And.intro rfl (And.intro (fun b => ?_) (fun b => ?_)))
    · refine mjZ_y rfl rfl 2 _ _ _ _ ty1 ?_
      refine (And.intro (Nat.le_of_ble_eq_true rfl) (And.intro rfl (And.intro (Nat.le_of_ble_eq_true rfl) (And.intro (Nat.le_of_ble_eq_true rfl) (mjY_mono ty1 (fun q_ u2 ty2 h_ => ?_) (w_nil h ty1))))))
      obtain ⟨rfl, h2, f2⟩ := h_
      intro _
      refine mjZ_y rfl rfl 1 _ _ _ _ ty2 ?_
      refine And.intro rfl (And.intro rfl ?_)
      exact ⟨rfl, f2.c, ks, h2, rfl⟩
    · refine mjZ_y rfl rfl 3 _ _ _ _ ty1 ?_
      refine (And.intro (Nat.le_of_ble_eq_true rfl) (And.intro rfl (And.intro (Nat.le_of_ble_eq_true rfl) (And.intro (Nat.le_of_ble_eq_true rfl) (mjY_mono ty1 (fun q_ u2 ty2 h_ => ?_) (w_letters h ty1 _))))))
      obtain ⟨rfl, h2, f2⟩ := h_
      intro _
      refine mjZ_y rfl rfl 2 _ _ _ _ ty2 ?_
      refine (And.intro (Nat.le_of_ble_eq_true rfl) (And.intro rfl (And.intro (Nat.le_of_ble_eq_true rfl) (And.intro (Nat.le_of_ble_eq_true rfl) (mjY_mono ty2 (fun q_ u3 ty3 h_ => ?_) (w_line h2 ty2))))))
      obtain ⟨rfl, h3, f3⟩ := h_
      intro _
      refine mjZ_y rfl rfl 2 _ _ _ _ ty3 ?_
      refine And.intro rfl (And.intro rfl ?_)
      exact ⟨rfl, f2.c.tr f3.c, ks, h3, rfl⟩
end POP
