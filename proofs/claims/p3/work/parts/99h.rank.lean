/-! rank; ZINCRBY. -/
section RANK
variable {Y : Nat → MethodName × ByteArray} {d : Nat}
/-- how many of the last elements stand behind a score and a word -/
def rkR (s : Int64) (v : List Int32) : List AE → Nat
  | [] => 0
  | z :: r => if s < z.2.2 ∨ (z.2.2 = s ∧ 0 < cmpW z.1 v) then rkR s v r + 1 else 0
theorem rkR_le (s : Int64) (v : List Int32) : ∀ es, rkR s v es ≤ es.length := by
  intro es
  induction es with
  | nil => exact Nat.le_refl _
  | cons z r ih =>
    show (if s < z.2.2 ∨ (z.2.2 = s ∧ 0 < cmpW z.1 v) then rkR s v r + 1 else 0) ≤ r.length + 1
    split <;> omega
def rkE (s : Int64) (v : List Int32) (es : List AE) : List AE := es.take (es.length - rkR s v es.reverse) ++ (v, [], s) :: es.drop (es.length - rkR s v es.reverse)
theorem rkE_m (s : Int64) (v : List Int32) (es : List AE) : eT (rkE s v es) = eT es + v.length ∧ (rkE s v es).length = es.length + 1 := by
  unfold rkE
  generalize es.length - rkR s v es.reverse = p
  have e : eT es = eT (es.take p) + eT (es.drop p) := by rw [← eT_app, List.take_append_drop]
  have e2 : es.length = (es.take p).length + (es.drop p).length := by rw [← List.length_append, List.take_append_drop]
  refine ⟨?_, ?_⟩
  · rw [eT_app]; show _ + (v.length + 0 + eT (es.drop p)) = _; omega
  · rw [List.length_append, List.length_cons]; omega
set_option maxRecDepth 100000 in
theorem c_rank_loop (K : mjK) {σ : mjS} {ws : List (List Int32)} {P Q : List KR} {y : KR} {l : List Int32} (h : Wd σ ws (P ++ y :: Q) l) (ty : mjTY σ) {i : Nat} {v : List Int32} (hv : ws[i]? = some v) (x1 x2 : Int32) (e2 : x2 = nI i) (s : Int64) : ∀ (R E2 : List ER) (x5 : Int32), y.2.2.2.2.2.2 = R.reverse ++ E2 → x5 = lst (-1) (ids R.reverse) → (∀ x5 F1 F2, y.2.2.2.2.2.2 = F1 ++ F2 → F2.length = E2.length + rkR s v (R.map (fun z => z.2)) → x5 = lst (-1) (ids F1) → mjY mjPP (mjQQ Y) (d + 1) 132 49 [some (.ref 0), some (.int x1), some (.int x2), some (.long s), none, some (.int x5), none] [] σ K) →
    mjY mjPP (mjQQ Y) (d + 1) 132 5 [some (.ref 0), some (.int x1), some (.int x2), some (.long s), none, some (.int x5), none] [] σ K := by
  intro R
  induction R with
  | nil =>
    intro E2 x5 hE e5 hK
    refine mjZ_y rfl rfl 2 _ _ _ _ ty ?_
    refine And.intro (fun q => ?_) (fun q => ?_)
    · exact hK x5 [] E2 hE rfl e5
    · exact absurd (lt_m1 e5) q
  | cons z R ih =>
    intro E2 x5 hE e5 hK
    have hE2 : y.2.2.2.2.2.2 = R.reverse ++ z :: E2 := by rw [hE, List.reverse_cons, List.append_assoc]; rfl
    have e5l := e5
    have e5 : x5 = nI z.1 := by rw [e5, List.reverse_cons, ids_app]; exact lst_snoc _ _ _
    have hm : z ∈ y.2.2.2.2.2.2 := by rw [hE2]; exact List.mem_append_right _ List.mem_cons_self
    obtain ⟨-, hP, v5⟩ := W_next h hE2 e5
    obtain ⟨hs, hh, ho⟩ := h.eid hm
    have hid := ho.1
    have c5 : x5.toNatClampNeg = z.1 := by rw [e5]; exact nI_clamp (by omega)
    have esc : σ.2.2.2 30 x5.toNatClampNeg = σ.2.2.2 30 z.1 := by rw [c5]
    have esc : σ.2.2.2 (mjHn 30) x5.toNatClampNeg = z.2.2.2 := by rw [c5]; exact ho.2.2.2
    have er : rkR s v ((z :: R).map (fun z => z.2)) = if s < z.2.2.2 ∨ (z.2.2.2 = s ∧ 0 < cmpW z.2.1 v) then rkR s v (R.map (fun z => z.2)) + 1 else 0 := rfl
    rw [er] at hK
    have stop : ¬ (s < z.2.2.2 ∨ (z.2.2.2 = s ∧ 0 < cmpW z.2.1 v)) → mjY mjPP (mjQQ Y) (d + 1) 132 49 [some (.ref 0), some (.int x1), some (.int x2), some (.long s), none, some (.int x5), none] [] σ K := by
      intro no
      rw [if_neg no] at hK
      exact hK x5 (z :: R).reverse E2 hE rfl e5l
    have more : (s < z.2.2.2 ∨ (z.2.2.2 = s ∧ 0 < cmpW z.2.1 v)) → mjY mjPP (mjQQ Y) (d + 1) 132 43 [some (.ref 0), some (.int x1), some (.int x2), some (.long s), none, some (.int x5), none] [] σ K := by
      intro yes
      rw [if_pos yes] at hK
      refine mjZ_y rfl rfl 6 _ _ _ _ ty ?_
      refine (And.intro rfl (And.intro rfl (And.intro v5 (And.intro (Nat.le_of_ble_eq_true rfl) ?_))))
      exact ih (z :: E2) _ hE2 hP (fun x5 F1 F2 a b c => hK x5 F1 F2 a (by rw [b, List.length_cons]; omega) c)
    refine mjZ_y rfl rfl 2 _ _ _ _ ty ?_
    refine And.intro (fun q => ?_) (fun q => ?_)
    · exact absurd (show x5 < 0 from q) (lt_nI (by omega) e5)
    · refine mjZ_y rfl rfl 7 _ _ _ _ ty ?_
      refine (And.intro rfl (And.intro rfl (And.intro v5 (And.intro (fun a => ?_) (fun a => ?_)))))
      · have a := (lg_cmp_gt _ _).mp a
        rw [esc] at a
        exact more (Or.inl a)
      · have a2 : ¬ s < z.2.2.2 := fun t => a ((lg_cmp_gt _ _).mpr (by rw [esc]; exact t))
        refine mjZ_y rfl rfl 7 _ _ _ _ ty ?_
        refine (And.intro rfl (And.intro rfl (And.intro v5 (And.intro (fun b => ?_) (fun b => ?_)))))
        · have b : ¬ z.2.2.2 = s := fun t => b ((lg_cmp_eq _ _).mpr (by rw [esc]; exact t))
          exact stop (fun t => t.elim a2 (fun t => b t.1))
        · have b2 : z.2.2.2 = s := by
            have b := (lg_cmp_eq _ _).mp (Decidable.of_not_not b)
            rw [esc] at b; exact b
          obtain ⟨v2, -⟩ := h.2.1.clamp hv e2
          have hi := (List.getElem?_eq_some_iff.mp hv).1
          have h1024 := h.2.1.2.1
          have hc := c_cmpR (Y := Y) (d := d) ty ho.2.1 hh h.2.1 hv
          rw [← nI_clamp (n := z.1) (by omega), ← e5, ← nI_clamp (n := i) (by omega), ← e2] at hc
          refine mjZ_y rfl rfl 21 _ _ _ _ ty ?_
          refine (And.intro rfl (And.intro rfl (And.intro rfl (And.intro v5 (And.intro rfl (And.intro rfl (And.intro v5 (And.intro rfl (And.intro rfl (And.intro rfl (And.intro v2 (And.intro rfl (And.intro rfl (And.intro v2 (And.intro (Nat.le_of_ble_eq_true rfl) (And.intro (Nat.le_of_ble_eq_true rfl) (And.intro (Nat.le_of_ble_eq_true rfl) (mjY_mono ty (fun q_ u1 ty1 h_ => ?_) (hc)))))))))))))))))))
          obtain ⟨rfl, r, rfl, hr⟩ := h_
          intro _
          have r0 : (0 : Int32).toInt = 0 := by decide
          refine mjZ_y rfl rfl 1 _ _ _ _ ty ?_
          refine And.intro (fun c => ?_) (fun c => ?_)
          · have c := Int32.le_iff_toInt_le.mp (show r ≤ 0 from c)
            rw [r0, hr] at c
            exact stop (fun t => t.elim a2 (fun t => by omega))
          · have c : 0 < cmpW z.2.1 v := by
              refine Int.lt_of_not_ge (fun t => c (show r ≤ 0 from ?_))
              rw [Int32.le_iff_toInt_le, r0, hr]; exact t
            exact more (Or.inr ⟨b2, c⟩)
set_option maxRecDepth 100000 in
theorem w_rank {σ : mjS} {ws : List (List Int32)} {P Q : List KR} {y : KR} {l : List Int32} (h : Wd σ ws (P ++ y :: Q) l) (ty : mjTY σ) {i : Nat} {v : List Int32} (hv : ws[i]? = some v) {x1 x2 : Int32} (e1 : x1 = nI y.1) (e2 : x2 = nI i) (s : Int64) (ht : tT (strip (P ++ y :: Q)) ≤ 200000) (hn : tT (strip (P ++ y :: Q)) + v.length ≤ 300000) (he : eN (strip (P ++ y :: Q)) < 10000) :
    mjY mjPP (mjQQ Y) (d + 4) 132 0 (mjL0 7 [.ref 0, .int x1, .int x2, .long s]) [] σ (fun q u => q = none ∧ Fr kF kH σ u ∧ ∃ y', y'.1 = y.1 ∧ Wd u ws (P ++ y' :: Q) l ∧ st1 y' = esF (rkE s v) (st1 y)) := by
  obtain ⟨kT, -, -, vk⟩ := W_tail h e1
  refine mjZ_y rfl rfl 5 _ _ _ _ ty ?_
  refine (And.intro rfl (And.intro rfl (And.intro vk (And.intro (Nat.le_of_ble_eq_true rfl) ?_))))
  refine c_rank_loop _ h ty hv x1 x2 e2 s y.2.2.2.2.2.2.reverse [] _ (by rw [List.reverse_reverse, List.append_nil]) (by rw [List.reverse_reverse]; exact kT) (fun x5 F1 F2 hF hl e5 => ?_)
  refine mjZ_y rfl rfl 4 _ _ _ _ ty ?_
  refine (And.intro (Nat.le_of_ble_eq_true rfl) (And.intro rfl (And.intro (Nat.le_of_ble_eq_true rfl) (And.intro (Nat.le_of_ble_eq_true rfl) (mjY_mono ty (fun q_ u1 ty1 h_ => ?_) (w_insert h ty hF he e1 e5))))))
  obtain ⟨e, he2, rfl, h2, f2⟩ := h_
  intro _
  have v6 : vp_in (nI e) 10000 := vp_in_nI he2 (by decide)
  refine mjZ_y rfl rfl 6 _ _ _ _ ty1 ?_
  refine (And.intro (Nat.le_of_ble_eq_true rfl) (And.intro rfl (And.intro rfl (And.intro v6 (fun ty1' => ?_)))))
  have h3 := W_with (h2.score (x := withE y (F1 ++ (e, [], [], 0) :: F2)) (y := (e, [], [], 0)) (E1 := F1) (E2 := F2) rfl (c := (nI e).toNatClampNeg) (nI_clamp (by omega)) s)
  have f3 : Fr kF kH u1 (u1.1, u1.2.1, u1.2.2.1, mjLu u1.2.2.2 r_eScore (nI e).toNatClampNeg s) := Fr.j (h := r_eScore) (by decide)
  obtain ⟨v2, b, eb, el, hb, ew⟩ := h3.2.1.clamp hv e2
  have t1 := tT_with P Q y (F1 ++ (e, [], [], s) :: F2)
  have t2 : eT ((F1 ++ (e, [], [], s) :: F2).map (fun z => z.2)) = eT (y.2.2.2.2.2.2.map (fun z => z.2)) := by
    rw [hF, List.map_append, List.map_append, List.map_cons, eT_app, eT_app]
    show _ + (0 + 0 + _) = _; omega
  refine mjZ_y rfl rfl 13 _ _ _ _ ty1' ?_
  refine (And.intro rfl (And.intro rfl (And.intro rfl (And.intro v2 (And.intro rfl (And.intro rfl (And.intro v2 (And.intro (Nat.le_of_ble_eq_true rfl) (And.intro rfl (And.intro (Nat.le_of_ble_eq_true rfl) (And.intro (Nat.le_of_ble_eq_true rfl) (mjY_mono ty1' (fun q_ u3 ty3 h_ => ?_) (w_name h3 ty1' (x := withE y (F1 ++ (e, [], [], s) :: F2)) (y := (e, [], [], s)) (E1 := F1) (E2 := F2) rfl r_req b v.length rfl (by decide) hb (by decide) (by show tT (strip (P ++ withE y (F1 ++ (e, [], [], s) :: F2) :: Q)) ≤ _; omega) (by show tT (strip (P ++ withE y (F1 ++ (e, [], [], s) :: F2) :: Q)) + _ ≤ _; omega) rfl eb el)))))))))))))
  obtain ⟨rfl, h4, f4⟩ := h_
  intro _
  have h4 : Wd u3 ws (P ++ withE y (F1 ++ (e, wd (u1.2.2.1 r_req) b v.length, [], s) :: F2) :: Q) l := h4
  have ew : wd (u1.2.2.1 r_req) b v.length = v := ew
  rw [ew] at h4
  refine mjZ_y rfl rfl 1 _ _ _ _ ty3 ?_
  refine And.intro rfl (And.intro rfl ?_)
  refine ⟨rfl, (f2.tr f3).tr f4, withE y (F1 ++ (e, v, [], s) :: F2), rfl, h4, st1_with ?_⟩
  unfold rkE
  have el2 : (y.2.2.2.2.2.2.map (fun z => z.2)).length - rkR s v (y.2.2.2.2.2.2.map (fun z => z.2)).reverse = F1.length := by
    rw [List.length_map, ← List.map_reverse]
    have z : F2.length = 0 + rkR s v (y.2.2.2.2.2.2.reverse.map (fun z => z.2)) := hl
    rw [hF, List.length_append]
    rw [hF] at z; omega
  rw [el2, hF, List.map_append, List.map_cons, List.map_append]
  have a1 : (F1.map (fun z => z.2) ++ F2.map (fun z => z.2)).take F1.length = F1.map (fun z => z.2) := by
    have := List.take_left (l₁ := F1.map (fun z => z.2)) (l₂ := F2.map (fun z => z.2)); rw [List.length_map] at this; exact this
  have a2 : (F1.map (fun z => z.2) ++ F2.map (fun z => z.2)).drop F1.length = F2.map (fun z => z.2) := by
    have := List.drop_left (l₁ := F1.map (fun z => z.2)) (l₂ := F2.map (fun z => z.2)); rw [List.length_map] at this; exact this
  rw [a1, a2]
/-- the place and the score of an element of the key at a place -/
def zIx (A : List AK) (cur : Option Nat) (v : List Int32) : Option (Nat × Int64) := match cur with
  | none => none
  | some p => (match A[p]? with
    | none => none
    | some a => (match fdE v a.2.2.2.2.2 with
      | none => none
      | some i => (match a.2.2.2.2.2[i]? with
        | some z => some (i, z.2.2)
        | none => none)))
theorem zIx_at {P Q : List KR} {y : KR} {v : List Int32} : (fdE v (y.2.2.2.2.2.2.map (fun z => z.2)) = none → zIx (strip (P ++ y :: Q)) (some P.length) v = none) ∧ ∀ F1 t F2, y.2.2.2.2.2.2 = F1 ++ t :: F2 → fdE v (y.2.2.2.2.2.2.map (fun z => z.2)) = some F1.length → zIx (strip (P ++ y :: Q)) (some P.length) v = some (F1.length, t.2.2.2) := by
  have e : zIx (strip (P ++ y :: Q)) (some P.length) v = (match fdE v (y.2.2.2.2.2.2.map (fun z => z.2)) with
      | none => none
      | some i => (match (y.2.2.2.2.2.2.map (fun z => z.2))[i]? with
        | some z => some (i, z.2.2)
        | none => none)) := by
    unfold zIx; simp only [strip_gt]; rfl
  refine ⟨fun h => by rw [e, h], fun F1 t F2 hF h => ?_⟩
  rw [e, h]
  have eg : (y.2.2.2.2.2.2.map (fun z => z.2))[F1.length]? = some t.2 := by
    rw [List.getElem?_map, hF, List.getElem?_append_right (Nat.le_refl _), Nat.sub_self]; rfl
  show (match (y.2.2.2.2.2.2.map (fun z => z.2))[F1.length]? with | some z => some (F1.length, z.2.2) | none => none) = _
  rw [eg]
/-- the score comes to the store: the key made if it is wanting, the element taken out if it is there -/
def zNew (A : List AK) (w : List Int32) (cur : Option Nat) (o : Option (Nat × Int64)) (sc : Int64) (v : List Int32) : List AK × Nat := match o, cur with
  | some q, some p => (upA A p (fun a => esF (rkE sc v) (esF (rmE q.1) a)), p)
  | _, _ => (upA (orA A w 4).1 (orA A w 4).2 (esF (rkE sc v)), (orA A w 4).2)
def ziF (A : List AK) (w v : List Int32) (n : Int64) : Option (List AK) := match zIx A (kyI A w) v with
  | none => some (zNew A w (kyI A w) none n v).1
  | some q => if ovI q.2 n = 0 ∧ ¬ n = 0 then some (zNew A w (kyI A w) (some q) (q.2 + n) v).1 else none
set_option maxRecDepth 100000 in
/-- the element is taken out, the score comes in -/
theorem w_unrank {σ : mjS} {ws : List (List Int32)} {P Q : List KR} {y : KR} {l : List Int32} (h : Wd σ ws (P ++ y :: Q) l) (ty : mjTY σ) {F1 F2 : List ER} {t : ER} (hF : y.2.2.2.2.2.2 = F1 ++ t :: F2) {x1 xe : Int32} (e1 : x1 = nI y.1) (ee : xe = nI t.1) : mjY mjPP (mjQQ Y) d 17 0 (mjL0 3 [.ref 0, .int x1, .int xe]) [] σ (fun q u => q = none ∧ Fr kF kH σ u ∧ Wd u ws (P ++ withE y (F1 ++ F2) :: Q) l ∧ st1 (withE y (F1 ++ F2)) = esF (rmE F1.length) (st1 y) ∧ tT (strip (P ++ withE y (F1 ++ F2) :: Q)) ≤ tT (strip (P ++ y :: Q)) ∧ eN (strip (P ++ withE y (F1 ++ F2) :: Q)) + 1 = eN (strip (P ++ y :: Q))) := by
  refine mjY_mono ty (fun _ u _ q => ?_) (w_unlink h ty hF e1 ee)
  obtain ⟨a, b, c⟩ := q
  have tA := tT_with P Q y (F1 ++ F2)
  have nA := eN_with P Q y (F1 ++ F2)
  have tB : eT ((F1 ++ F2).map (fun z => z.2)) ≤ eT (y.2.2.2.2.2.2.map (fun z => z.2)) := by
    rw [hF, List.map_append, List.map_append, List.map_cons, eT_app, eT_app]
    show _ ≤ _ + (_ + eT (F2.map (fun z => z.2))); omega
  have nB : (F1 ++ F2).length + 1 = y.2.2.2.2.2.2.length := by rw [hF, List.length_append, List.length_append, List.length_cons]; omega
  refine ⟨a, c, b, st1_with ?_, by omega, by omega⟩
  rw [hF, List.map_append, List.map_append, List.map_cons]
  have e := rmE_at (F1.map (fun z => z.2)) t.2 (F2.map (fun z => z.2))
  rw [List.length_map] at e
  exact e.symm
set_option maxRecDepth 100000 in
theorem r_zincr {σ : mjS} {ws : List (List Int32)} {ks : List KR} {l : List Int32} (h : Wd σ ws ks l) (ty : mjTY σ) {w v : List Int32} (h1 : ws[1]? = some w) (h3 : ws[3]? = some v) (n : Int64) (en : σ.2.1 f_n1 = n) (ht : tT (strip ks) + w.length + v.length ≤ 200000) (hl : ks.length < 4700) (he : eN (strip ks) < 10000) (hs : l.length + 132 + sz ws ≤ 420000) :
    mjY mjPP (mjQQ Y) (d + 6) 134 0 (mjL0 5 [.ref 0]) [] σ (cmdK σ ws ks l 81 (ziF (strip ks) w v n)) := by
  have hlen := (List.getElem?_eq_some_iff.mp h1).1
  have om := orA_m (strip ks) w 4
  refine mjZ_y rfl rfl 3 _ _ _ _ ty ?_
  refine (And.intro (Nat.le_of_ble_eq_true rfl) (And.intro rfl (And.intro (Nat.le_of_ble_eq_true rfl) (And.intro (Nat.le_of_ble_eq_true rfl) (mjY_mono ty (fun q_ u1 ty1 h_ => ?_) (w_key h ty h1 (x := Int32.ofInt 1) rfl))))))
  obtain ⟨rfl, rfl⟩ := h_
  intro _
  have en1 : u1.2.1 75 = n := en
  -- the end: touched and noted
  have fin : ∀ (u : mjS) (x1 x2 : Int32) (sc : Int64) (P Q : List KR) (y : KR) (A : List AK), mjTY u → Fr cF cH u1 u → Wd u ws (P ++ y :: Q) l → x1 = nI y.1 → strip (P ++ y :: Q) = A → mjY mjPP (mjQQ Y) (d + 6) 134 64 [some (.ref 0), some (.int x1), some (.int x2), some (.long sc), none] [] u (cmdK u1 ws ks l 81 (some A)) := by
    intro u x1 x2 sc P Q y A tu fu hu e1 eA
    refine mjZ_y rfl rfl 3 _ _ _ _ tu ?_
    refine (And.intro (Nat.le_of_ble_eq_true rfl) (And.intro rfl (And.intro (Nat.le_of_ble_eq_true rfl) (And.intro (Nat.le_of_ble_eq_true rfl) (mjY_mono tu (fun q_ u2 ty2 h_ => ?_) (w_touch hu tu (x := y) (List.mem_append_right _ List.mem_cons_self) e1))))))
    obtain ⟨rfl, h2, f2⟩ := h_
    intro _
    refine mjZ_y rfl rfl 3 _ _ _ _ ty2 ?_
    refine (And.intro (Nat.le_of_ble_eq_true rfl) (And.intro rfl (And.intro (Nat.le_of_ble_eq_true rfl) (And.intro (Nat.le_of_ble_eq_true rfl) (mjY_mono ty2 (fun q_ u3 ty3 h_ => ?_) (w_noteAll h2 ty2 (by omega) 81 rfl (by decide) hs))))))
    obtain ⟨rfl, h3', f3⟩ := h_
    intro _
    refine mjZ_y rfl rfl 1 _ _ _ _ ty3 ?_
    refine And.intro rfl (And.intro rfl ?_)
    have fb := fu.tr f2.t
    rw [ntA_fr fb] at h3'
    exact ⟨rfl, fb.tr f3.n, _, h3', eA⟩
  have notin : ∀ x1 : Int32, zIx (strip ks) (kyI (strip ks) w) v = none → mjY mjPP (mjQQ Y) (d + 6) 134 8 [some (.ref 0), some (.int x1), none, none, none] [.int (-1)] u1 (cmdK u1 ws ks l 81 (ziF (strip ks) w v n)) := by
    intro x1 ez
    have eo : ziF (strip ks) w v n = some (upA (orA (strip ks) w 4).1 (orA (strip ks) w 4).2 (esF (rkE n v))) := by
      unfold ziF; rw [ez]; rfl
    rw [eo]
    refine mjZ_y rfl rfl 6 _ _ _ _ ty1 ?_
    refine (And.intro (Nat.le_of_ble_eq_true rfl) (And.intro rfl (And.intro (Nat.le_of_ble_eq_true rfl) (And.intro (fun q => ?_) (fun q => ?_)))))
    · refine mjZ_y rfl rfl 3 _ _ _ _ ty1 ?_
      refine (And.intro (Nat.le_of_ble_eq_true rfl) (And.intro rfl (And.intro (Nat.le_of_ble_eq_true rfl) (And.intro (Nat.le_of_ble_eq_true rfl) (mjY_mono ty1 (fun q_ u2 ty2 h_ => ?_) (w_numberWord h ty1 _))))))
      obtain ⟨rfl, h2, f2⟩ := h_
      intro _
      refine mjZ_y rfl rfl 2 _ _ _ _ ty2 ?_
      refine And.intro (fun q2 => ?_) (fun q2 => ?_)
      · refine mjZ_y rfl rfl 4 _ _ _ _ ty2 ?_
        refine (And.intro (Nat.le_of_ble_eq_true rfl) (And.intro rfl (And.intro (Nat.le_of_ble_eq_true rfl) (And.intro (Nat.le_of_ble_eq_true rfl) (mjY_mono ty2 (fun q_ u3 ty3 h_ => ?_) (w_makeOr h2 ty2 h1 (x := Int32.ofInt 1) rfl 4 (by omega) (by omega) hl))))))
        obtain ⟨P, y, Q, rfl, h3', f3, g1, g2⟩ := h_
        intro _
        refine mjZ_y rfl rfl 3 _ _ _ _ ty3 ?_
        refine (And.intro (Nat.le_of_ble_eq_true rfl) (And.intro (fun q3 => ?_) (fun q3 => ?_)))
        · have go : ∀ sc : Int64, sc = n → mjY mjPP (mjQQ Y) (d + 6) 134 59 [some (.ref 0), some (.int (nI y.1)), some (.int (-1)), some (.long sc), none] [] u3 (cmdK u1 ws ks l 81 (some (upA (orA (strip ks) w 4).1 (orA (strip ks) w 4).2 (esF (rkE n v))))) := by
            intro sc esc
            subst esc
            refine mjZ_y rfl rfl 5 _ _ _ _ ty3 ?_
            refine (And.intro (Nat.le_of_ble_eq_true rfl) (And.intro rfl (And.intro (Nat.le_of_ble_eq_true rfl) (And.intro (Nat.le_of_ble_eq_true rfl) (mjY_mono ty3 (fun q_ u4 ty4 h_ => ?_) (w_rank h3' ty3 h3 rfl (x2 := Int32.ofInt 3) rfl sc (by rw [g1]; omega) (by rw [g1]; omega) (by rw [g1]; omega)))))))
            obtain ⟨rfl, f4, y', hy, h4, es⟩ := h_
            intro _
            refine fin u4 _ _ _ P Q y' _ ty4 ((f2.c.tr f3.k).tr f4.k) h4 (by rw [hy]) ?_
            rw [← g1, ← g2]; exact strip_up es
          exact go _ en1
        · exact absurd (lt_m1 rfl) q3
      · exact absurd (lt_m1 rfl) q2
    · exact absurd (lt_m1 rfl) q
  by_cases kn : kyI (strip ks) w = none
  · have ez : zIx (strip ks) (kyI (strip ks) w) v = none := by rw [kn]; rfl
    refine mjZ_y rfl rfl 5 _ _ _ _ ty1 ?_
    refine (And.intro (Nat.le_of_ble_eq_true rfl) (And.intro (Nat.le_of_ble_eq_true rfl) (And.intro rfl (And.intro (Nat.le_of_ble_eq_true rfl) (And.intro (Nat.le_of_ble_eq_true rfl) (mjY_mono ty1 (fun q_ u2 ty2 h_ => ?_) (w_ranked0 ty1 (ky_none kn))))))))
    obtain ⟨rfl, rfl⟩ := h_
    intro _
    exact notin _ ez
  · obtain ⟨P, y, Q, g0, g1, g2, -⟩ := ky_some kn
    have e1 : kyS ks w = nI y.1 := g2
    generalize kyS ks w = x1 at e1
    subst g0
    have hid := h.id
    refine mjZ_y rfl rfl 5 _ _ _ _ ty1 ?_
    refine (And.intro (Nat.le_of_ble_eq_true rfl) (And.intro (Nat.le_of_ble_eq_true rfl) (And.intro rfl (And.intro (Nat.le_of_ble_eq_true rfl) (And.intro (Nat.le_of_ble_eq_true rfl) (mjY_mono ty1 (fun q_ u2 ty2 h_ => ?_) (w_ranked h ty1 h3 e1 (x2 := Int32.ofInt 3) rfl)))))))
    obtain ⟨rfl, r, rfl, hr⟩ := h_
    intro _
    cases hf : fdE v (y.2.2.2.2.2.2.map (fun z => z.2)) with
    | none =>
      rw [hf] at hr
      have hr : r = -1 := hr
      rw [hr]
      exact notin _ (by rw [g1]; exact zIx_at.1 hf)
    | some i =>
      rw [hf] at hr
      obtain ⟨F1, t, F2, hF, hl1, er⟩ := hr
      subst hl1
      have ez : zIx (strip (P ++ y :: Q)) (kyI (strip (P ++ y :: Q)) w) v = some (F1.length, t.2.2.2) := by rw [g1]; exact zIx_at.2 F1 t F2 hF hf
      have eo : ziF (strip (P ++ y :: Q)) w v n = if ovI t.2.2.2 n = 0 ∧ ¬ n = 0 then some (upA (strip (P ++ y :: Q)) P.length (fun a => esF (rkE (t.2.2.2 + n) v) (esF (rmE F1.length) a))) else none := by
        unfold ziF; rw [ez, g1]; rfl
      rw [eo]
      obtain ⟨hz, hh, ho⟩ := h.eid (y := t) (by rw [hF]; exact List.mem_append_right _ List.mem_cons_self)
      have tid := ho.1
      have v2 : vp_in r 10000 := by rw [er]; exact vp_in_nI tid (by decide)
      have cr : r.toNatClampNeg = t.1 := by rw [er]; exact nI_clamp (by omega)
      have esc : u2.2.2.2 (mjHn 30) r.toNatClampNeg = t.2.2.2 := by rw [cr]; exact ho.2.2.2
      refine mjZ_y rfl rfl 6 _ _ _ _ ty1 ?_
      refine (And.intro (Nat.le_of_ble_eq_true rfl) (And.intro rfl (And.intro (Nat.le_of_ble_eq_true rfl) (And.intro (fun q => ?_) (fun q => ?_)))))
      · exact absurd (show r < 0 from q) (lt_nI (by omega) er)
      · have hc := c_overflows (Y := Y) (d := d + 5) ty1 t.2.2.2 n
        rw [← esc, ← en1] at hc
        refine mjZ_y rfl rfl 8 _ _ _ _ ty1 ?_
        refine (And.intro rfl (And.intro rfl (And.intro v2 (And.intro rfl (And.intro (Nat.le_of_ble_eq_true rfl) (And.intro rfl (And.intro (Nat.le_of_ble_eq_true rfl) (And.intro (Nat.le_of_ble_eq_true rfl) (mjY_mono ty1 (fun q_ u3 ty3 h_ => ?_) (hc))))))))))
        obtain ⟨rfl, rfl⟩ := h_
        intro _
        rw [esc, en1]
        refine mjZ_y rfl rfl 1 _ _ _ _ ty1 ?_
        refine And.intro (fun c => ?_) (fun c => ?_)
        · have c : ovI t.2.2.2 n = 0 := c
          have go : ∀ sc : Int64, sc = t.2.2.2 + n → mjY mjPP (mjQQ Y) (d + 6) 134 37 [some (.ref 0), some (.int x1), some (.int r), some (.long sc), none] [] u3 (cmdK u3 ws (P ++ y :: Q) l 81 (if ovI t.2.2.2 n = 0 ∧ ¬ n = 0 then some (upA (strip (P ++ y :: Q)) P.length (fun a => esF (rkE (t.2.2.2 + n) v) (esF (rmE F1.length) a))) else none)) := by
            intro sc esc2
            refine mjZ_y rfl rfl 3 _ _ _ _ ty1 ?_
            refine (And.intro (Nat.le_of_ble_eq_true rfl) (And.intro rfl (And.intro (Nat.le_of_ble_eq_true rfl) (And.intro (Nat.le_of_ble_eq_true rfl) (mjY_mono ty1 (fun q_ u4 ty4 h_ => ?_) (w_numberWord h ty1 _))))))
            obtain ⟨rfl, h4, f4⟩ := h_
            intro _
            have en4 : u4.2.1 75 = n := by rw [show u4.2.1 75 = u3.2.1 75 from f4.1.2.1 75 (by decide)]; exact en1
            refine mjZ_y rfl rfl 2 _ _ _ _ ty4 ?_
            refine And.intro (fun q2 => ?_) (fun q2 => ?_)
            · exact absurd (show r < 0 from q2) (lt_nI (by omega) er)
            · refine mjZ_y rfl rfl 5 _ _ _ _ ty4 ?_
              refine (And.intro rfl (And.intro (fun q3 => ?_) (fun q3 => ?_)))
              · have q3 : ¬ n = 0 := fun z => q3 ((lg_cmp_eq _ _).mpr (by rw [en4]; exact z))
                rw [if_pos ⟨c, q3⟩]
                refine mjZ_y rfl rfl 4 _ _ _ _ ty4 ?_
                refine (And.intro (Nat.le_of_ble_eq_true rfl) (And.intro rfl (And.intro (Nat.le_of_ble_eq_true rfl) (And.intro (Nat.le_of_ble_eq_true rfl) (mjY_mono ty4 (fun q_ u5 ty5 h_ => ?_) (w_makeOr2 h4 ty4 h1 (x := Int32.ofInt 1) rfl 4 (by omega) (by omega) hl))))))
                obtain ⟨P2, z, Q2, rfl, h5, f5, s5, p5, r5⟩ := h_
                intro _
                rcases r5 with ⟨a, b⟩ | ⟨a, b⟩
                · have hp : P2.length = P.length := by rw [p5, orA_some g1]
                  have e3 := List.append_inj b hp.symm
                  obtain ⟨e4, e5⟩ := List.cons.inj e3.2
                  have e3 := e3.1
                  subst e3; subst e4; subst e5
                  refine mjZ_y rfl rfl 3 _ _ _ _ ty5 ?_
                  refine (And.intro (Nat.le_of_ble_eq_true rfl) (And.intro (fun q4 => ?_) (fun q4 => ?_)))
                  · exact absurd (show r < 0 from q4) (lt_nI (by omega) er)
                  · refine mjZ_y rfl rfl 4 _ _ _ _ ty5 ?_
                    refine (And.intro (Nat.le_of_ble_eq_true rfl) (And.intro rfl (And.intro (Nat.le_of_ble_eq_true rfl) (And.intro (Nat.le_of_ble_eq_true rfl) (mjY_mono ty5 (fun q_ u6 ty6 h_ => ?_) (w_unrank h5 ty5 hF rfl er))))))
                    obtain ⟨rfl, f6, h6, s6, t6, n6⟩ := h_
                    intro _
                    subst esc2
                    refine mjZ_y rfl rfl 5 _ _ _ _ ty6 ?_
                    refine (And.intro (Nat.le_of_ble_eq_true rfl) (And.intro rfl (And.intro (Nat.le_of_ble_eq_true rfl) (And.intro (Nat.le_of_ble_eq_true rfl) (mjY_mono ty6 (fun q_ u7 ty7 h_ => ?_) (w_rank h6 ty6 h3 rfl (x2 := Int32.ofInt 3) rfl (t.2.2.2 + n) (by omega) (by omega) (by omega)))))))
                    obtain ⟨rfl, f7, y', hy, h7, es⟩ := h_
                    intro _
                    refine fin u7 _ _ _ _ _ y' _ ty7 (((f4.c.tr f5.k).tr f6.k).tr f7.k) h7 (by rw [hy]; rfl) ?_
                    refine strip_up ?_
                    rw [es, s6]
                · exact absurd a kn
              · have q3 : n = 0 := by
                  have q3 := (lg_cmp_eq _ _).mp (Decidable.of_not_not q3)
                  rw [en4] at q3; exact q3
                rw [if_neg (fun z => z.2 q3)]
                refine mjZ_y rfl rfl 1 _ _ _ _ ty4 ?_
                refine And.intro rfl (And.intro rfl ?_)
                exact ⟨rfl, f4.c, _, h4, rfl⟩
          refine mjZ_y rfl rfl 8 _ _ _ _ ty1 ?_
          refine (And.intro rfl (And.intro rfl (And.intro v2 (And.intro rfl (And.intro (Nat.le_of_ble_eq_true rfl) ?_)))))
          exact go _ (by rw [esc, en1])
        · have c : ¬ ovI t.2.2.2 n = 0 := c
          rw [if_neg (fun z => c z.1)]
          refine mjZ_y rfl rfl 4 _ _ _ _ ty1 ?_
          refine (And.intro (Nat.le_of_ble_eq_true rfl) (And.intro rfl (And.intro (Nat.le_of_ble_eq_true rfl) (And.intro (Nat.le_of_ble_eq_true rfl) (mjY_mono ty1 (fun q_ u4 ty4 h_ => ?_) (w_error h ty1 _ _))))))
          obtain ⟨rfl, h4, f4⟩ := h_
          intro _
          refine mjZ_y rfl rfl 2 _ _ _ _ ty4 ?_
          refine And.intro rfl (And.intro rfl ?_)
          exact ⟨rfl, f4.c, _, h4, rfl⟩
end RANK
