/-! LINSERT and LREM. -/
section LINS
variable {Y : Nat → MethodName × ByteArray} {d : Nat}
/-- where the first such word stands -/
def fdE (w : List Int32) : List AE → Option Nat
  | [] => none
  | z :: r => if cmpW z.1 w = 0 then some 0 else (fdE w r).map (fun i => i + 1)
set_option maxRecDepth 100000 in
theorem c_lin_find (K : mjK) {σ : mjS} {ws : List (List Int32)} {P Q : List KR} {y : KR} {l : List Int32} (h : Wd σ ws (P ++ y :: Q) l) (ty : mjTY σ) {w : List Int32} (hw : ws[3]? = some w) (x1 : Int32) : ∀ (E2 E1 : List ER) (x2 : Int32), y.2.2.2.2.2.2 = E1 ++ E2 → x2 = nx (ids E2) → (∀ x2, (match fdE w (E2.map (fun z => z.2)) with | none => x2 = -1 | some i => ∃ F1 t F2, E2 = F1 ++ t :: F2 ∧ F1.length = i ∧ x2 = nI t.1) → mjY mjPP (mjQQ Y) (d + 2) 111 28 [some (.ref 0), some (.int x1), some (.int x2), none, none] [] σ K) →
    mjY mjPP (mjQQ Y) (d + 2) 111 15 [some (.ref 0), some (.int x1), some (.int x2), none, none] [] σ K := by
  intro E2
  induction E2 with
  | nil =>
    intro E1 x2 hE e2 hK
    refine mjZ_y rfl rfl 2 _ _ _ _ ty ?_
    refine And.intro (fun q => ?_) (fun q => ?_)
    · exact hK x2 e2
    · exact absurd (lt_m1 e2) q
  | cons z E2 ih =>
    intro E1 x2 hE e2 hK
    have e2 : x2 = nI z.1 := e2
    have hm : z ∈ y.2.2.2.2.2.2 := by rw [hE]; exact List.mem_append_right _ List.mem_cons_self
    obtain ⟨hN, -, v2⟩ := W_next h hE e2
    obtain ⟨hs, hh, ho⟩ := h.eid hm
    have hid := ho.1
    refine mjZ_y rfl rfl 2 _ _ _ _ ty ?_
    refine And.intro (fun q => ?_) (fun q => ?_)
    · exact absurd (show x2 < 0 from q) (lt_nI (by omega) e2)
    · refine mjZ_y rfl rfl 4 _ _ _ _ ty ?_
      refine (And.intro (Nat.le_of_ble_eq_true rfl) (And.intro rfl (And.intro (Nat.le_of_ble_eq_true rfl) (And.intro (Nat.le_of_ble_eq_true rfl) (mjY_mono ty (fun q_ u1 ty1 h_ => ?_) (w_isWord h ty hm hw e2 (x2 := Int32.ofInt 3) rfl))))))
      obtain ⟨rfl, rfl⟩ := h_
      intro _
      have ef : fdE w ((z :: E2).map (fun z => z.2)) = if cmpW z.2.1 w = 0 then some 0 else (fdE w (E2.map (fun z => z.2))).map (fun i => i + 1) := rfl
      rw [ef] at hK
      refine mjZ_y rfl rfl 1 _ _ _ _ ty ?_
      refine And.intro (fun c => ?_) (fun c => ?_)
      · have c : cmpW z.2.1 w = 0 := by
          refine Decidable.of_not_not (fun t => c ?_)
          show eqI z.2.1 w = 0
          unfold eqI; rw [if_neg t]
        rw [if_pos c] at hK
        exact hK x2 ⟨[], z, E2, rfl, rfl, e2⟩
      · have c : ¬ cmpW z.2.1 w = 0 := by
          intro t
          refine c (fun s => ?_)
          have s : eqI z.2.1 w = 0 := s
          unfold eqI at s; rw [if_pos t] at s; exact absurd s (by decide)
        rw [if_neg c] at hK
        refine mjZ_y rfl rfl 6 _ _ _ _ ty ?_
        refine (And.intro rfl (And.intro rfl (And.intro v2 (And.intro (Nat.le_of_ble_eq_true rfl) ?_))))
        refine ih (E1 ++ [z]) _ (by rw [hE, List.append_assoc]; rfl) hN (fun x2 hx => hK x2 ?_)
        cases hf : fdE w (E2.map (fun z => z.2)) with
        | none => rw [hf] at hx; exact hx
        | some i =>
          rw [hf] at hx
          obtain ⟨F1, t, F2, a, b, c⟩ := hx
          exact ⟨z :: F1, t, F2, by rw [a]; rfl, by rw [List.length_cons, b], c⟩
def inE (i : Nat) (v : List Int32) (es : List AE) : List AE := es.take i ++ (v, [], 0) :: es.drop i
/-- BEFORE -/
def bfI (o : List Int32) : Int32 := isF o 72865299780165
def liF (A : List AK) (w o piv v : List Int32) : Option (List AK) := match kyI A w with
  | none => none
  | some p => (match A[p]? with
    | none => none
    | some a => (match fdE piv a.2.2.2.2.2 with
      | none => none
      | some i => some (upA A p (esF (inE (if bfI o = 0 then i + 1 else i) v)))))
set_option maxRecDepth 100000 in
theorem r_insert {σ : mjS} {ws : List (List Int32)} {ks : List KR} {l : List Int32} (h : Wd σ ws ks l) (ty : mjTY σ) {w o piv v : List Int32} (h1 : ws[1]? = some w) (h2 : ws[2]? = some o) (h3 : ws[3]? = some piv) (h4 : ws[4]? = some v) (ht : tT (strip ks) ≤ 200000) (hn : tT (strip ks) + v.length ≤ 300000) (he : eN (strip ks) < 10000) (hs : l.length + 132 + sz ws ≤ 420000) :
    mjY mjPP (mjQQ Y) (d + 6) 111 0 (mjL0 5 [.ref 0]) [] σ (cmdK σ ws ks l 47 (liF (strip ks) w o piv v)) := by
  have hlen := (List.getElem?_eq_some_iff.mp h1).1
  refine mjZ_y rfl rfl 3 _ _ _ _ ty ?_
  refine (And.intro (Nat.le_of_ble_eq_true rfl) (And.intro rfl (And.intro (Nat.le_of_ble_eq_true rfl) (And.intro (Nat.le_of_ble_eq_true rfl) (mjY_mono ty (fun q_ u1 ty1 h_ => ?_) (w_key h ty h1 (x := Int32.ofInt 1) rfl))))))
  obtain ⟨rfl, rfl⟩ := h_
  intro _
  refine mjZ_y rfl rfl 3 _ _ _ _ ty1 ?_
  refine (And.intro (Nat.le_of_ble_eq_true rfl) (And.intro (fun c => ?_) (fun c => ?_)))
  · have c := (ky_ge h w).1.mp c
    obtain ⟨P, y, Q, g0, g1, g2, -⟩ := ky_some c
    have e1 : kyS ks w = nI y.1 := g2
    generalize kyS ks w = x1 at e1
    subst g0
    obtain ⟨kT, kHd, kM, vk⟩ := W_tail h e1
    have eo : liF (strip (P ++ y :: Q)) w o piv v = (match fdE piv (y.2.2.2.2.2.2.map (fun z => z.2)) with | none => none | some i => some (upA (strip (P ++ y :: Q)) P.length (esF (inE (if bfI o = 0 then i + 1 else i) v)))) := by
      unfold liF; rw [g1]
      show (match (strip (P ++ y :: Q))[P.length]? with | none => none | some a => (match fdE piv a.2.2.2.2.2 with | none => none | some i => some (upA (strip (P ++ y :: Q)) P.length (esF (inE (if bfI o = 0 then i + 1 else i) v))))) = _
      rw [strip_gt]; rfl
    rw [eo]
    refine mjZ_y rfl rfl 5 _ _ _ _ ty1 ?_
    refine (And.intro rfl (And.intro rfl (And.intro vk (And.intro (Nat.le_of_ble_eq_true rfl) ?_))))
    refine c_lin_find _ h ty1 h3 x1 y.2.2.2.2.2.2 [] _ rfl kHd (fun x2 hx => ?_)
    cases hf : fdE piv (y.2.2.2.2.2.2.map (fun z => z.2)) with
    | none =>
      rw [hf] at hx
      have hx : x2 = -1 := hx
      refine mjZ_y rfl rfl 2 _ _ _ _ ty1 ?_
      refine And.intro (fun q => ?_) (fun q => ?_)
      · exact absurd q (ge_m1 hx)
      · refine mjZ_y rfl rfl 3 _ _ _ _ ty1 ?_
        refine (And.intro (Nat.le_of_ble_eq_true rfl) (And.intro rfl (And.intro (Nat.le_of_ble_eq_true rfl) (And.intro (Nat.le_of_ble_eq_true rfl) (mjY_mono ty1 (fun q_ u2 ty2 h_ => ?_) (w_number h ty1 _))))))
        obtain ⟨rfl, h5, f5⟩ := h_
        intro _
        refine mjZ_y rfl rfl 1 _ _ _ _ ty2 ?_
        refine And.intro rfl (And.intro rfl ?_)
        exact ⟨rfl, f5.c, _, h5, rfl⟩
    | some i =>
      rw [hf] at hx
      obtain ⟨F1, t, F2, hF, hl, e2⟩ := hx
      obtain ⟨hz, hh, ho⟩ := h.eid (y := t) (by rw [hF]; exact List.mem_append_right _ List.mem_cons_self)
      have tid := ho.1
      obtain ⟨-, hPr, v2⟩ := W_next h hF e2
      show mjY mjPP (mjQQ Y) (d + 6) 111 28 _ [] u1 (cmdK u1 ws (P ++ y :: Q) l 47 (some (upA (strip (P ++ y :: Q)) P.length (esF (inE (if bfI o = 0 then i + 1 else i) v)))))
      -- from the insert on
      have go : ∀ (x3 : Int32) (E1 E2 : List ER), y.2.2.2.2.2.2 = E1 ++ E2 → x3 = lst (-1) (ids E1) → E1.length = (if bfI o = 0 then i + 1 else i) → mjY mjPP (mjQQ Y) (d + 6) 111 46 [some (.ref 0), some (.int x1), some (.int x2), some (.int x3), none] [] u1 (cmdK u1 ws (P ++ y :: Q) l 47 (some (upA (strip (P ++ y :: Q)) P.length (esF (inE (if bfI o = 0 then i + 1 else i) v))))) := by
        intro x3 E1 E2 hE e3 hlen2
        rw [← hlen2]
        refine mjZ_y rfl rfl 4 _ _ _ _ ty1 ?_
        refine (And.intro (Nat.le_of_ble_eq_true rfl) (And.intro rfl (And.intro (Nat.le_of_ble_eq_true rfl) (And.intro (Nat.le_of_ble_eq_true rfl) (mjY_mono ty1 (fun q_ u2 ty2 h_ => ?_) (w_insert h ty1 hE he e1 e3))))))
        obtain ⟨e, he2, rfl, h6, f6⟩ := h_
        intro _
        obtain ⟨v4, b, eb, el, hb, ew⟩ := h6.2.1.clamp h4 (x := Int32.ofInt 4) rfl
        have t1 : tT (strip (P ++ withE y (E1 ++ (e, [], [], 0) :: E2) :: Q)) = tT (strip (P ++ y :: Q)) := by
          rw [tT_at, tT_at, tT_1, tT_1]
          show _ + (y.2.1.length + y.2.2.2.2.2.1.length + eT ((E1 ++ (e, [], [], 0) :: E2).map (fun z => z.2))) + _ = _ + (y.2.1.length + y.2.2.2.2.2.1.length + eT (y.2.2.2.2.2.2.map (fun z => z.2))) + _
          rw [hE, List.map_append, List.map_append, List.map_cons, eT_app, eT_app]
          show _ + (_ + (_ + (0 + 0 + _))) + _ = _
          omega
        refine mjZ_y rfl rfl 14 _ _ _ _ ty2 ?_
        refine (And.intro (Nat.le_of_ble_eq_true rfl) (And.intro rfl (And.intro rfl (And.intro rfl (And.intro v4 (And.intro rfl (And.intro rfl (And.intro v4 (And.intro (Nat.le_of_ble_eq_true rfl) (And.intro rfl (And.intro (Nat.le_of_ble_eq_true rfl) (And.intro (Nat.le_of_ble_eq_true rfl) (mjY_mono ty2 (fun q_ u3 ty3 h_ => ?_) (w_name h6 ty2 (x := withE y (E1 ++ (e, [], [], 0) :: E2)) (y := (e, [], [], 0)) (E1 := E1) (E2 := E2) rfl r_req b v.length rfl (by decide) hb (by decide) (by omega) (by omega) rfl eb el))))))))))))))
        obtain ⟨rfl, h7, f7⟩ := h_
        intro _
        rw [ew] at h7
        have h7 : Wd u3 ws (P ++ withE y (E1 ++ (e, v, [], 0) :: E2) :: Q) l := h7
        refine mjZ_y rfl rfl 3 _ _ _ _ ty3 ?_
        refine (And.intro (Nat.le_of_ble_eq_true rfl) (And.intro rfl (And.intro (Nat.le_of_ble_eq_true rfl) (And.intro (Nat.le_of_ble_eq_true rfl) (mjY_mono ty3 (fun q_ u4 ty4 h_ => ?_) (w_touch h7 ty3 (x := withE y (E1 ++ (e, v, [], 0) :: E2)) (List.mem_append_right _ List.mem_cons_self) e1))))))
        obtain ⟨rfl, h8, f8⟩ := h_
        intro _
        refine mjZ_y rfl rfl 3 _ _ _ _ ty4 ?_
        refine (And.intro (Nat.le_of_ble_eq_true rfl) (And.intro rfl (And.intro (Nat.le_of_ble_eq_true rfl) (And.intro (Nat.le_of_ble_eq_true rfl) (mjY_mono ty4 (fun q_ u5 ty5 h_ => ?_) (w_noteAll h8 ty4 (by omega) 47 rfl (by decide) hs))))))
        obtain ⟨rfl, h9, f9⟩ := h_
        intro _
        refine mjZ_y rfl rfl 7 _ _ _ _ ty5 ?_
        refine (And.intro rfl (And.intro rfl (And.intro vk (And.intro (Nat.le_of_ble_eq_true rfl) (And.intro rfl (And.intro (Nat.le_of_ble_eq_true rfl) (And.intro (Nat.le_of_ble_eq_true rfl) (mjY_mono ty5 (fun q_ u6 ty6 h_ => ?_) (w_number h9 ty5 _)))))))))
        obtain ⟨rfl, h10, f10⟩ := h_
        intro _
        refine mjZ_y rfl rfl 1 _ _ _ _ ty6 ?_
        refine And.intro rfl (And.intro rfl ?_)
        have fa : Fr cF cH u1 u4 := (f6.k.tr f7.k).tr f8.t
        rw [ntA_fr fa] at h10
        refine ⟨rfl, (fa.tr f9.n).tr f10.c, _, h10, strip_up (st1_with ?_)⟩
        unfold inE
        rw [hE, List.map_append, List.map_cons, List.map_append]
        have a1 : (E1.map (fun z => z.2) ++ E2.map (fun z => z.2)).take E1.length = E1.map (fun z => z.2) := by
          have := List.take_left (l₁ := E1.map (fun z => z.2)) (l₂ := E2.map (fun z => z.2)); rw [List.length_map] at this; exact this
        have a2 : (E1.map (fun z => z.2) ++ E2.map (fun z => z.2)).drop E1.length = E2.map (fun z => z.2) := by
          have := List.drop_left (l₁ := E1.map (fun z => z.2)) (l₂ := E2.map (fun z => z.2)); rw [List.length_map] at this; exact this
        rw [a1, a2]
      refine mjZ_y rfl rfl 2 _ _ _ _ ty1 ?_
      refine And.intro (fun q => ?_) (fun q => ?_)
      · refine mjZ_y rfl rfl 6 _ _ _ _ ty1 ?_
        refine (And.intro (Nat.le_of_ble_eq_true rfl) (And.intro (Nat.le_of_ble_eq_true rfl) (And.intro rfl (And.intro (Nat.le_of_ble_eq_true rfl) (And.intro (Nat.le_of_ble_eq_true rfl) (mjY_mono ty1 (fun q_ u2 ty2 h_ => ?_) (c_is h.2.1 2 o h2 ty1 72865299780165)))))))
        obtain ⟨rfl, rfl⟩ := h_
        intro _
        refine mjZ_y rfl rfl 1 _ _ _ _ ty1 ?_
        refine And.intro (fun b => ?_) (fun b => ?_)
        · have b : bfI o = 0 := b
          refine go x2 (F1 ++ [t]) F2 (by rw [hF, List.append_assoc]; rfl) ?_ ?_
          · rw [ids_app]; exact e2.trans (lst_snoc _ _ _).symm
          · rw [if_pos b, List.length_append, hl]; rfl
        · have b : ¬ bfI o = 0 := b
          refine mjZ_y rfl rfl 5 _ _ _ _ ty1 ?_
          refine (And.intro rfl (And.intro rfl (And.intro v2 (And.intro (Nat.le_of_ble_eq_true rfl) ?_))))
          refine go _ F1 (t :: F2) hF hPr ?_
          rw [if_neg b, hl]
      · exact absurd (ge_nI (by omega) e2) q
  · have c : kyI (strip ks) w = none := Decidable.of_not_not (fun z => c ((ky_ge h w).1.mpr z))
    have eo : liF (strip ks) w o piv v = none := by unfold liF; rw [c]
    rw [eo]
    refine mjZ_y rfl rfl 3 _ _ _ _ ty1 ?_
    refine (And.intro (Nat.le_of_ble_eq_true rfl) (And.intro rfl (And.intro (Nat.le_of_ble_eq_true rfl) (And.intro (Nat.le_of_ble_eq_true rfl) (mjY_mono ty1 (fun q_ u2 ty2 h_ => ?_) (w_number h ty1 _))))))
    obtain ⟨rfl, h5, f5⟩ := h_
    intro _
    refine mjZ_y rfl rfl 1 _ _ _ _ ty2 ?_
    refine And.intro rfl (And.intro rfl ?_)
    exact ⟨rfl, f5.c, ks, h5, rfl⟩
end LINS
