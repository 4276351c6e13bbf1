/-! SMOVE and HINCRBY. -/
section SMOVE
variable {Y : Nat → MethodName × ByteArray} {d : Nat}
theorem W_slot {σ : mjS} {ws : List (List Int32)} {P Q P2 Q2 : List KR} {y z : KR} {l : List Int32} (h : Wd σ ws (P ++ y :: Q) l) (e : P ++ y :: Q = P2 ++ z :: Q2) (hz : z.1 = y.1) : P2.length = P.length := by
  obtain ⟨⟨hs, fk, fe, k⟩, -⟩ := h
  have nd : (kIds (P ++ y :: Q) ++ fk).Nodup := k.2.2.2.2.2.2.2.1
  have nd := (List.nodup_append.mp nd).1
  rcases List.append_eq_append_iff.mp e with ⟨M, e1, e2⟩ | ⟨M, e1, e2⟩
  · cases M with
    | nil => rw [List.append_nil] at e1; rw [e1]
    | cons m M =>
      obtain ⟨e3, e4⟩ := List.cons.inj e2
      have e4 : Q = M ++ z :: Q2 := e4
      rw [e4, kIds_app, kIds_cons, kIds_app, kIds_cons, hz] at nd
      have n2 := (List.nodup_append.mp nd).2.1
      exact absurd (List.mem_append_right _ List.mem_cons_self) (List.nodup_cons.mp n2).1
  · cases M with
    | nil => rw [List.append_nil] at e1; rw [e1]
    | cons m M =>
      obtain ⟨e3, e4⟩ := List.cons.inj e2
      rw [e1, ← e3, kIds_app, kIds_app, kIds_cons, kIds_cons, hz] at nd
      have n2 := (List.nodup_append.mp nd).2.2
      exact absurd rfl (n2 y.1 (List.mem_append_right _ List.mem_cons_self) y.1 List.mem_cons_self)
def smF (A : List AK) (w1 w2 v : List Int32) : Option (List AK) := match kyI A w1 with
  | none => none
  | some p => (match A[p]? with
    | none => none
    | some a => if skT v a.2.2.2.2.2 = true then (if kyI A w2 = some p then none else
      some (stl1 (upA (orA (upA A p (esF (rmE (skI v a.2.2.2.2.2)))) w2 3).1 (orA (upA A p (esF (rmE (skI v a.2.2.2.2.2)))) w2 3).2 (esF (ptE v)))
        (if kyI (upA A p (esF (rmE (skI v a.2.2.2.2.2)))) w2 = none ∧ (orA (upA A p (esF (rmE (skI v a.2.2.2.2.2)))) w2 3).2 ≤ p then p + 1 else p))) else none)
set_option maxRecDepth 100000 in
theorem r_setMove {σ : mjS} {ws : List (List Int32)} {ks : List KR} {l : List Int32} (h : Wd σ ws ks l) (ty : mjTY σ) {w1 w2 v : List Int32} (h1 : ws[1]? = some w1) (h2 : ws[2]? = some w2) (h3 : ws[3]? = some v) (ht : tT (strip ks) + w2.length ≤ 200000) (hv : v.length ≤ 70000) (hl : ks.length < 4700) (he : eN (strip ks) < 10000) (hs : l.length + 132 + sz ws ≤ 420000) :
    mjY mjPP (mjQQ Y) (d + 6) 125 0 (mjL0 4 [.ref 0]) [] σ (cmdK σ ws ks l 70 (smF (strip ks) w1 w2 v)) := by
  have hlen := (List.getElem?_eq_some_iff.mp h1).1
  refine mjZ_y rfl rfl 3 _ _ _ _ ty ?_
  refine (And.intro (Nat.le_of_ble_eq_true rfl) (And.intro rfl (And.intro (Nat.le_of_ble_eq_true rfl) (And.intro (Nat.le_of_ble_eq_true rfl) (mjY_mono ty (fun q_ u1 ty1 h_ => ?_) (w_key h ty h1 (x := Int32.ofInt 1) rfl))))))
  obtain ⟨rfl, rfl⟩ := h_
  intro _
  by_cases kn : kyI (strip ks) w1 = none
  · have eo : smF (strip ks) w1 w2 v = none := by unfold smF; rw [kn]
    rw [eo]
    refine mjZ_y rfl rfl 5 _ _ _ _ ty1 ?_
    refine (And.intro (Nat.le_of_ble_eq_true rfl) (And.intro (Nat.le_of_ble_eq_true rfl) (And.intro rfl (And.intro (Nat.le_of_ble_eq_true rfl) (And.intro (Nat.le_of_ble_eq_true rfl) (mjY_mono ty1 (fun q_ u2 ty2 h_ => ?_) (w_mem0 h ty1 h3 (ky_none kn) (x2 := Int32.ofInt 3) rfl)))))))
    obtain ⟨rfl, f2, h4⟩ := h_
    intro _
    refine mjZ_y rfl rfl 3 _ _ _ _ ty2 ?_
    refine (And.intro (Nat.le_of_ble_eq_true rfl) (And.intro (fun q => ?_) (fun q => ?_)))
    · exact absurd q (ge_m1 rfl)
    · refine mjZ_y rfl rfl 3 _ _ _ _ ty2 ?_
      refine (And.intro (Nat.le_of_ble_eq_true rfl) (And.intro rfl (And.intro (Nat.le_of_ble_eq_true rfl) (And.intro (Nat.le_of_ble_eq_true rfl) (mjY_mono ty2 (fun q_ u3 ty3 h_ => ?_) (w_number h4 ty2 _))))))
      obtain ⟨rfl, h5, f3⟩ := h_
      intro _
      refine mjZ_y rfl rfl 1 _ _ _ _ ty3 ?_
      refine And.intro rfl (And.intro rfl ?_)
      exact ⟨rfl, (f2.up (by decide) (by decide)).tr f3.c, ks, h5, rfl⟩
  · obtain ⟨P, y, Q, g0, g1, g2, -⟩ := ky_some kn
    have e1 : kyS ks w1 = nI y.1 := g2
    generalize kyS ks w1 = x1 at e1
    subst g0
    have hid := h.id
    refine mjZ_y rfl rfl 5 _ _ _ _ ty1 ?_
    refine (And.intro (Nat.le_of_ble_eq_true rfl) (And.intro (Nat.le_of_ble_eq_true rfl) (And.intro rfl (And.intro (Nat.le_of_ble_eq_true rfl) (And.intro (Nat.le_of_ble_eq_true rfl) (mjY_mono ty1 (fun q_ u2 ty2 h_ => ?_) (w_memS h ty1 h3 e1 (x2 := Int32.ofInt 3) rfl)))))))
    obtain ⟨r, rfl, f2, h4, hr⟩ := h_
    intro _
    have f2c : Fr cF cH u1 u2 := f2.up (by decide) (by decide)
    rcases hr with ⟨b, F1, t, F2, hF, hl1, er, tid⟩ | ⟨b, er⟩
    · have eo : smF (strip (P ++ y :: Q)) w1 w2 v = (if kyI (strip (P ++ y :: Q)) w2 = some P.length then none else
          some (stl1 (upA (orA (upA (strip (P ++ y :: Q)) P.length (esF (rmE (skI v (y.2.2.2.2.2.2.map (fun z => z.2)))))) w2 3).1 (orA (upA (strip (P ++ y :: Q)) P.length (esF (rmE (skI v (y.2.2.2.2.2.2.map (fun z => z.2)))))) w2 3).2 (esF (ptE v)))
            (if kyI (upA (strip (P ++ y :: Q)) P.length (esF (rmE (skI v (y.2.2.2.2.2.2.map (fun z => z.2)))))) w2 = none ∧ (orA (upA (strip (P ++ y :: Q)) P.length (esF (rmE (skI v (y.2.2.2.2.2.2.map (fun z => z.2)))))) w2 3).2 ≤ P.length then P.length + 1 else P.length))) := by
        unfold smF; rw [g1]
        simp only [strip_gt]
        exact if_pos b
      rw [eo]
      refine mjZ_y rfl rfl 3 _ _ _ _ ty2 ?_
      refine (And.intro (Nat.le_of_ble_eq_true rfl) (And.intro (fun q => ?_) (fun q => ?_)))
      · refine mjZ_y rfl rfl 3 _ _ _ _ ty2 ?_
        refine (And.intro (Nat.le_of_ble_eq_true rfl) (And.intro rfl (And.intro (Nat.le_of_ble_eq_true rfl) (And.intro (Nat.le_of_ble_eq_true rfl) (mjY_mono ty2 (fun q_ u3 ty3 h_ => ?_) (w_key h4 ty2 h2 (x := Int32.ofInt 2) rfl))))))
        obtain ⟨rfl, rfl⟩ := h_
        intro _
        refine mjZ_y rfl rfl 4 _ _ _ _ ty3 ?_
        refine (And.intro (Nat.le_of_ble_eq_true rfl) (And.intro (fun c => ?_) (fun c => ?_)))
        · have c : kyI (strip (P ++ y :: Q)) w2 = some P.length := by
            have c : kyS (P ++ y :: Q) w2 = x1 := c
            rcases ky_cases (P ++ y :: Q) w2 with ⟨a1, a2⟩ | ⟨P2, z, Q2, a0, a1, a2, -⟩
            · rw [a2, e1] at c
              exact absurd (lt_m1 c.symm) (lt_nI (by omega) rfl)
            · have ez : z.1 = y.1 := by
                have hz : Wd u3 ws (P2 ++ z :: Q2) l := by rw [← a0]; exact h4
                have := hz.id
                rw [a2, e1] at c; exact (nI_eq (by omega) (by omega)).mp c
              rw [a1, W_slot h4 a0 ez]
          rw [if_pos c]
          refine mjZ_y rfl rfl 3 _ _ _ _ ty3 ?_
          refine (And.intro (Nat.le_of_ble_eq_true rfl) (And.intro rfl (And.intro (Nat.le_of_ble_eq_true rfl) (And.intro (Nat.le_of_ble_eq_true rfl) (mjY_mono ty3 (fun q_ u4 ty4 h_ => ?_) (w_number h4 ty3 _))))))
          obtain ⟨rfl, h5, f5⟩ := h_
          intro _
          refine mjZ_y rfl rfl 1 _ _ _ _ ty4 ?_
          refine And.intro rfl (And.intro rfl ?_)
          exact ⟨rfl, f2c.tr f5.c, _, h5, rfl⟩
        · have c : ¬ kyI (strip (P ++ y :: Q)) w2 = some P.length := by
            intro z
            refine c ?_
            show kyS (P ++ y :: Q) w2 = x1
            rcases ky_cases (P ++ y :: Q) w2 with ⟨a1, a2⟩ | ⟨P2, z2, Q2, a0, a1, a2, -⟩
            · rw [a1] at z; cases z
            · rw [a1] at z
              have hp : P2.length = P.length := Option.some.inj z
              have e3 := List.append_inj a0 hp.symm
              obtain ⟨e4, -⟩ := List.cons.inj e3.2
              rw [a2, e1, e4]
          rw [if_neg c]
          refine mjZ_y rfl rfl 4 _ _ _ _ ty3 ?_
          refine (And.intro (Nat.le_of_ble_eq_true rfl) (And.intro rfl (And.intro (Nat.le_of_ble_eq_true rfl) (And.intro (Nat.le_of_ble_eq_true rfl) (mjY_mono ty3 (fun q_ u4 ty4 h_ => ?_) (w_unlink h4 ty3 hF e1 er))))))
          obtain ⟨rfl, h5, f5⟩ := h_
          intro _
          have hm : (F1 ++ F2).map (fun z => z.2) = rmE (skI v (y.2.2.2.2.2.2.map (fun z => z.2))) (y.2.2.2.2.2.2.map (fun z => z.2)) := by
            rw [← hl1, hF, List.map_append, List.map_append, List.map_cons]
            have e := rmE_at (F1.map (fun z => z.2)) t.2 (F2.map (fun z => z.2))
            rw [List.length_map] at e
            exact e.symm
          have sA : strip (P ++ withE y (F1 ++ F2) :: Q) = upA (strip (P ++ y :: Q)) P.length (esF (rmE (skI v (y.2.2.2.2.2.2.map (fun z => z.2))))) := strip_up (st1_with hm)
          have tA := tT_with P Q y (F1 ++ F2)
          have nA := eN_with P Q y (F1 ++ F2)
          have tB : eT ((F1 ++ F2).map (fun z => z.2)) ≤ eT (y.2.2.2.2.2.2.map (fun z => z.2)) := by
            rw [hF, List.map_append, List.map_append, List.map_cons, eT_app, eT_app]
            show _ ≤ _ + (_ + eT (F2.map (fun z => z.2))); omega
          have nB : (F1 ++ F2).length + 1 = y.2.2.2.2.2.2.length := by rw [hF, List.length_append, List.length_append, List.length_cons]; omega
          rw [← sA]
          have om := orA_m (strip (P ++ withE y (F1 ++ F2) :: Q)) w2 3
          refine mjZ_y rfl rfl 4 _ _ _ _ ty4 ?_
          refine (And.intro (Nat.le_of_ble_eq_true rfl) (And.intro rfl (And.intro (Nat.le_of_ble_eq_true rfl) (And.intro (Nat.le_of_ble_eq_true rfl) (mjY_mono ty4 (fun q_ u5 ty5 h_ => ?_) (w_makeOr2 h5 ty4 h2 (x := Int32.ofInt 2) rfl 3 (by omega) (by omega) (by rw [List.length_append, List.length_cons] at hl ⊢; exact hl)))))))
          obtain ⟨P2, z, Q2, rfl, h6, f6, s4, p4, r4⟩ := h_
          intro _
          generalize hA1 : strip (P ++ withE y (F1 ++ F2) :: Q) = A1 at *
          rw [← s4] at om
          obtain ⟨v3, -⟩ := h6.2.1.clamp h3 (x := Int32.ofInt 3) rfl
          refine mjZ_y rfl rfl 14 _ _ _ _ ty5 ?_
          refine (And.intro (Nat.le_of_ble_eq_true rfl) (And.intro rfl (And.intro rfl (And.intro rfl (And.intro v3 (And.intro rfl (And.intro rfl (And.intro v3 (And.intro (Nat.le_of_ble_eq_true rfl) (And.intro rfl (And.intro (Nat.le_of_ble_eq_true rfl) (And.intro (Nat.le_of_ble_eq_true rfl) (mjY_mono ty5 (fun q_ u6 ty6 h_ => ?_) (w_put h6 ty5 h3 rfl (xi := Int32.ofInt 3) rfl (by omega) (by omega) (by omega)))))))))))))))
          obtain ⟨G1, e, G2, rfl, f7, h7, hl7, hm7⟩ := h_
          intro _
          refine mjZ_y rfl rfl 1 _ _ _ _ ty6 ?_
          have s7 : strip (P2 ++ withE z (G1 ++ e :: G2) :: Q2) = upA (orA A1 w2 3).1 (orA A1 w2 3).2 (esF (ptE v)) := by
            rw [← s4, ← p4]; exact strip_up (st1_with hm7)
          have fd : ∃ R t S, P2 ++ withE z (G1 ++ e :: G2) :: Q2 = R ++ t :: S ∧ t.1 = y.1 ∧ R.length = (if kyI A1 w2 = none ∧ (orA A1 w2 3).2 ≤ P.length then P.length + 1 else P.length) := by
            rcases r4 with ⟨a, b⟩ | ⟨a, b⟩
            · rw [if_neg (fun c => a c.1)]
              exact mv_findE (y := withE y (F1 ++ F2)) (z := z) (z2 := withE z (G1 ++ e :: G2)) rfl b
            · obtain ⟨R, t, S, c1, c2, c3⟩ := mv_findN (y := withE y (F1 ++ F2)) (z2 := withE z (G1 ++ e :: G2)) b
              refine ⟨R, t, S, c1, c2, ?_⟩
              rw [c3, ← p4]
              by_cases c : P2.length ≤ P.length
              · rw [if_pos c, if_pos ⟨a, c⟩]
              · rw [if_neg c, if_neg (fun q => c q.2)]
          refine mjZ_y rfl rfl 3 _ _ _ _ ty6 ?_
          refine (And.intro (Nat.le_of_ble_eq_true rfl) (And.intro rfl (And.intro (Nat.le_of_ble_eq_true rfl) (And.intro (Nat.le_of_ble_eq_true rfl) (mjY_mono ty6 (fun q_ u7 ty7 h_ => ?_) (w_touch h7 ty6 (x := withE z (G1 ++ e :: G2)) (List.mem_append_right _ List.mem_cons_self) rfl))))))
          obtain ⟨rfl, h8, f8⟩ := h_
          intro _
          obtain ⟨R, tt, S, c1, c2, c3⟩ := fd
          rw [c1] at h8 s7
          rw [← s7, ← c3]
          have fa : Fr cF cH u1 u7 := (((f2c.tr f5.k).tr f6.k).tr (f7.up (by decide) (by decide))).tr f8.t
          have hl5 := W_len h8
          refine mjZ_y rfl rfl 3 _ _ _ _ ty7 ?_
          refine (And.intro (Nat.le_of_ble_eq_true rfl) (And.intro rfl (And.intro (Nat.le_of_ble_eq_true rfl) (And.intro (Nat.le_of_ble_eq_true rfl) (mjY_mono ty7 (fun q_ u8 ty8 h_ => ?_) (w_settle h8 ty7 (show x1 = nI tt.1 by rw [c2]; exact e1) (by omega)))))))
          obtain ⟨rfl, f9, h9⟩ := h_
          intro _
          have fb := fa.tr f9.k1
          rcases h9 with ⟨q, h9⟩ | ⟨q, h9⟩
          · refine mjZ_y rfl rfl 3 _ _ _ _ ty8 ?_
            refine (And.intro (Nat.le_of_ble_eq_true rfl) (And.intro rfl (And.intro (Nat.le_of_ble_eq_true rfl) (And.intro (Nat.le_of_ble_eq_true rfl) (mjY_mono ty8 (fun q_ u9 ty9 h_ => ?_) (w_noteAll h9 ty8 (by omega) 70 rfl (by decide) hs))))))
            obtain ⟨rfl, h10, f10⟩ := h_
            intro _
            refine mjZ_y rfl rfl 3 _ _ _ _ ty9 ?_
            refine (And.intro (Nat.le_of_ble_eq_true rfl) (And.intro rfl (And.intro (Nat.le_of_ble_eq_true rfl) (And.intro (Nat.le_of_ble_eq_true rfl) (mjY_mono ty9 (fun q_ u10 ty10 h_ => ?_) (w_number h10 ty9 _))))))
            obtain ⟨rfl, h11, f11⟩ := h_
            intro _
            refine mjZ_y rfl rfl 1 _ _ _ _ ty10 ?_
            refine And.intro rfl (And.intro rfl ?_)
            rw [ntA_fr fb] at h11
            exact ⟨rfl, (fb.tr f10.n).tr f11.c, _, h11, stl1_nil q⟩
          · refine mjZ_y rfl rfl 3 _ _ _ _ ty8 ?_
            refine (And.intro (Nat.le_of_ble_eq_true rfl) (And.intro rfl (And.intro (Nat.le_of_ble_eq_true rfl) (And.intro (Nat.le_of_ble_eq_true rfl) (mjY_mono ty8 (fun q_ u9 ty9 h_ => ?_) (w_noteAll h9 ty8 (by omega) 70 rfl (by decide) hs))))))
            obtain ⟨rfl, h10, f10⟩ := h_
            intro _
            refine mjZ_y rfl rfl 3 _ _ _ _ ty9 ?_
            refine (And.intro (Nat.le_of_ble_eq_true rfl) (And.intro rfl (And.intro (Nat.le_of_ble_eq_true rfl) (And.intro (Nat.le_of_ble_eq_true rfl) (mjY_mono ty9 (fun q_ u10 ty10 h_ => ?_) (w_number h10 ty9 _))))))
            obtain ⟨rfl, h11, f11⟩ := h_
            intro _
            refine mjZ_y rfl rfl 1 _ _ _ _ ty10 ?_
            refine And.intro rfl (And.intro rfl ?_)
            rw [ntA_fr fb] at h11
            exact ⟨rfl, (fb.tr f10.n).tr f11.c, _, h11, stl1_cons q⟩
      · exact absurd (ge_nI (by omega) er) q
    · have eo : smF (strip (P ++ y :: Q)) w1 w2 v = none := by
        unfold smF; rw [g1]
        simp only [strip_gt]
        exact if_neg b
      rw [eo]
      refine mjZ_y rfl rfl 3 _ _ _ _ ty2 ?_
      refine (And.intro (Nat.le_of_ble_eq_true rfl) (And.intro (fun q => ?_) (fun q => ?_)))
      · exact absurd q (ge_m1 er)
      · refine mjZ_y rfl rfl 3 _ _ _ _ ty2 ?_
        refine (And.intro (Nat.le_of_ble_eq_true rfl) (And.intro rfl (And.intro (Nat.le_of_ble_eq_true rfl) (And.intro (Nat.le_of_ble_eq_true rfl) (mjY_mono ty2 (fun q_ u3 ty3 h_ => ?_) (w_number h4 ty2 _))))))
        obtain ⟨rfl, h5, f3⟩ := h_
        intro _
        refine mjZ_y rfl rfl 1 _ _ _ _ ty3 ?_
        refine And.intro rfl (And.intro rfl ?_)
        exact ⟨rfl, f2c.tr f3.c, _, h5, rfl⟩
-- HINCRBY
def vhA (A : List AK) (w f : List Int32) : Option Int64 := match kyI A w with
  | none => some 0
  | some p => (match A[p]? with
    | none => some 0
    | some a => if skT f a.2.2.2.2.2 = true then (match a.2.2.2.2.2[skI f a.2.2.2.2.2]? with
      | some z => intF z.2.1
      | none => some 0) else some 0)
def hiF (A : List AK) (w f : List Int32) (n : Int64) : Option (List AK) := match vhA A w f with
  | none => none
  | some v => if ovI v n = 0 then some (upA (orA A w 2).1 (orA A w 2).2 (esF (hpE f (dec (v + n))))) else none
set_option maxRecDepth 100000 in
theorem c_hi_loop (K : mjK) (x1 x2 : Int32) (v : Int64) (n : Nat) (hn : n ≤ 20) (D W0 : Nat → Int32) : ∀ (j i : Nat) (σ : mjS) (x : Int32), x = nI i → i + j = n → mjTY σ → σ.1 f_digitsSize = nI n → σ.2.2.1 r_digits = D → σ.2.2.1 r_work = va_cpy D W0 0 0 i →
    (∀ u x, mjTY u → Fr [] [r_work] σ u → u.2.2.1 r_work = va_cpy D W0 0 0 n → mjY mjPP (mjQQ Y) d 120 91 [some (.ref 0), some (.int x1), some (.int x2), some (.long v), none, some (.int x)] [] u K) →
    mjY mjPP (mjQQ Y) d 120 77 [some (.ref 0), some (.int x1), some (.int x2), some (.long v), none, some (.int x)] [] σ K := by
  intro j
  induction j with
  | zero =>
    intro i σ x e1 hi ty ez eD eW hK
    have ei : i = n := by omega
    subst ei
    refine mjZ_y rfl rfl 4 _ _ _ _ ty ?_
    refine (And.intro rfl (And.intro (fun q => ?_) (fun q => ?_)))
    · exact hK σ _ ty Fr.rf eW
    · exact absurd (show σ.1 f_digitsSize ≤ x by rw [ez, e1]; exact nI_le (Nat.le_refl _) (by omega)) q
  | succ j ih =>
    intro i σ x e1 hi ty ez eD eW hK
    refine mjZ_y rfl rfl 4 _ _ _ _ ty ?_
    refine (And.intro rfl (And.intro (fun q => ?_) (fun q => ?_)))
    · exact absurd (show σ.1 f_digitsSize ≤ x from q) (by rw [ez, e1]; exact nI_ge (by omega) (by omega))
    · refine mjZ_y rfl rfl 10 _ _ _ _ ty ?_
      refine (And.intro rfl (And.intro rfl (And.intro (Or.inl rfl) (And.intro (by rw [e1]; exact vp_in_nI (by show i < 24; omega) (by decide)) (And.intro (Or.inl ⟨rfl, ty.2.1 50 _ rfl⟩) (And.intro (by rw [e1]; exact vp_in_nI (by show i < 70000; omega) (by decide)) (fun ty' => ?_)))))))
      refine ih (i + 1) _ _ (by rw [e1]; exact nI_1 i) (by omega) ty' ez eD ?_ (fun u x tu fu pu => hK u x tu ((Fr.a (by decide)).tr fu) pu)
      show mjIu σ.2.2.1 r_work x.toNatClampNeg (σ.2.2.1 r_digits x.toNatClampNeg) r_work = _
      rw [mjIu_self, e1, nI_clamp (by omega), eW, eD]
      have e := cpy_s (f := D) (g := W0) (sp := 0) (dp := 0) (k := i)
      rw [Nat.zero_add] at e
      exact e
set_option maxRecDepth 100000 in
theorem c_hi_33 {σ u0 : mjS} {ws : List (List Int32)} {ks : List KR} {l : List Int32} (h : Wd σ ws ks l) (ty : mjTY σ) (f0 : Fr cF cH u0 σ) (x1 x2 : Int32) {w f : List Int32} (h1 : ws[1]? = some w) (h2 : ws[2]? = some f) (v n : Int64) (en : σ.2.1 f_n1 = n) (ht : tT (strip ks) + w.length + f.length ≤ 200000) (hl : ks.length < 4700) (he : eN (strip ks) < 10000) (hs : l.length + 132 + sz ws ≤ 420000) :
    mjY mjPP (mjQQ Y) (d + 6) 120 33 [some (.ref 0), some (.int x1), some (.int x2), some (.long v), none, none] [] σ (cmdK u0 ws ks l 63 (if ovI v n = 0 then some (upA (orA (strip ks) w 2).1 (orA (strip ks) w 2).2 (esF (hpE f (dec (v + n))))) else none)) := by
  have hlen := (List.getElem?_eq_some_iff.mp h1).1
  have hc := c_overflows (Y := Y) (d := d + 5) ty v n
  rw [← en] at hc
  refine mjZ_y rfl rfl 5 _ _ _ _ ty ?_
  refine (And.intro rfl (And.intro (Nat.le_of_ble_eq_true rfl) (And.intro rfl (And.intro (Nat.le_of_ble_eq_true rfl) (And.intro (Nat.le_of_ble_eq_true rfl) (mjY_mono ty (fun q_ u1 ty1 h_ => ?_) (hc)))))))
  obtain ⟨rfl, rfl⟩ := h_
  intro _
  rw [en]
  refine mjZ_y rfl rfl 1 _ _ _ _ ty ?_
  refine And.intro (fun q => ?_) (fun q => ?_)
  · have q : ovI v n = 0 := q
    rw [if_pos q]
    have om := orA_m (strip ks) w 2
    refine mjZ_y rfl rfl 4 _ _ _ _ ty ?_
    refine (And.intro (Nat.le_of_ble_eq_true rfl) (And.intro rfl (And.intro (Nat.le_of_ble_eq_true rfl) (And.intro (Nat.le_of_ble_eq_true rfl) (mjY_mono ty (fun q_ u2 ty2 h_ => ?_) (w_makeOr h ty h1 (x := Int32.ofInt 1) rfl 2 (by omega) (by omega) hl))))))
    obtain ⟨P, y, Q, rfl, h3, f3, g1, g2⟩ := h_
    intro _
    obtain ⟨v2, -⟩ := h3.2.1.clamp h2 (x := Int32.ofInt 2) rfl
    refine mjZ_y rfl rfl 14 _ _ _ _ ty2 ?_
    refine (And.intro (Nat.le_of_ble_eq_true rfl) (And.intro rfl (And.intro rfl (And.intro rfl (And.intro v2 (And.intro rfl (And.intro rfl (And.intro v2 (And.intro (Nat.le_of_ble_eq_true rfl) (And.intro rfl (And.intro (Nat.le_of_ble_eq_true rfl) (And.intro (Nat.le_of_ble_eq_true rfl) (mjY_mono ty2 (fun q_ u3 ty3 h_ => ?_) (w_put h3 ty2 h2 rfl (xi := Int32.ofInt 2) rfl (by rw [g1]; omega) (by rw [g1]; omega) (by rw [g1]; omega)))))))))))))))
    obtain ⟨F1, t, F2, rfl, f4, h4, hl4, hm⟩ := h_
    intro _
    have pm := ptE_tT f (y.2.2.2.2.2.2.map (fun z => z.2))
    rw [← hm] at pm
    have t1 := tT_with P Q y (F1 ++ t :: F2)
    rw [g1] at t1
    obtain ⟨hz, hh, ho⟩ := h4.eid (y := t) (show t ∈ F1 ++ t :: F2 from List.mem_append_right _ List.mem_cons_self)
    have tid := ho.1
    have v5 : vp_in (nI t.1) 10000 := vp_in_nI tid (by decide)
    refine mjZ_y rfl rfl 6 _ _ _ _ ty3 ?_
    refine (And.intro (Nat.le_of_ble_eq_true rfl) (And.intro rfl (And.intro rfl (And.intro v5 (fun ty3' => ?_)))))
    have h5 := W_with (h4.vlen (x := withE y (F1 ++ t :: F2)) (E1 := F1) (E2 := F2) rfl (c := (nI t.1).toNatClampNeg) (nI_clamp (by omega)))
    have f5 : Fr cF cH u3 (u3.1, u3.2.1, mjIu u3.2.2.1 r_vLen (nI t.1).toNatClampNeg 0, u3.2.2.2) := Fr.a (h := r_vLen) (by decide)
    have t2 := tT_with P Q y (F1 ++ (t.1, t.2.1, [], t.2.2.2) :: F2)
    rw [g1] at t2
    have t3 : eT ((F1 ++ (t.1, t.2.1, [], t.2.2.2) :: F2).map (fun z => z.2)) ≤ eT ((F1 ++ t :: F2).map (fun z => z.2)) := by
      rw [List.map_append, List.map_append, List.map_cons, List.map_cons, eT_app, eT_app]
      show _ + (t.2.1.length + 0 + _) ≤ _ + (t.2.1.length + t.2.2.1.length + _)
      omega
    have en3 : u3.2.1 75 = n := by rw [show u3.2.1 75 = u2.2.1 75 from f4.2.1 75 (by decide), show u2.2.1 75 = u1.2.1 75 from f3.2.1 75 (by decide)]; exact en
    have go : ∀ u4 : mjS, mjTY u4 → u4 = (u3.1, u3.2.1, mjIu u3.2.2.1 r_vLen (nI t.1).toNatClampNeg 0, u3.2.2.2) → mjY mjPP (mjQQ Y) (d + 6) 120 69 [some (.ref 0), some (.int (nI y.1)), some (.int (nI t.1)), some (.long v), none, none] [] u4 (cmdK u0 ws ks l 63 (some (upA (orA (strip ks) w 2).1 (orA (strip ks) w 2).2 (esF (hpE f (dec (v + n))))))) := by
      intro u4 ty4 eu
      rw [← eu] at h5 f5
      have en4 : u4.2.1 75 = n := by rw [eu]; exact en3
      have hsp := c_spell (Y := Y) (d := d + 5) ty4 (v + n)
      rw [← en4] at hsp
      refine mjZ_y rfl rfl 6 _ _ _ _ ty4 ?_
      refine (And.intro rfl (And.intro (Nat.le_of_ble_eq_true rfl) (And.intro rfl (And.intro (Nat.le_of_ble_eq_true rfl) (And.intro (Nat.le_of_ble_eq_true rfl) (mjY_mono ty4 (fun q_ u5 ty5 h_ => ?_) (hsp)))))))
      obtain ⟨rfl, f6, sp⟩ := h_
      intro _
      rw [en4] at sp
      obtain ⟨d1, d2, d3⟩ := spelt_dec sp
      have h6 := h5.fr f6 (by decide) (by decide)
      refine mjZ_y rfl rfl 2 _ _ _ _ ty5 ?_
      refine (And.intro (Nat.le_of_ble_eq_true rfl) ?_)
      refine c_hi_loop _ _ _ _ (dec (v + n)).length d2 (u5.2.2.1 r_digits) (u5.2.2.1 r_work) (dec (v + n)).length 0 u5 _ rfl (by omega) ty5 d1 rfl (by rw [cpy_0]) (fun u6 x ty6 f7 e7 => ?_)
      have h7 := h6.fr f7 (by decide) (by decide)
      have ez : u6.1 f_digitsSize = nI (dec (v + n)).length := by rw [f7.1 _ (by decide)]; exact d1
      refine mjZ_y rfl rfl 8 _ _ _ _ ty6 ?_
      refine (And.intro rfl (And.intro rfl (And.intro (Nat.le_of_ble_eq_true rfl) (And.intro rfl (And.intro (Nat.le_of_ble_eq_true rfl) (And.intro (Nat.le_of_ble_eq_true rfl) (mjY_mono ty6 (fun q_ u7 ty7 h_ => ?_) (w_give h7 ty6 (x := withE y (F1 ++ (t.1, t.2.1, [], t.2.2.2) :: F2)) (y := (t.1, t.2.1, [], t.2.2.2)) (E1 := F1) (E2 := F2) rfl r_work 0 (dec (v + n)).length rfl (by decide) (by show 0 + (dec (v + n)).length ≤ 70000; omega) (by decide) (by omega) (by omega) rfl rfl ez))))))))
      obtain ⟨rfl, h8, f8⟩ := h_
      intro _
      have h8 : Wd u7 ws (P ++ withE y (F1 ++ (t.1, t.2.1, wd (u6.2.2.1 r_work) 0 (dec (v + n)).length, t.2.2.2) :: F2) :: Q) l := h8
      rw [e7, cpy_wd, d3] at h8
      refine mjZ_y rfl rfl 3 _ _ _ _ ty7 ?_
      refine (And.intro (Nat.le_of_ble_eq_true rfl) (And.intro rfl (And.intro (Nat.le_of_ble_eq_true rfl) (And.intro (Nat.le_of_ble_eq_true rfl) (mjY_mono ty7 (fun q_ u8 ty8 h_ => ?_) (w_touch h8 ty7 (x := withE y (F1 ++ (t.1, t.2.1, dec (v + n), t.2.2.2) :: F2)) (List.mem_append_right _ List.mem_cons_self) rfl))))))
      obtain ⟨rfl, h9, f9⟩ := h_
      intro _
      refine mjZ_y rfl rfl 3 _ _ _ _ ty8 ?_
      refine (And.intro (Nat.le_of_ble_eq_true rfl) (And.intro rfl (And.intro (Nat.le_of_ble_eq_true rfl) (And.intro (Nat.le_of_ble_eq_true rfl) (mjY_mono ty8 (fun q_ u9 ty9 h_ => ?_) (w_noteAll h9 ty8 (by omega) 63 rfl (by decide) hs))))))
      obtain ⟨rfl, h10, f10⟩ := h_
      intro _
      refine mjZ_y rfl rfl 6 _ _ _ _ ty9 ?_
      refine (And.intro rfl (And.intro (Nat.le_of_ble_eq_true rfl) (And.intro rfl (And.intro (Nat.le_of_ble_eq_true rfl) (And.intro (Nat.le_of_ble_eq_true rfl) (mjY_mono ty9 (fun q_ u10 ty10 h_ => ?_) (w_number h10 ty9 _)))))))
      obtain ⟨rfl, h11, f11⟩ := h_
      intro _
      refine mjZ_y rfl rfl 1 _ _ _ _ ty10 ?_
      refine And.intro rfl (And.intro rfl ?_)
      have fa : Fr cF cH u0 u8 := (((((f0.tr f3.k).tr (f4.up (by decide) (by decide))).tr f5).tr (f6.up (by decide) (by decide))).tr (f7.up (by decide) (by decide))).tr (f8.k.tr f9.t)
      rw [ntA_fr fa] at h11
      refine ⟨rfl, (fa.tr f10.n).tr f11.c, _, h11, ?_⟩
      rw [← g1, ← g2]
      refine strip_up (st1_with ?_)
      unfold hpE
      rw [← hm, ← hl4, List.map_append, List.map_cons, List.map_append, List.map_cons]
      have e := gvE_at (F1.map (fun z => z.2)) t.2 (F2.map (fun z => z.2)) (dec (v + n))
      rw [List.length_map] at e
      exact e.symm
    exact go _ ty3' rfl
  · have q : ¬ ovI v n = 0 := q
    rw [if_neg q]
    refine mjZ_y rfl rfl 4 _ _ _ _ ty ?_
    refine (And.intro (Nat.le_of_ble_eq_true rfl) (And.intro rfl (And.intro (Nat.le_of_ble_eq_true rfl) (And.intro (Nat.le_of_ble_eq_true rfl) (mjY_mono ty (fun q_ u2 ty2 h_ => ?_) (w_error h ty _ _))))))
    obtain ⟨rfl, h3, f3⟩ := h_
    intro _
    refine mjZ_y rfl rfl 2 _ _ _ _ ty2 ?_
    refine And.intro rfl (And.intro rfl ?_)
    exact ⟨rfl, f0.tr f3.c, ks, h3, rfl⟩
set_option maxRecDepth 100000 in
theorem r_hashIncr {σ : mjS} {ws : List (List Int32)} {ks : List KR} {l : List Int32} (h : Wd σ ws ks l) (ty : mjTY σ) {w f : List Int32} (h1 : ws[1]? = some w) (h2 : ws[2]? = some f) (n : Int64) (en : σ.2.1 f_n1 = n) (ht : tT (strip ks) + w.length + f.length ≤ 200000) (hl : ks.length < 4700) (he : eN (strip ks) < 10000) (hs : l.length + 132 + sz ws ≤ 420000) :
    mjY mjPP (mjQQ Y) (d + 6) 120 0 (mjL0 6 [.ref 0]) [] σ (cmdK σ ws ks l 63 (hiF (strip ks) w f n)) := by
  refine mjZ_y rfl rfl 3 _ _ _ _ ty ?_
  refine (And.intro (Nat.le_of_ble_eq_true rfl) (And.intro rfl (And.intro (Nat.le_of_ble_eq_true rfl) (And.intro (Nat.le_of_ble_eq_true rfl) (mjY_mono ty (fun q_ u1 ty1 h_ => ?_) (w_key h ty h1 (x := Int32.ofInt 1) rfl))))))
  obtain ⟨rfl, rfl⟩ := h_
  intro _
  -- no such element
  have zero : ∀ (u : mjS) (x1 : Int32), mjTY u → Wd u ws ks l → Fr [f_found] [] u1 u → vhA (strip ks) w f = some 0 → mjY mjPP (mjQQ Y) (d + 6) 120 8 [some (.ref 0), some (.int x1), none, none, none, none] [.int (-1)] u (cmdK u1 ws ks l 63 (hiF (strip ks) w f n)) := by
    intro u x1 tu hu fu ev
    have eo : hiF (strip ks) w f n = (if ovI 0 n = 0 then some (upA (orA (strip ks) w 2).1 (orA (strip ks) w 2).2 (esF (hpE f (dec (0 + n))))) else none) := by unfold hiF; rw [ev]
    rw [eo]
    refine mjZ_y rfl rfl 5 _ _ _ _ tu ?_
    refine (And.intro (Nat.le_of_ble_eq_true rfl) (And.intro (Nat.le_of_ble_eq_true rfl) (And.intro (fun q => ?_) (fun q => ?_))))
    · exact c_hi_33 hu tu (fu.up (by decide) (by decide)) _ _ h1 h2 0 n (by rw [fu.2.1 _ (by decide)]; exact en) ht hl he hs
    · exact absurd (lt_m1 rfl) q
  by_cases kn : kyI (strip ks) w = none
  · have ev : vhA (strip ks) w f = some 0 := by unfold vhA; rw [kn]
    refine mjZ_y rfl rfl 5 _ _ _ _ ty1 ?_
    refine (And.intro (Nat.le_of_ble_eq_true rfl) (And.intro (Nat.le_of_ble_eq_true rfl) (And.intro rfl (And.intro (Nat.le_of_ble_eq_true rfl) (And.intro (Nat.le_of_ble_eq_true rfl) (mjY_mono ty1 (fun q_ u2 ty2 h_ => ?_) (w_mem0 h ty1 h2 (ky_none kn) (x2 := Int32.ofInt 2) rfl)))))))
    obtain ⟨rfl, f2, h4⟩ := h_
    intro _
    exact zero u2 _ ty2 h4 f2 ev
  · obtain ⟨P, y, Q, g0, g1, g2, -⟩ := ky_some kn
    have e1 : kyS ks w = nI y.1 := g2
    generalize kyS ks w = x1 at e1
    subst g0
    refine mjZ_y rfl rfl 5 _ _ _ _ ty1 ?_
    refine (And.intro (Nat.le_of_ble_eq_true rfl) (And.intro (Nat.le_of_ble_eq_true rfl) (And.intro rfl (And.intro (Nat.le_of_ble_eq_true rfl) (And.intro (Nat.le_of_ble_eq_true rfl) (mjY_mono ty1 (fun q_ u2 ty2 h_ => ?_) (w_memS h ty1 h2 e1 (x2 := Int32.ofInt 2) rfl)))))))
    obtain ⟨r, rfl, f2, h4, hr⟩ := h_
    intro _
    rcases hr with ⟨b, F1, t, F2, hF, hl1, er, tid⟩ | ⟨b, er⟩
    · have ev : vhA (strip (P ++ y :: Q)) w f = intF t.2.2.1 := by
        unfold vhA; rw [g1]
        simp only [strip_gt]
        refine (if_pos b).trans ?_
        have eg : (y.2.2.2.2.2.2.map (fun z => z.2))[skI f (y.2.2.2.2.2.2.map (fun z => z.2))]? = some t.2 := by
          rw [← hl1, List.getElem?_map, hF, List.getElem?_append_right (Nat.le_refl _), Nat.sub_self]; rfl
        show (match (y.2.2.2.2.2.2.map (fun z => z.2))[skI f (y.2.2.2.2.2.2.map (fun z => z.2))]? with | some z => intF z.2.1 | none => some 0) = _
        rw [eg]
      obtain ⟨hz, hh, ho⟩ := h4.eid (y := t) (by rw [hF]; exact List.mem_append_right _ List.mem_cons_self)
      have v2 : vp_in r 10000 := by rw [er]; exact vp_in_nI tid (by decide)
      obtain ⟨a, ea, el, ha, ew⟩ := ho.2.2.1.clamp hh (by omega) er
      have hc := c_integerAt (Y := Y) (d := d + 5) ty2 r_heap a t.2.2.1.length rfl ha (by decide)
      rw [← ea, ← el, ew] at hc
      refine mjZ_y rfl rfl 5 _ _ _ _ ty2 ?_
      refine (And.intro (Nat.le_of_ble_eq_true rfl) (And.intro (Nat.le_of_ble_eq_true rfl) (And.intro (fun q => ?_) (fun q => ?_))))
      · exact absurd (show r < 0 from q) (lt_nI (by omega) er)
      · refine mjZ_y rfl rfl 12 _ _ _ _ ty2 ?_
        refine (And.intro rfl (And.intro rfl (And.intro rfl (And.intro v2 (And.intro rfl (And.intro rfl (And.intro v2 (And.intro (Nat.le_of_ble_eq_true rfl) (And.intro rfl (And.intro (Nat.le_of_ble_eq_true rfl) (And.intro (Nat.le_of_ble_eq_true rfl) (mjY_mono ty2 (fun q_ u3 ty3 h_ => ?_) (hc)))))))))))))
        have h5 := h_
        intro _
        have f2c : Fr cF cH u1 u2 := f2.up (by decide) (by decide)
        cases ei : intF t.2.2.1 with
        | none =>
          rw [ei] at h5
          obtain ⟨rfl, rfl⟩ := h5
          have eo : hiF (strip (P ++ y :: Q)) w f n = none := by unfold hiF; rw [ev, ei]
          rw [eo]
          refine mjZ_y rfl rfl 1 _ _ _ _ ty3 ?_
          refine And.intro (fun c => ?_) (fun c => ?_)
          · exact absurd rfl c
          · refine mjZ_y rfl rfl 2 _ _ _ _ ty3 ?_
            refine (And.intro (Nat.le_of_ble_eq_true rfl) (And.intro rfl (And.intro (Nat.le_of_ble_eq_true rfl) (And.intro (Nat.le_of_ble_eq_true rfl) (mjY_mono ty3 (fun q_ u4 ty4 h_ => ?_) (w_noInteger h4 ty3))))))
            obtain ⟨rfl, h6, f6⟩ := h_
            intro _
            refine mjZ_y rfl rfl 2 _ _ _ _ ty4 ?_
            refine And.intro rfl (And.intro rfl ?_)
            exact ⟨rfl, f2c.tr f6.c, _, h6, rfl⟩
        | some z =>
          rw [ei] at h5
          obtain ⟨rfl, f5, e5⟩ := h5
          have eo : hiF (strip (P ++ y :: Q)) w f n = (if ovI z n = 0 then some (upA (orA (strip (P ++ y :: Q)) w 2).1 (orA (strip (P ++ y :: Q)) w 2).2 (esF (hpE f (dec (z + n))))) else none) := by unfold hiF; rw [ev, ei]
          rw [eo]
          have h6 := h4.fr f5 (by decide) (by decide)
          refine mjZ_y rfl rfl 1 _ _ _ _ ty3 ?_
          refine And.intro (fun c => ?_) (fun c => ?_)
          · refine mjZ_y rfl rfl 3 _ _ _ _ ty3 ?_
            refine (And.intro rfl (And.intro (Nat.le_of_ble_eq_true rfl) ?_))
            have go : ∀ zz : Int64, zz = z → mjY mjPP (mjQQ Y) (d + 6) 120 33 [some (.ref 0), some (.int x1), some (.int r), some (.long zz), none, none] [] u3 (cmdK u1 ws (P ++ y :: Q) l 63 (if ovI z n = 0 then some (upA (orA (strip (P ++ y :: Q)) w 2).1 (orA (strip (P ++ y :: Q)) w 2).2 (esF (hpE f (dec (z + n))))) else none)) := by
              intro zz ez
              subst ez
              exact c_hi_33 h6 ty3 (f2c.tr (f5.up (by decide) (by decide))) _ _ h1 h2 zz n (by rw [f5.2.1 _ (by decide), f2.2.1 _ (by decide)]; exact en) ht hl he hs
            exact go _ e5
          · exact absurd (show ¬ (1 : Int32) = 0 by decide) c
    · have ev : vhA (strip (P ++ y :: Q)) w f = some 0 := by
        unfold vhA; rw [g1]
        simp only [strip_gt]
        exact if_neg b
      rw [er]
      exact zero u2 _ ty2 h4 f2 ev
end SMOVE
