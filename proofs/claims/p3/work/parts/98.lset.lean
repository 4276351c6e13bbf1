/-! LSET, LINDEX; isWord; LINSERT. -/
section LSET
variable {Y : Nat → MethodName × ByteArray} {d : Nat}
theorem Wd.elen {σ : mjS} {ws : List (List Int32)} {P Q : List KR} {x : KR} {l : List Int32} {y : ER} {E1 E2 : List ER} (h : Wd σ ws (P ++ x :: Q) l) (he : x.2.2.2.2.2.2 = E1 ++ y :: E2) {c : Nat} (hc : c = y.1) : Wd (σ.1, σ.2.1, mjIu σ.2.2.1 r_eLen c 0, σ.2.2.2) ws (P ++ withE x (E1 ++ (y.1, [], y.2.2.1, y.2.2.2) :: E2) :: Q) l := by
  obtain ⟨hs, fk, fe, k⟩ := h.1
  have ko := (k.2.2.2.2.1 x (List.mem_append_right _ List.mem_cons_self)).2.2.2.2.2.2.2.2.2.2 y (by rw [he]; exact List.mem_append_right _ List.mem_cons_self)
  have f : Fr [] etR σ (σ.1, σ.2.1, mjIu σ.2.2.1 r_eLen c 0, σ.2.2.2) := Fr.a (by decide)
  refine h.ks f ⟨hs, fk, fe, ?_⟩ (by decide) (by decide)
  refine ks_eattr (y' := (y.1, [], y.2.2.1, y.2.2.2)) k he f (fun j hj => ⟨fun g _ => by show mjIu σ.2.2.1 r_eLen c 0 g j = _; rw [mjIu_at, if_neg (fun q => hj (q.2.trans hc))], rfl⟩) rfl ⟨ko.1, ?_, ?_, ko.2.2.2⟩
  · obtain ⟨a, a1, a2, -, -⟩ := ko.2.1
    exact ⟨a, a1, a2, by show mjIu σ.2.2.1 r_eLen c 0 r_eLen y.1 = _; rw [mjIu_s, if_pos hc.symm]; rfl, Or.inl rfl⟩
  · exact ko.2.2.1.fr rfl rfl (fun _ _ => rfl) (Nat.le_refl _)
theorem Wd.vlen {σ : mjS} {ws : List (List Int32)} {P Q : List KR} {x : KR} {l : List Int32} {y : ER} {E1 E2 : List ER} (h : Wd σ ws (P ++ x :: Q) l) (he : x.2.2.2.2.2.2 = E1 ++ y :: E2) {c : Nat} (hc : c = y.1) : Wd (σ.1, σ.2.1, mjIu σ.2.2.1 r_vLen c 0, σ.2.2.2) ws (P ++ withE x (E1 ++ (y.1, y.2.1, [], y.2.2.2) :: E2) :: Q) l := by
  obtain ⟨hs, fk, fe, k⟩ := h.1
  have ko := (k.2.2.2.2.1 x (List.mem_append_right _ List.mem_cons_self)).2.2.2.2.2.2.2.2.2.2 y (by rw [he]; exact List.mem_append_right _ List.mem_cons_self)
  have f : Fr [] etR σ (σ.1, σ.2.1, mjIu σ.2.2.1 r_vLen c 0, σ.2.2.2) := Fr.a (by decide)
  refine h.ks f ⟨hs, fk, fe, ?_⟩ (by decide) (by decide)
  refine ks_eattr (y' := (y.1, y.2.1, [], y.2.2.2)) k he f (fun j hj => ⟨fun g _ => by show mjIu σ.2.2.1 r_vLen c 0 g j = _; rw [mjIu_at, if_neg (fun q => hj (q.2.trans hc))], rfl⟩) rfl ⟨ko.1, ?_, ?_, ko.2.2.2⟩
  · exact ko.2.1.fr rfl rfl (fun _ _ => rfl) (Nat.le_refl _)
  · obtain ⟨a, a1, a2, -, -⟩ := ko.2.2.1
    exact ⟨a, a1, a2, by show mjIu σ.2.2.1 r_vLen c 0 r_vLen y.1 = _; rw [mjIu_s, if_pos hc.symm]; rfl, Or.inl rfl⟩
theorem Wd.score {σ : mjS} {ws : List (List Int32)} {P Q : List KR} {x : KR} {l : List Int32} {y : ER} {E1 E2 : List ER} (h : Wd σ ws (P ++ x :: Q) l) (he : x.2.2.2.2.2.2 = E1 ++ y :: E2) {c : Nat} (hc : c = y.1) (s : Int64) : Wd (σ.1, σ.2.1, σ.2.2.1, mjLu σ.2.2.2 r_eScore c s) ws (P ++ withE x (E1 ++ (y.1, y.2.1, y.2.2.1, s) :: E2) :: Q) l := by
  obtain ⟨hs, fk, fe, k⟩ := h.1
  have ko := (k.2.2.2.2.1 x (List.mem_append_right _ List.mem_cons_self)).2.2.2.2.2.2.2.2.2.2 y (by rw [he]; exact List.mem_append_right _ List.mem_cons_self)
  have f : Fr [] etR σ (σ.1, σ.2.1, σ.2.2.1, mjLu σ.2.2.2 r_eScore c s) := Fr.j (by decide)
  refine h.ks f ⟨hs, fk, fe, ?_⟩ (by decide) (by decide)
  refine ks_eattr (y' := (y.1, y.2.1, y.2.2.1, s)) k he f (fun j hj => ⟨fun g _ => rfl, by show mjLu σ.2.2.2 r_eScore c s r_eScore j = _; rw [mjLu_s, if_neg (fun q => hj (q.trans hc))]⟩) rfl ⟨ko.1, ?_, ?_, ?_⟩
  · exact ko.2.1.fr rfl rfl (fun _ _ => rfl) (Nat.le_refl _)
  · exact ko.2.2.1.fr rfl rfl (fun _ _ => rfl) (Nat.le_refl _)
  · show mjLu σ.2.2.2 r_eScore c s r_eScore y.1 = s
    rw [mjLu_s, if_pos hc.symm]
/-- the word of an element becomes another one -/
def stE (i : Nat) (v : List Int32) : List AE → List AE
  | [] => []
  | z :: r => match i with
    | 0 => (v, z.2.1, z.2.2) :: r
    | i + 1 => z :: stE i v r
theorem stE_at (E1 : List AE) (z : AE) (E2 : List AE) (v : List Int32) : stE E1.length v (E1 ++ z :: E2) = E1 ++ (v, z.2.1, z.2.2) :: E2 := by
  induction E1 with
  | nil => rfl
  | cons y r ih => show y :: stE r.length v (r ++ z :: E2) = _; rw [ih]; rfl
def lpF (A : List AK) (w : List Int32) (i1 : Nat) (n : Int64) (v : List Int32) : Option (List AK) := match kyI A w with
  | none => none
  | some p => if i1 = 46 ∧ (¬ sI n (lN (mnA A w)) < 0) ∧ sI n (lN (mnA A w)) < lN (mnA A w) then some (upA A p (esF (stE (sI n (lN (mnA A w))).toInt.toNat v))) else none
set_option maxRecDepth 100000 in
theorem r_place {σ : mjS} {ws : List (List Int32)} {ks : List KR} {l : List Int32} (h : Wd σ ws ks l) (ty : mjTY σ) (i1 : Nat) (hi : i1 = 45 ∨ i1 = 46) {x1 : Int32} (e1 : x1 = nI i1) {w v : List Int32} (h1 : ws[1]? = some w) (hv : i1 = 46 → ws[3]? = some v) (n : Int64) (en : σ.2.1 f_n1 = n) (ht : tT (strip ks) ≤ 200000) (hn : tT (strip ks) + v.length ≤ 300000) (hs : l.length + 132 + sz ws ≤ 420000) :
    mjY mjPP (mjQQ Y) (d + 6) 109 0 (mjL0 6 [.ref 0, .int x1]) [] σ (cmdK σ ws ks l i1 (lpF (strip ks) w i1 n v)) := by
  have hlen := (List.getElem?_eq_some_iff.mp h1).1
  have hm := mnA_le h w
  have nn : ∀ c : Nat, c < 128 → ((¬ x1 = nI c) ↔ ¬ i1 = c) := fun c hc => by rw [e1, nI_eq (by omega) (by omega)]
  refine mjZ_y rfl rfl 3 _ _ _ _ ty ?_
  refine (And.intro (Nat.le_of_ble_eq_true rfl) (And.intro rfl (And.intro (Nat.le_of_ble_eq_true rfl) (And.intro (Nat.le_of_ble_eq_true rfl) (mjY_mono ty (fun q_ u1 ty1 h_ => ?_) (w_key h ty h1 (x := Int32.ofInt 1) rfl))))))
  obtain ⟨rfl, rfl⟩ := h_
  intro _
  -- the exit
  have bad : ∀ (o3 : Int64), lpF (strip ks) w i1 n v = none → mjY mjPP (mjQQ Y) (d + 6) 109 40 [some (.ref 0), some (.int x1), some (.int (kyS ks w)), some (.long o3), none, none] [] u1 (cmdK u1 ws ks l i1 (lpF (strip ks) w i1 n v)) := by
    intro o3 eo
    rw [eo]
    refine mjZ_y rfl rfl 3 _ _ _ _ ty1 ?_
    refine And.intro (fun c => ?_) (fun c => ?_)
    · refine mjZ_y rfl rfl 2 _ _ _ _ ty1 ?_
      refine (And.intro (Nat.le_of_ble_eq_true rfl) (And.intro rfl (And.intro (Nat.le_of_ble_eq_true rfl) (And.intro (Nat.le_of_ble_eq_true rfl) (mjY_mono ty1 (fun q_ u2 ty2 h_ => ?_) (w_nil h ty1))))))
      obtain ⟨rfl, h2, f2⟩ := h_
      intro _
      refine mjZ_y rfl rfl 1 _ _ _ _ ty2 ?_
      refine And.intro rfl (And.intro rfl ?_)
      exact ⟨rfl, f2.c, ks, h2, rfl⟩
    · refine mjZ_y rfl rfl 2 _ _ _ _ ty1 ?_
      refine (And.intro (Nat.le_of_ble_eq_true rfl) (And.intro rfl (And.intro (Nat.le_of_ble_eq_true rfl) (And.intro (Nat.le_of_ble_eq_true rfl) (mjY_mono ty1 (fun q_ u2 ty2 h_ => ?_) (w_outOfRange h ty1))))))
      obtain ⟨rfl, h2, f2⟩ := h_
      intro _
      refine mjZ_y rfl rfl 3 _ _ _ _ ty2 ?_
      refine And.intro rfl (And.intro rfl ?_)
      exact ⟨rfl, f2.c, ks, h2, rfl⟩
  have s29 : ∀ o3 : Int64, o3 = sI n (lN (mnA (strip ks) w)) → (i1 = 46 → ¬ kyI (strip ks) w = none) → mjY mjPP (mjQQ Y) (d + 6) 109 29 [some (.ref 0), some (.int x1), some (.int (kyS ks w)), some (.long o3), none, none] [] u1 (cmdK u1 ws ks l i1 (lpF (strip ks) w i1 n v)) := by
    intro o3 e3 _
    refine mjZ_y rfl rfl 4 _ _ _ _ ty1 ?_
    refine And.intro (fun c => ?_) (fun c => ?_)
    · have c := (lg_cmp_lt _ _).mp c
      refine bad o3 ?_
      unfold lpF
      cases kyI (strip ks) w with
      | none => rfl
      | some p => exact if_neg (fun z => z.2.1 (by rw [← e3]; exact c))
    · have c : ¬ o3 < 0 := fun z => c ((lg_cmp_lt _ _).mpr z)
      refine mjZ_y rfl rfl 4 _ _ _ _ ty1 ?_
      refine (And.intro (Nat.le_of_ble_eq_true rfl) (And.intro rfl (And.intro (Nat.le_of_ble_eq_true rfl) (And.intro (Nat.le_of_ble_eq_true rfl) (mjY_mono ty1 (fun q_ u2 ty2 h_ => ?_) (w_many h ty1 (w := w) rfl))))))
      obtain ⟨rfl, rfl⟩ := h_
      intro _
      refine mjZ_y rfl rfl 3 _ _ _ _ ty1 ?_
      refine And.intro (fun b => ?_) (fun b => ?_)
      · have b : o3 < lN (mnA (strip ks) w) := by
          have b := (lg_cmp_lt _ _).mp b
          rw [nI_l (by omega)] at b; exact b
        obtain ⟨m, hm2, em⟩ := pk_lOf c
        have hmn : m < mnA (strip ks) w := by rw [em] at b; exact (pk_lLT hm2 (by omega)).mp b
        have kn : ¬ kyI (strip ks) w = none := by
          intro z
          unfold mnA at hmn; rw [z] at hmn; exact absurd hmn (Nat.not_lt_zero _)
        obtain ⟨P, y, Q, g0, g1, g2, -⟩ := ky_some kn
        have e2 : kyS ks w = nI y.1 := g2
        generalize kyS ks w = x2 at e2
        subst g0
        have eM := mnA_at g1
        have hle := W_len h
        refine mjZ_y rfl rfl 5 _ _ _ _ ty1 ?_
        refine (And.intro (Nat.le_of_ble_eq_true rfl) (And.intro rfl (And.intro (Nat.le_of_ble_eq_true rfl) (And.intro (Nat.le_of_ble_eq_true rfl) (mjY_mono ty1 (fun q_ u3 ty3 h_ => ?_) (w_at h ty1 m (by omega) e2 (by rw [em]; exact lN_i m)))))))
        obtain ⟨rfl, F1, F2, t, hF, hl, rfl⟩ := h_
        intro _
        obtain ⟨hz, hh, ht2⟩ := h.eid (y := t) (by rw [hF]; exact List.mem_append_right _ List.mem_cons_self)
        have tid := ht2.1
        have v5 : vp_in (nI t.1) 10000 := vp_in_nI tid (by decide)
        refine mjZ_y rfl rfl 4 _ _ _ _ ty1 ?_
        refine (And.intro (Nat.le_of_ble_eq_true rfl) (And.intro (fun c2 => ?_) (fun c2 => ?_)))
        · have c2 : i1 = 46 := by
            have := (nn 45 (by decide)).mp c2; omega
          have eo : lpF (strip (P ++ y :: Q)) w i1 n v = some (upA (strip (P ++ y :: Q)) P.length (esF (stE m v))) := by
            unfold lpF; rw [g1]
            show (if i1 = 46 ∧ (¬ sI n (lN (mnA (strip (P ++ y :: Q)) w)) < 0) ∧ sI n (lN (mnA (strip (P ++ y :: Q)) w)) < lN (mnA (strip (P ++ y :: Q)) w) then some (upA (strip (P ++ y :: Q)) P.length (esF (stE (sI n (lN (mnA (strip (P ++ y :: Q)) w))).toInt.toNat v))) else none) = _
            rw [← e3, if_pos ⟨c2, c, b⟩, em, pk_lT hm2]; rfl
          rw [eo]
          refine mjZ_y rfl rfl 5 _ _ _ _ ty1 ?_
          refine (And.intro rfl (And.intro rfl (And.intro v5 (fun ty1' => ?_))))
          have h4 := h.elen hF (c := (nI t.1).toNatClampNeg) (nI_clamp (by omega))
          have f4 : Fr cF cH u3 (u3.1, u3.2.1, mjIu u3.2.2.1 r_eLen (nI t.1).toNatClampNeg 0, u3.2.2.2) := Fr.a (h := r_eLen) (by decide)
          obtain ⟨v3, b3, eb, el, hb, ew⟩ := h4.2.1.clamp (hv c2) (x := Int32.ofInt 3) rfl
          have t4 : tT (strip (P ++ withE y (F1 ++ (t.1, [], t.2.2.1, t.2.2.2) :: F2) :: Q)) ≤ tT (strip (P ++ y :: Q)) := by
            rw [tT_at, tT_at, tT_1, tT_1]
            show _ + (y.2.1.length + y.2.2.2.2.2.1.length + eT ((F1 ++ (t.1, [], t.2.2.1, t.2.2.2) :: F2).map (fun z => z.2))) + _ ≤ _ + (y.2.1.length + y.2.2.2.2.2.1.length + eT (y.2.2.2.2.2.2.map (fun z => z.2))) + _
            rw [hF, List.map_append, List.map_append, List.map_cons, List.map_cons, eT_app, eT_app]
            show _ + (_ + (_ + (0 + t.2.2.1.length + _))) + _ ≤ _ + (_ + (_ + (t.2.1.length + t.2.2.1.length + _))) + _
            omega
          refine mjZ_y rfl rfl 13 _ _ _ _ ty1' ?_
          refine (And.intro rfl (And.intro rfl (And.intro rfl (And.intro v3 (And.intro rfl (And.intro rfl (And.intro v3 (And.intro (Nat.le_of_ble_eq_true rfl) (And.intro rfl (And.intro (Nat.le_of_ble_eq_true rfl) (And.intro (Nat.le_of_ble_eq_true rfl) (mjY_mono ty1' (fun q_ u5 ty5 h_ => ?_) (w_name h4 ty1' (x := withE y (F1 ++ (t.1, [], t.2.2.1, t.2.2.2) :: F2)) (y := (t.1, [], t.2.2.1, t.2.2.2)) (E1 := F1) (E2 := F2) rfl r_req b3 v.length rfl (by decide) hb (by decide) (by omega) (by omega) rfl eb el)))))))))))))
          obtain ⟨rfl, h5, f5⟩ := h_
          intro _
          have h5 : Wd u5 ws (P ++ withE y (F1 ++ (t.1, wd (u3.2.2.1 r_req) b3 v.length, t.2.2.1, t.2.2.2) :: F2) :: Q) l := h5
          have ew : wd (u3.2.2.1 r_req) b3 v.length = v := ew
          rw [ew] at h5
          refine mjZ_y rfl rfl 3 _ _ _ _ ty5 ?_
          refine (And.intro (Nat.le_of_ble_eq_true rfl) (And.intro rfl (And.intro (Nat.le_of_ble_eq_true rfl) (And.intro (Nat.le_of_ble_eq_true rfl) (mjY_mono ty5 (fun q_ u6 ty6 h_ => ?_) (w_touch h5 ty5 (x := withE y (F1 ++ (t.1, v, t.2.2.1, t.2.2.2) :: F2)) (List.mem_append_right _ List.mem_cons_self) e2))))))
          obtain ⟨rfl, h6, f6⟩ := h_
          intro _
          refine mjZ_y rfl rfl 3 _ _ _ _ ty6 ?_
          refine (And.intro (Nat.le_of_ble_eq_true rfl) (And.intro rfl (And.intro (Nat.le_of_ble_eq_true rfl) (And.intro (Nat.le_of_ble_eq_true rfl) (mjY_mono ty6 (fun q_ u7 ty7 h_ => ?_) (w_noteAll h6 ty6 (by omega) i1 e1 (by omega) hs))))))
          obtain ⟨rfl, h7, f7⟩ := h_
          intro _
          refine mjZ_y rfl rfl 2 _ _ _ _ ty7 ?_
          refine (And.intro (Nat.le_of_ble_eq_true rfl) (And.intro rfl (And.intro (Nat.le_of_ble_eq_true rfl) (And.intro (Nat.le_of_ble_eq_true rfl) (mjY_mono ty7 (fun q_ u8 ty8 h_ => ?_) (w_ok h7 ty7))))))
          obtain ⟨rfl, h8, f8⟩ := h_
          intro _
          refine mjZ_y rfl rfl 1 _ _ _ _ ty8 ?_
          refine And.intro rfl (And.intro rfl ?_)
          have fa : Fr cF cH u3 u6 := (f4.tr f5.k).tr f6.t
          rw [ntA_fr fa] at h8
          refine ⟨rfl, (fa.tr f7.n).tr f8.c, _, h8, strip_up (st1_with ?_)⟩
          rw [hF, List.map_append, List.map_cons, List.map_append, List.map_cons, ← hl]
          have e := stE_at (F1.map (fun z => z.2)) t.2 (F2.map (fun z => z.2)) v
          rw [List.length_map] at e
          exact e.symm
        · have c2 : i1 = 45 := Decidable.of_not_not (fun z => c2 ((nn 45 (by decide)).mpr z))
          have eo : lpF (strip (P ++ y :: Q)) w i1 n v = none := by
            unfold lpF; rw [g1]; exact if_neg (fun z => by omega)
          rw [eo]
          refine mjZ_y rfl rfl 12 _ _ _ _ ty1 ?_
          refine (And.intro rfl (And.intro rfl (And.intro rfl (And.intro v5 (And.intro rfl (And.intro rfl (And.intro v5 (And.intro (Nat.le_of_ble_eq_true rfl) (And.intro rfl (And.intro (Nat.le_of_ble_eq_true rfl) (And.intro (Nat.le_of_ble_eq_true rfl) (mjY_mono ty1 (fun q_ u4 ty4 h_ => ?_) (w_wordR h ty1 ht2.2.1 hh (by omega) rfl)))))))))))))
          obtain ⟨rfl, h4, f4⟩ := h_
          intro _
          refine mjZ_y rfl rfl 1 _ _ _ _ ty4 ?_
          refine And.intro rfl (And.intro rfl ?_)
          exact ⟨rfl, f4.c, _, h4, rfl⟩
      · have b : ¬ o3 < lN (mnA (strip ks) w) := fun z => b ((lg_cmp_lt _ _).mpr (by rw [nI_l (by omega)]; exact z))
        refine bad o3 ?_
        unfold lpF
        cases kyI (strip ks) w with
        | none => rfl
        | some p => exact if_neg (fun z => b (by rw [e3]; exact z.2.2))
  have s15 : (i1 = 46 → ¬ kyI (strip ks) w = none) → mjY mjPP (mjQQ Y) (d + 6) 109 15 [some (.ref 0), some (.int x1), some (.int (kyS ks w)), none, none, none] [] u1 (cmdK u1 ws ks l i1 (lpF (strip ks) w i1 n v)) := by
    intro hk
    have en2 : u1.2.1 75 = n := en
    refine mjZ_y rfl rfl 7 _ _ _ _ ty1 ?_
    refine (And.intro rfl (And.intro (Nat.le_of_ble_eq_true rfl) (And.intro (fun c => ?_) (fun c => ?_))))
    · have c := (lg_cmp_ge _ _).mp c
      rw [en2] at c
      refine s29 _ ?_ hk
      rw [en2]; exact (if_neg (Int64.not_lt.mpr c)).symm
    · have cn : n < 0 := Int64.not_le.mp (fun z => c ((lg_cmp_ge _ _).mpr (by rw [en2]; exact z)))
      refine mjZ_y rfl rfl 4 _ _ _ _ ty1 ?_
      refine (And.intro (Nat.le_of_ble_eq_true rfl) (And.intro rfl (And.intro (Nat.le_of_ble_eq_true rfl) (And.intro (Nat.le_of_ble_eq_true rfl) (mjY_mono ty1 (fun q_ u2 ty2 h_ => ?_) (w_many h ty1 (w := w) rfl))))))
      obtain ⟨rfl, rfl⟩ := h_
      intro _
      refine mjZ_y rfl rfl 3 _ _ _ _ ty1 ?_
      refine (And.intro (Nat.le_of_ble_eq_true rfl) ?_)
      refine s29 _ ?_ hk
      rw [en2, nI_l (by omega)]; exact (if_pos cn).symm
  refine mjZ_y rfl rfl 4 _ _ _ _ ty1 ?_
  refine (And.intro (Nat.le_of_ble_eq_true rfl) (And.intro (fun c => ?_) (fun c => ?_)))
  · have c := (nn 46 (by decide)).mp c
    exact s15 (fun z => absurd z c)
  · refine mjZ_y rfl rfl 2 _ _ _ _ ty1 ?_
    refine And.intro (fun b => ?_) (fun b => ?_)
    · exact s15 (fun _ => (ky_ge h w).1.mp b)
    · have b : kyI (strip ks) w = none := Decidable.of_not_not (fun z => b ((ky_ge h w).1.mpr z))
      have eo : lpF (strip ks) w i1 n v = none := by unfold lpF; rw [b]
      rw [eo]
      refine mjZ_y rfl rfl 4 _ _ _ _ ty1 ?_
      refine (And.intro (Nat.le_of_ble_eq_true rfl) (And.intro rfl (And.intro (Nat.le_of_ble_eq_true rfl) (And.intro (Nat.le_of_ble_eq_true rfl) (mjY_mono ty1 (fun q_ u2 ty2 h_ => ?_) (w_error h ty1 _ _))))))
      obtain ⟨rfl, h2, f2⟩ := h_
      intro _
      refine mjZ_y rfl rfl 2 _ _ _ _ ty2 ?_
      refine And.intro rfl (And.intro rfl ?_)
      exact ⟨rfl, f2.c, ks, h2, rfl⟩
/-- is this element this word -/
def eqI (a b : List Int32) : Int32 := if cmpW a b = 0 then 1 else 0
set_option maxRecDepth 100000 in
theorem w_isWord {σ : mjS} {ws : List (List Int32)} {P Q : List KR} {y : KR} {l : List Int32} (h : Wd σ ws (P ++ y :: Q) l) (ty : mjTY σ) {z : ER} (hz : z ∈ y.2.2.2.2.2.2) {i : Nat} {w : List Int32} (hw : ws[i]? = some w) {x1 x2 : Int32} (e1 : x1 = nI z.1) (e2 : x2 = nI i) : mjY mjPP (mjQQ Y) (d + 1) 110 0 (mjL0 3 [.ref 0, .int x1, .int x2]) [] σ (fun r u => r = some (.int (eqI z.2.1 w)) ∧ u = σ) := by
  obtain ⟨hs, hh, ho⟩ := h.eid hz
  have hid := ho.1
  have v1 : vp_in x1 10000 := by rw [e1]; exact vp_in_nI hid (by decide)
  obtain ⟨v2, -⟩ := h.2.1.clamp hw e2
  have hi := (List.getElem?_eq_some_iff.mp hw).1
  have h1024 := h.2.1.2.1
  have hc := c_cmpR (Y := Y) (d := d) ty ho.2.1 hh h.2.1 hw
  rw [← nI_clamp (n := z.1) (by omega), ← e1, ← nI_clamp (n := i) (by omega), ← e2] at hc
  refine mjZ_y rfl rfl 21 _ _ _ _ ty ?_
  refine (And.intro rfl (And.intro rfl (And.intro rfl (And.intro v1 (And.intro rfl (And.intro rfl (And.intro v1 (And.intro rfl (And.intro rfl (And.intro rfl (And.intro v2 (And.intro rfl (And.intro rfl (And.intro v2 (And.intro (Nat.le_of_ble_eq_true rfl) (And.intro (Nat.le_of_ble_eq_true rfl) (And.intro (Nat.le_of_ble_eq_true rfl) (mjY_mono ty (fun q_ u1 ty1 h_ => ?_) (hc)))))))))))))))))))
  obtain ⟨rfl, r, rfl, hr⟩ := h_
  intro _
  have r0 : (0 : Int32).toInt = 0 := by decide
  refine mjZ_y rfl rfl 1 _ _ _ _ ty ?_
  refine And.intro (fun c => ?_) (fun c => ?_)
  · refine mjZ_y rfl rfl 2 _ _ _ _ ty ?_
    refine And.intro rfl (And.intro (Or.inr ⟨rfl, Or.inl rfl⟩) ?_)
    have c : ¬ cmpW z.2.1 w = 0 := fun q => c (Int32.toInt_inj.mp (by rw [hr, q, r0]))
    exact ⟨by unfold eqI; rw [if_neg c]; rfl, rfl⟩
  · refine mjZ_y rfl rfl 3 _ _ _ _ ty ?_
    refine And.intro rfl (And.intro (Or.inr ⟨rfl, Or.inr rfl⟩) ?_)
    have c : r = 0 := Decidable.of_not_not c
    have c : cmpW z.2.1 w = 0 := by rw [← hr, c, r0]
    exact ⟨by unfold eqI; rw [if_pos c]; rfl, rfl⟩
end LSET
