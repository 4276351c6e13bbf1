/-! LMOVE and RPOPLPUSH. -/
section MOVE
variable {Y : Nat → MethodName × ByteArray} {d : Nat}
theorem w_makeKey2 {σ : mjS} {ws : List (List Int32)} {ks : List KR} {l : List Int32} (h : Wd σ ws ks l) (ty : mjTY σ) {i : Nat} {w : List Int32} (hw : ws[i]? = some w) {x : Int32} (ex : x = nI i) (s : Int32) (ht : tT (strip ks) ≤ 200000) (hn : tT (strip ks) + w.length ≤ 300000) (hk : ks.length < 4700) :
    mjY mjPP (mjQQ Y) (d + 3) 12 0 (mjL0 6 [.ref 0, .int x, .int s]) [] σ (fun r u => ∃ P y Q, r = some (.int (nI y.1)) ∧ Wd u ws (P ++ y :: Q) l ∧ Fr kF kH σ u ∧ ks = P ++ Q ∧ P.length = plF (anm (strip ks)) w ∧ st1 y = (w, s, 0, 0, [], [])) := by
  obtain ⟨hs, fk, k, fe, hks⟩ := h.fk hk
  rw [ex]
  refine mjY_mono ty (fun _ u _ q => ?_) (c_makeKey hks h.2.1 i w hw s (by rw [tot_T]; exact ht) (by rw [tot_T]; exact hn) ty)
  obtain ⟨e, f, hs', k'⟩ := q
  rw [nms_strip] at k'
  have f' : Fr kF kH σ u := f.up (by decide) (by decide)
  refine ⟨_, (k, w, s, 0, 0, [], []), _, e, h.ks f' ⟨hs', _, _, k'⟩ (by decide) (by decide), f', (List.take_append_drop _ _).symm, ?_, rfl⟩
  rw [List.length_take]
  refine Nat.min_eq_left ?_
  have := plF_le (anm (strip ks)) w
  unfold anm at this ⊢; rw [List.length_map, strip_len] at this; exact this
set_option maxRecDepth 100000 in
theorem w_makeOr2 {σ : mjS} {ws : List (List Int32)} {ks : List KR} {l : List Int32} (h : Wd σ ws ks l) (ty : mjTY σ) {i : Nat} {w : List Int32} (hw : ws[i]? = some w) {x : Int32} (ex : x = nI i) (s : Int32) (ht : tT (strip ks) ≤ 200000) (hn : tT (strip ks) + w.length ≤ 300000) (hk : ks.length < 4700) :
    mjY mjPP (mjQQ Y) (d + 4) 103 0 (mjL0 4 [.ref 0, .int x, .int s]) [] σ (fun r u => ∃ P y Q, r = some (.int (nI y.1)) ∧ Wd u ws (P ++ y :: Q) l ∧ Fr kF kH σ u ∧ strip (P ++ y :: Q) = (orA (strip ks) w s).1 ∧ P.length = (orA (strip ks) w s).2 ∧ ((kyI (strip ks) w ≠ none ∧ ks = P ++ y :: Q) ∨ (kyI (strip ks) w = none ∧ ks = P ++ Q))) := by
  refine mjZ_y rfl rfl 3 _ _ _ _ ty ?_
  refine (And.intro (Nat.le_of_ble_eq_true rfl) (And.intro rfl (And.intro (Nat.le_of_ble_eq_true rfl) (And.intro (Nat.le_of_ble_eq_true rfl) (mjY_mono ty (fun q_ u1 ty1 h_ => ?_) (w_key h ty hw ex))))))
  obtain ⟨rfl, rfl⟩ := h_
  intro _
  refine mjZ_y rfl rfl 3 _ _ _ _ ty1 ?_
  refine (And.intro (Nat.le_of_ble_eq_true rfl) (And.intro (fun q => ?_) (fun q => ?_)))
  · have q := (ky_ge h w).1.mp q
    obtain ⟨P, y, Q, g0, g1, g2, -⟩ := ky_some q
    refine mjZ_y rfl rfl 2 _ _ _ _ ty1 ?_
    refine And.intro rfl (And.intro (Or.inl rfl) ?_)
    subst g0
    refine ⟨P, y, Q, congrArg (fun t => some (Value.int t)) g2, h, Fr.rf, ?_, ?_, Or.inl ⟨q, rfl⟩⟩
    · rw [orA_some g1]
    · rw [orA_some g1]
  · have q : kyI (strip ks) w = none := Decidable.of_not_not (fun z => q ((ky_ge h w).1.mpr z))
    refine mjZ_y rfl rfl 4 _ _ _ _ ty1 ?_
    refine (And.intro (Nat.le_of_ble_eq_true rfl) (And.intro rfl (And.intro (Nat.le_of_ble_eq_true rfl) (And.intro (Nat.le_of_ble_eq_true rfl) (mjY_mono ty1 (fun q_ u2 ty2 h_ => ?_) (w_makeKey2 h ty1 hw ex s ht hn hk))))))
    obtain ⟨P, y, Q, rfl, h2, f2, g1, g2, g3⟩ := h_
    intro _
    refine mjZ_y rfl rfl 3 _ _ _ _ ty2 ?_
    refine (And.intro (Nat.le_of_ble_eq_true rfl) (And.intro rfl (And.intro (Or.inl rfl) ?_)))
    refine ⟨P, y, Q, rfl, h2, f2, ?_, ?_, Or.inr ⟨q, g1⟩⟩
    · rw [orA_none q, ← g2, g1, strip_app, strip_cons, g3, strip_app]
      unfold inA
      have a1 : (strip P ++ strip Q).take P.length = strip P := by have := List.take_left (l₁ := strip P) (l₂ := strip Q); rw [strip_len] at this; exact this
      have a2 : (strip P ++ strip Q).drop P.length = strip Q := by have := List.drop_left (l₁ := strip P) (l₂ := strip Q); rw [strip_len] at this; exact this
      show _ = (strip P ++ strip Q).take P.length ++ _ :: (strip P ++ strip Q).drop P.length
      rw [a1, a2]
    · rw [orA_none q]; exact g2
set_option maxRecDepth 100000 in
theorem c_mv_loop (K : mjK) (x1 x2 x3 x4 x5 : Int32) (a n e : Nat) (e5 : x5 = nI e) (he : e < 10000) (han : a + n ≤ 300000) (hn : n ≤ 70000) (H W0 : Nat → Int32) : ∀ (j i : Nat) (σ : mjS) (x6 : Int32), x6 = nI i → i + j = n → mjTY σ → σ.1 f_workSize = nI n → σ.2.2.1 r_heap = H → σ.2.2.1 r_eAt e = nI a → σ.2.2.1 r_work = va_cpy H W0 a 0 i →
    (∀ u x6, mjTY u → Fr [] [r_work] σ u → u.2.2.1 r_work = va_cpy H W0 a 0 n → mjY mjPP (mjQQ Y) d 114 84 [some (.ref 0), some (.int x1), some (.int x2), some (.int x3), some (.int x4), some (.int x5), some (.int x6), none] [] u K) → mjY mjPP (mjQQ Y) d 114 65 [some (.ref 0), some (.int x1), some (.int x2), some (.int x3), some (.int x4), some (.int x5), some (.int x6), none] [] σ K := by
  have c5 : x5.toNatClampNeg = e := by rw [e5]; exact nI_clamp (by omega)
  have v5 : vp_in x5 10000 := by rw [e5]; exact vp_in_nI he (by decide)
  intro j
  induction j with
  | zero =>
    intro i σ x6 e6 hi ty ez eH eA eW hK
    have ei : i = n := by omega
    subst ei
    refine mjZ_y rfl rfl 4 _ _ _ _ ty ?_
    refine (And.intro rfl (And.intro (fun q => ?_) (fun q => ?_)))
    · exact hK σ _ ty Fr.rf eW
    · exact absurd (show σ.1 f_workSize ≤ x6 by rw [ez, e6]; exact nI_le (Nat.le_refl _) (by omega)) q
  | succ j ih =>
    intro i σ x6 e6 hi ty ez eH eA eW hK
    have e3 : σ.2.2.1 r_eAt x5.toNatClampNeg + x6 = nI (a + i) := by rw [c5, eA, e6, nI_add]
    have w3 : vp_in (σ.2.2.1 r_eAt x5.toNatClampNeg + x6) 300000 := by rw [e3]; exact vp_in_nI (by omega) (by decide)
    refine mjZ_y rfl rfl 4 _ _ _ _ ty ?_
    refine (And.intro rfl (And.intro (fun q => ?_) (fun q => ?_)))
    · exact absurd (show σ.1 f_workSize ≤ x6 from q) (by rw [ez, e6]; exact nI_ge (by omega) (by omega))
    · refine mjZ_y rfl rfl 15 _ _ _ _ ty ?_
      refine (And.intro rfl (And.intro rfl (And.intro rfl (And.intro rfl (And.intro v5 (And.intro (Or.inl rfl) (And.intro w3 (And.intro (Or.inl ⟨rfl, ty.2.1 6 _ rfl⟩) (And.intro (by rw [e6]; exact vp_in_nI (by show i < 70000; omega) (by decide)) (fun ty' => ?_))))))))))
      refine ih (i + 1) _ _ (by rw [e6]; exact nI_1 i) (by omega) ty' ez eH eA ?_ (fun u x6 tu fu pu => hK u x6 tu ((Fr.a (by decide)).tr fu) pu)
      show mjIu σ.2.2.1 r_work x6.toNatClampNeg (σ.2.2.1 r_heap (σ.2.2.1 r_eAt x5.toNatClampNeg + x6).toNatClampNeg) r_work = _
      rw [mjIu_self, e3, nI_clamp (by omega), eW, e6, nI_clamp (by omega), eH]
      have e := cpy_s (f := H) (g := W0) (sp := a) (dp := 0) (k := i)
      rw [Nat.zero_add] at e
      exact e
/-- a key that is empty goes -/
def stl1 (A : List AK) (p : Nat) : List AK := match A[p]? with
  | some a => if a.2.2.2.2.2 = [] then rmA A p else A
  | none => A
theorem stl1_nil {R S : List KR} {y : KR} (h : y.2.2.2.2.2.2 = []) : strip (R ++ S) = stl1 (strip (R ++ y :: S)) R.length := by
  unfold stl1
  rw [strip_gt]
  show strip (R ++ S) = if y.2.2.2.2.2.2.map (fun z => z.2) = [] then _ else _
  rw [if_pos (by rw [h]; rfl)]; exact strip_rm
theorem stl1_cons {R S : List KR} {y : KR} (h : y.2.2.2.2.2.2 ≠ []) : strip (R ++ y :: S) = stl1 (strip (R ++ y :: S)) R.length := by
  unfold stl1
  rw [strip_gt]
  show strip (R ++ y :: S) = if y.2.2.2.2.2.2.map (fun z => z.2) = [] then _ else _
  rw [if_neg (fun z => h (List.map_eq_nil_iff.mp z))]
/-- where a key stands when another one is there -/
theorem mv_findE {P Q P2 Q2 : List KR} {y z z2 : KR} (hk : z2.1 = z.1) (e : P ++ y :: Q = P2 ++ z :: Q2) : ∃ R t S, P2 ++ z2 :: Q2 = R ++ t :: S ∧ t.1 = y.1 ∧ R.length = P.length := by
  rcases List.append_eq_append_iff.mp e with ⟨M, e1, e2⟩ | ⟨M, e1, e2⟩
  · cases M with
    | nil =>
      rw [List.append_nil] at e1
      obtain ⟨e3, e4⟩ := List.cons.inj e2
      exact ⟨P2, z2, Q2, rfl, by rw [hk, e3], by rw [e1]⟩
    | cons m M =>
      obtain ⟨e3, e4⟩ := List.cons.inj e2
      exact ⟨P, y, M ++ z2 :: Q2, by rw [e1, ← e3, List.append_assoc]; rfl, rfl, rfl⟩
  · cases M with
    | nil =>
      rw [List.append_nil] at e1
      obtain ⟨e3, e4⟩ := List.cons.inj e2
      exact ⟨P2, z2, Q2, rfl, by rw [hk, e3], by rw [e1]⟩
    | cons m M =>
      obtain ⟨e3, e4⟩ := List.cons.inj e2
      refine ⟨P2 ++ z2 :: M, y, Q, by rw [e4, List.append_assoc]; rfl, rfl, ?_⟩
      rw [e1, List.length_append, List.length_append, List.length_cons, List.length_cons]
theorem mv_findN {P Q P2 Q2 : List KR} {y z2 : KR} (h2 : P ++ y :: Q = P2 ++ Q2) : ∃ R t S, P2 ++ z2 :: Q2 = R ++ t :: S ∧ t.1 = y.1 ∧ R.length = (if P2.length ≤ P.length then P.length + 1 else P.length) := by
  rcases List.append_eq_append_iff.mp h2 with ⟨M, e1, e2⟩ | ⟨M, e1, e2⟩
  · cases M with
    | nil =>
      rw [List.append_nil] at e1
      have e2 : y :: Q = Q2 := e2
      refine ⟨P2 ++ [z2], y, Q, by rw [← e2, List.append_assoc]; rfl, rfl, ?_⟩
      rw [if_pos (by rw [e1]; exact Nat.le_refl _), List.length_append, e1]; rfl
    | cons m M =>
      obtain ⟨e3, e4⟩ := List.cons.inj e2
      refine ⟨P, y, M ++ z2 :: Q2, by rw [e1, ← e3, List.append_assoc]; rfl, rfl, ?_⟩
      rw [if_neg (fun c => ?_)]
      rw [e1, List.length_append, List.length_cons] at c; omega
  · refine ⟨P2 ++ z2 :: M, y, Q, by rw [e2, List.append_assoc]; rfl, rfl, ?_⟩
    rw [if_pos (by rw [e1, List.length_append]; omega), e1, List.length_append, List.length_append, List.length_cons]; omega
def hdW (es : List AE) : List Int32 := match es with
  | [] => []
  | z :: _ => z.1
def laW (es : List AE) : List Int32 := hdW es.reverse
def mvF (A : List AK) (w1 w2 : List Int32) (fl tl : Int32) : Option (List AK) := match kyI A w1 with
  | none => none
  | some p => (match A[p]? with
    | none => none
    | some a =>
      some (stl1 (upA (orA (upA A p (esF (fun es => if fl = 0 then es.dropLast else es.tail))) w2 1).1 (orA (upA A p (esF (fun es => if fl = 0 then es.dropLast else es.tail))) w2 1).2 (esF (fun es => if tl = 0 then es ++ [((if fl = 0 then laW a.2.2.2.2.2 else hdW a.2.2.2.2.2), [], 0)] else ((if fl = 0 then laW a.2.2.2.2.2 else hdW a.2.2.2.2.2), [], 0) :: es)))
        (if kyI (upA A p (esF (fun es => if fl = 0 then es.dropLast else es.tail))) w2 = none ∧ (orA (upA A p (esF (fun es => if fl = 0 then es.dropLast else es.tail))) w2 1).2 ≤ p then p + 1 else p)))
set_option maxRecDepth 100000 in
theorem c_mv_84 {σ u0 : mjS} {ws : List (List Int32)} {P Q : List KR} {y : KR} {l : List Int32} (h : Wd σ ws (P ++ y :: Q) l) (ty : mjTY σ) (f0 : Fr cF cH u0 σ) {i1 : Nat} (hi : i1 < 128) {x1 x2 x3 x4 x5 x6 : Int32} (e1 : x1 = nI i1) (e2 : x2 = nI y.1) {w1 w2 v : List Int32} (h1 : ws[1]? = some w1) (h2 : ws[2]? = some w2) {E1 E2 : List ER} {t : ER} (hE : y.2.2.2.2.2.2 = E1 ++ t :: E2) (e5 : x5 = nI t.1) (hk : WK σ v) (fl : Int32) (hm : (E1 ++ E2).map (fun z => z.2) = (if fl = 0 then (y.2.2.2.2.2.2.map (fun z => z.2)).dropLast else (y.2.2.2.2.2.2.map (fun z => z.2)).tail)) (hv : v = (if fl = 0 then laW (y.2.2.2.2.2.2.map (fun z => z.2)) else hdW (y.2.2.2.2.2.2.map (fun z => z.2)))) (g1 : kyI (strip (P ++ y :: Q)) w1 = some P.length)
    (ht : tT (strip (P ++ y :: Q)) + w2.length ≤ 200000) (hn : tT (strip (P ++ y :: Q)) + w2.length + v.length ≤ 300000) (hl : (P ++ y :: Q).length < 4700) (he : eN (strip (P ++ y :: Q)) < 10000) (hs : l.length + 132 + sz ws ≤ 420000) :
    mjY mjPP (mjQQ Y) (d + 6) 114 84 [some (.ref 0), some (.int x1), some (.int x2), some (.int x3), some (.int x4), some (.int x5), some (.int x6), none] [] σ (cmdK u0 ws (P ++ y :: Q) l i1 (mvF (strip (P ++ y :: Q)) w1 w2 fl x4)) := by
  have hlen := (List.getElem?_eq_some_iff.mp h1).1
  have hid := h.id
  have eo : mvF (strip (P ++ y :: Q)) w1 w2 fl x4 = some (stl1 (upA (orA (upA (strip (P ++ y :: Q)) P.length (esF (fun es => if fl = 0 then es.dropLast else es.tail))) w2 1).1 (orA (upA (strip (P ++ y :: Q)) P.length (esF (fun es => if fl = 0 then es.dropLast else es.tail))) w2 1).2 (esF (fun es => if x4 = 0 then es ++ [(v, [], 0)] else (v, [], 0) :: es)))
        (if kyI (upA (strip (P ++ y :: Q)) P.length (esF (fun es => if fl = 0 then es.dropLast else es.tail))) w2 = none ∧ (orA (upA (strip (P ++ y :: Q)) P.length (esF (fun es => if fl = 0 then es.dropLast else es.tail))) w2 1).2 ≤ P.length then P.length + 1 else P.length)) := by
    unfold mvF; rw [g1, hv]
    simp only [strip_gt]
    rfl
  rw [eo]
  refine mjZ_y rfl rfl 4 _ _ _ _ ty ?_
  refine (And.intro (Nat.le_of_ble_eq_true rfl) (And.intro rfl (And.intro (Nat.le_of_ble_eq_true rfl) (And.intro (Nat.le_of_ble_eq_true rfl) (mjY_mono ty (fun q_ u1 ty1 h_ => ?_) (w_unlink h ty hE e2 e5))))))
  obtain ⟨rfl, h3, f3⟩ := h_
  intro _
  have sA : strip (P ++ withE y (E1 ++ E2) :: Q) = upA (strip (P ++ y :: Q)) P.length (esF (fun es => if fl = 0 then es.dropLast else es.tail)) := strip_up (st1_with hm)
  have tA : tT (strip (P ++ withE y (E1 ++ E2) :: Q)) ≤ tT (strip (P ++ y :: Q)) := by
    rw [tT_at, tT_at, tT_1, tT_1]
    show _ + (y.2.1.length + y.2.2.2.2.2.1.length + eT ((E1 ++ E2).map (fun z => z.2))) + _ ≤ _ + (y.2.1.length + y.2.2.2.2.2.1.length + eT (y.2.2.2.2.2.2.map (fun z => z.2))) + _
    rw [hE, List.map_append, List.map_append, List.map_cons, eT_app, eT_app]
    show _ ≤ _ + (_ + (_ + (_ + eT (E2.map (fun z => z.2))))) + _
    omega
  have nA : eN (strip (P ++ withE y (E1 ++ E2) :: Q)) ≤ eN (strip (P ++ y :: Q)) := by
    rw [eN_at, eN_at, eN_1, eN_1]
    show _ + ((E1 ++ E2).map (fun z => z.2)).length + _ ≤ _ + (y.2.2.2.2.2.2.map (fun z => z.2)).length + _
    rw [hE, List.length_map, List.length_map, List.length_append, List.length_append, List.length_cons]; omega
  rw [← sA]
  have om := orA_m (strip (P ++ withE y (E1 ++ E2) :: Q)) w2 1
  refine mjZ_y rfl rfl 4 _ _ _ _ ty1 ?_
  refine (And.intro (Nat.le_of_ble_eq_true rfl) (And.intro rfl (And.intro (Nat.le_of_ble_eq_true rfl) (And.intro (Nat.le_of_ble_eq_true rfl) (mjY_mono ty1 (fun q_ u2 ty2 h_ => ?_) (w_makeOr2 h3 ty1 h2 (x := Int32.ofInt 2) rfl 1 (by omega) (by omega) (by rw [List.length_append, List.length_cons] at hl ⊢; exact hl)))))))
  obtain ⟨P2, z, Q2, rfl, h4, f4, s4, p4, r4⟩ := h_
  intro _
  generalize hA1 : strip (P ++ withE y (E1 ++ E2) :: Q) = A1 at *
  rw [← s4] at om
  have vz : vp_in (nI z.1) 4700 := vp_in_nI h4.id (by decide)
  have k4 : WK u2 v := (hk.fr f3 (by decide) (by decide)).fr f4 (by decide) (by decide)
  -- the rest, behind the place of the new element
  have go : ∀ (xb : Int32) (F1 F2 : List ER), z.2.2.2.2.2.2 = F1 ++ F2 → xb = lst (-1) (ids F1) → (F1.map (fun z => z.2) ++ (v, [], 0) :: F2.map (fun z => z.2)) = (if x4 = 0 then z.2.2.2.2.2.2.map (fun z => z.2) ++ [(v, [], 0)] else (v, [], 0) :: z.2.2.2.2.2.2.map (fun z => z.2)) → mjY mjPP (mjQQ Y) (d + 6) 114 103 [some (.ref 0), some (.int x1), some (.int x2), some (.int x3), some (.int x4), some (.int x5), some (.int (nI z.1)), none] [.int xb, .int (nI z.1), .ref 0] u2 (cmdK u0 ws (P ++ y :: Q) l i1 (some (stl1 (upA (orA A1 w2 1).1 (orA A1 w2 1).2 (esF (fun es => if x4 = 0 then es ++ [(v, [], 0)] else (v, [], 0) :: es))) (if kyI A1 w2 = none ∧ (orA A1 w2 1).2 ≤ P.length then P.length + 1 else P.length)))) := by
    intro xb F1 F2 hF eb hm2
    refine mjZ_y rfl rfl 1 _ _ _ _ ty2 ?_
    refine (And.intro (Nat.le_of_ble_eq_true rfl) (And.intro rfl (And.intro (Nat.le_of_ble_eq_true rfl) (And.intro (Nat.le_of_ble_eq_true rfl) (mjY_mono ty2 (fun q_ u3 ty3 h_ => ?_) (w_insert h4 ty2 hF (by omega) rfl eb))))))
    obtain ⟨e, he2, rfl, h5, f5⟩ := h_
    intro _
    have k5 : WK u3 v := k4.fr f5 (by decide) (by decide)
    have t1 : tT (strip (P2 ++ withE z (F1 ++ (e, [], [], 0) :: F2) :: Q2)) = tT (strip (P2 ++ z :: Q2)) := by
      rw [tT_at, tT_at, tT_1, tT_1]
      show _ + (z.2.1.length + z.2.2.2.2.2.1.length + eT ((F1 ++ (e, [], [], 0) :: F2).map (fun z => z.2))) + _ = _ + (z.2.1.length + z.2.2.2.2.2.1.length + eT (z.2.2.2.2.2.2.map (fun z => z.2))) + _
      rw [hF, List.map_append, List.map_append, List.map_cons, eT_app, eT_app]
      show _ + (_ + (_ + (0 + 0 + _))) + _ = _
      omega
    refine mjZ_y rfl rfl 9 _ _ _ _ ty3 ?_
    refine (And.intro (Nat.le_of_ble_eq_true rfl) (And.intro rfl (And.intro rfl (And.intro (Nat.le_of_ble_eq_true rfl) (And.intro rfl (And.intro (Nat.le_of_ble_eq_true rfl) (And.intro (Nat.le_of_ble_eq_true rfl) (mjY_mono ty3 (fun q_ u4 ty4 h_ => ?_) (w_name h5 ty3 (x := withE z (F1 ++ (e, [], [], 0) :: F2)) (y := (e, [], [], 0)) (E1 := F1) (E2 := F2) rfl r_work 0 v.length rfl (by decide) (by show 0 + v.length ≤ 70000; have := k5.2.1; omega) (by decide) (by omega) (by omega) rfl rfl k5.1)))))))))
    obtain ⟨rfl, h6, f6⟩ := h_
    intro _
    have h6 : Wd u4 ws (P2 ++ withE z (F1 ++ (e, wd (u3.2.2.1 r_work) 0 v.length, [], 0) :: F2) :: Q2) l := h6
    rw [k5.2.2] at h6
    refine mjZ_y rfl rfl 3 _ _ _ _ ty4 ?_
    refine (And.intro (Nat.le_of_ble_eq_true rfl) (And.intro rfl (And.intro (Nat.le_of_ble_eq_true rfl) (And.intro (Nat.le_of_ble_eq_true rfl) (mjY_mono ty4 (fun q_ u5 ty5 h_ => ?_) (w_touch h6 ty4 (x := withE z (F1 ++ (e, v, [], 0) :: F2)) (List.mem_append_right _ List.mem_cons_self) rfl))))))
    obtain ⟨rfl, h7, f7⟩ := h_
    intro _
    have s7 : strip (P2 ++ withE z (F1 ++ (e, v, [], 0) :: F2) :: Q2) = upA (orA A1 w2 1).1 (orA A1 w2 1).2 (esF (fun es => if x4 = 0 then es ++ [(v, [], 0)] else (v, [], 0) :: es)) := by
      rw [← s4, ← p4]
      refine strip_up (st1_with ?_)
      rw [List.map_append, List.map_cons]; exact hm2
    have fd : ∃ R t S, P2 ++ withE z (F1 ++ (e, v, [], 0) :: F2) :: Q2 = R ++ t :: S ∧ t.1 = y.1 ∧ R.length = (if kyI A1 w2 = none ∧ (orA A1 w2 1).2 ≤ P.length then P.length + 1 else P.length) := by
      rcases r4 with ⟨a, b⟩ | ⟨a, b⟩
      · rw [if_neg (fun c => a c.1)]
        exact mv_findE (y := withE y (E1 ++ E2)) (z := z) (z2 := withE z (F1 ++ (e, v, [], 0) :: F2)) rfl b
      · obtain ⟨R, t, S, c1, c2, c3⟩ := mv_findN (y := withE y (E1 ++ E2)) (z2 := withE z (F1 ++ (e, v, [], 0) :: F2)) b
        refine ⟨R, t, S, c1, c2, ?_⟩
        rw [c3, ← p4]
        by_cases c : P2.length ≤ P.length
        · rw [if_pos c, if_pos ⟨a, c⟩]
        · rw [if_neg c, if_neg (fun q => c q.2)]
    obtain ⟨R, tt, S, c1, c2, c3⟩ := fd
    rw [c1] at h7 s7
    rw [← s7, ← c3]
    have fa : Fr cF cH u0 u5 := (((f0.tr f3.k).tr f4.k).tr (f5.k.tr f6.k)).tr f7.t
    have hl5 := W_len h7
    refine mjZ_y rfl rfl 3 _ _ _ _ ty5 ?_
    refine (And.intro (Nat.le_of_ble_eq_true rfl) (And.intro rfl (And.intro (Nat.le_of_ble_eq_true rfl) (And.intro (Nat.le_of_ble_eq_true rfl) (mjY_mono ty5 (fun q_ u6 ty6 h_ => ?_) (w_settle h7 ty5 (show x2 = nI tt.1 by rw [c2]; exact e2) (by omega)))))))
    obtain ⟨rfl, f8, h8⟩ := h_
    intro _
    have fb := fa.tr f8.k1
    rcases h8 with ⟨q, h8⟩ | ⟨q, h8⟩
    · refine mjZ_y rfl rfl 3 _ _ _ _ ty6 ?_
      refine (And.intro (Nat.le_of_ble_eq_true rfl) (And.intro rfl (And.intro (Nat.le_of_ble_eq_true rfl) (And.intro (Nat.le_of_ble_eq_true rfl) (mjY_mono ty6 (fun q_ u7 ty7 h_ => ?_) (w_noteAll h8 ty6 (by omega) i1 e1 hi hs))))))
      obtain ⟨rfl, h9, f9⟩ := h_
      intro _
      refine mjZ_y rfl rfl 1 _ _ _ _ ty7 ?_
      refine And.intro rfl (And.intro rfl ?_)
      rw [ntA_fr fb] at h9
      exact ⟨rfl, fb.tr f9.n, _, h9, stl1_nil q⟩
    · refine mjZ_y rfl rfl 3 _ _ _ _ ty6 ?_
      refine (And.intro (Nat.le_of_ble_eq_true rfl) (And.intro rfl (And.intro (Nat.le_of_ble_eq_true rfl) (And.intro (Nat.le_of_ble_eq_true rfl) (mjY_mono ty6 (fun q_ u7 ty7 h_ => ?_) (w_noteAll h8 ty6 (by omega) i1 e1 hi hs))))))
      obtain ⟨rfl, h9, f9⟩ := h_
      intro _
      refine mjZ_y rfl rfl 1 _ _ _ _ ty7 ?_
      refine And.intro rfl (And.intro rfl ?_)
      rw [ntA_fr fb] at h9
      exact ⟨rfl, fb.tr f9.n, _, h9, stl1_cons q⟩
  obtain ⟨kT, -, -, -⟩ := W_tail h4 rfl
  refine mjZ_y rfl rfl 5 _ _ _ _ ty2 ?_
  refine (And.intro (Nat.le_of_ble_eq_true rfl) (And.intro (fun c => ?_) (fun c => ?_)))
  · have c : x4 = 0 := c
    refine mjZ_y rfl rfl 4 _ _ _ _ ty2 ?_
    refine (And.intro rfl (And.intro rfl (And.intro vz ?_)))
    refine go _ z.2.2.2.2.2.2 [] (List.append_nil _).symm kT ?_
    rw [if_pos c]; rfl
  · have c : ¬ x4 = 0 := c
    refine mjZ_y rfl rfl 2 _ _ _ _ ty2 ?_
    refine go _ [] z.2.2.2.2.2.2 rfl rfl ?_
    rw [if_neg c]; rfl
/-- LEFT -/
def leI (o : List Int32) : Int32 := isF o 1279608404
def mvFl (i1 : Nat) (o : List Int32) : Int32 := if i1 = 50 then leI o else 0
def mvTl (i1 : Nat) (o : List Int32) : Int32 := if i1 = 51 then 1 else leI o
theorem isF_01 (w : List Int32) (c : Int64) : isF w c = 0 ∨ isF w c = 1 := by unfold isF; split; exact Or.inr rfl; exact Or.inl rfl
set_option maxRecDepth 100000 in
theorem r_move {σ : mjS} {ws : List (List Int32)} {ks : List KR} {l : List Int32} (h : Wd σ ws ks l) (ty : mjTY σ) (i1 : Nat) (hi : i1 = 50 ∨ i1 = 51) {x1 : Int32} (e1 : x1 = nI i1) {w1 w2 o3 o4 : List Int32} (h1 : ws[1]? = some w1) (h2 : ws[2]? = some w2) (h3 : i1 = 50 → ws[3]? = some o3) (h4 : i1 = 50 → ws[4]? = some o4) (hne : ∀ p a, kyI (strip ks) w1 = some p → (strip ks)[p]? = some a → a.2.2.2.2.2 ≠ [] ∧ ∀ z ∈ a.2.2.2.2.2, z.1.length ≤ 70000) (ht : tT (strip ks) + w2.length ≤ 200000) (hl : ks.length < 4700) (he : eN (strip ks) < 10000) (hs : l.length + 132 + sz ws ≤ 420000) :
    mjY mjPP (mjQQ Y) (d + 6) 114 0 (mjL0 8 [.ref 0, .int x1]) [] σ (cmdK σ ws ks l i1 (mvF (strip ks) w1 w2 (mvFl i1 o3) (mvTl i1 o4))) := by
  have hlen := (List.getElem?_eq_some_iff.mp h1).1
  have nn : ∀ c : Nat, c < 128 → ((¬ x1 = nI c) ↔ ¬ i1 = c) := fun c hc => by rw [e1, nI_eq (by omega) (by omega)]
  refine mjZ_y rfl rfl 3 _ _ _ _ ty ?_
  refine (And.intro (Nat.le_of_ble_eq_true rfl) (And.intro rfl (And.intro (Nat.le_of_ble_eq_true rfl) (And.intro (Nat.le_of_ble_eq_true rfl) (mjY_mono ty (fun q_ u1 ty1 h_ => ?_) (w_key h ty h1 (x := Int32.ofInt 1) rfl))))))
  obtain ⟨rfl, rfl⟩ := h_
  intro _
  refine mjZ_y rfl rfl 3 _ _ _ _ ty1 ?_
  refine (And.intro (Nat.le_of_ble_eq_true rfl) (And.intro (fun c => ?_) (fun c => ?_)))
  · have c := (ky_ge h w1).1.mp c
    obtain ⟨P, y, Q, g0, g1, g2, -⟩ := ky_some c
    have e2 : kyS ks w1 = nI y.1 := g2
    generalize kyS ks w1 = x2 at e2
    subst g0
    obtain ⟨kT, kHd, kM, vk⟩ := W_tail h e2
    obtain ⟨hn1, hn2⟩ := hne _ _ g1 strip_gt
    have ne : y.2.2.2.2.2.2 ≠ [] := fun z => hn1 (by show y.2.2.2.2.2.2.map _ = []; rw [z]; rfl)
    have s45 : ∀ (x3 x4 x5 : Int32) (E1 E2 : List ER) (t : ER), x4 = mvTl i1 o4 → y.2.2.2.2.2.2 = E1 ++ t :: E2 → x5 = nI t.1 → (E1 ++ E2).map (fun z => z.2) = (if mvFl i1 o3 = 0 then (y.2.2.2.2.2.2.map (fun z => z.2)).dropLast else (y.2.2.2.2.2.2.map (fun z => z.2)).tail) → t.2.1 = (if mvFl i1 o3 = 0 then laW (y.2.2.2.2.2.2.map (fun z => z.2)) else hdW (y.2.2.2.2.2.2.map (fun z => z.2))) → mjY mjPP (mjQQ Y) (d + 6) 114 45 [some (.ref 0), some (.int x1), some (.int x2), some (.int x3), some (.int x4), some (.int x5), none, none] [] u1 (cmdK u1 ws (P ++ y :: Q) l i1 (mvF (strip (P ++ y :: Q)) w1 w2 (mvFl i1 o3) (mvTl i1 o4))) := by
      intro x3 x4 x5 E1 E2 t e4 hE e5 hm hv
      have tm : t ∈ y.2.2.2.2.2.2 := by rw [hE]; exact List.mem_append_right _ List.mem_cons_self
      obtain ⟨hz, hh, ho⟩ := h.eid tm
      have tid := ho.1
      have tl : t.2.1.length ≤ 70000 := hn2 t.2 (List.mem_map.mpr ⟨t, tm, rfl⟩)
      have v5 : vp_in x5 10000 := by rw [e5]; exact vp_in_nI tid (by decide)
      have c5 : x5.toNatClampNeg = t.1 := by rw [e5]; exact nI_clamp (by omega)
      refine mjZ_y rfl rfl 12 _ _ _ _ ty1 ?_
      refine (And.intro rfl (And.intro rfl (And.intro rfl (And.intro v5 (And.intro rfl (And.intro rfl (And.intro v5 (And.intro (Nat.le_of_ble_eq_true rfl) (And.intro rfl (And.intro (Nat.le_of_ble_eq_true rfl) (And.intro (Nat.le_of_ble_eq_true rfl) (mjY_mono ty1 (fun q_ u2 ty2 h_ => ?_) (w_wordR h ty1 ho.2.1 hh (by omega) e5)))))))))))))
      obtain ⟨rfl, h5, f5⟩ := h_
      intro _
      obtain ⟨hz2, hh2, ho2⟩ := h5.eid tm
      obtain ⟨a, ea, el, ha, ew⟩ := ho2.2.1.cmp hh2
      refine mjZ_y rfl rfl 8 _ _ _ _ ty2 ?_
      refine (And.intro rfl (And.intro rfl (And.intro v5 (And.intro rfl (And.intro (Or.inl rfl) (fun ty2' => (And.intro (Nat.le_of_ble_eq_true rfl) ?_)))))))
      refine c_mv_loop _ x1 x2 x3 x4 x5 a t.2.1.length t.1 e5 tid ha tl (u2.2.2.1 r_heap) (u2.2.2.1 r_work) t.2.1.length 0 _ _ rfl (Nat.zero_add _) ty2' ?_ rfl ea (by rw [cpy_0]) (fun u3 x6 ty3 f6 e6 => ?_)
      · show u2.2.2.1 r_eLen x5.toNatClampNeg = _
        rw [c5, el]
      · have f0 : Fr [f_workSize] [r_work] u2 u3 := (Fr.i (k := f_workSize) (by decide)).tr (f6.up (fun _ q => by cases q) (by decide))
        have h6 := h5.fr f0 (by decide) (by decide)
        have k6 : WK u3 t.2.1 := by
          refine ⟨?_, tl, by rw [e6, cpy_wd, ew]⟩
          rw [f6.1 _ (by decide)]
          show u2.2.2.1 r_eLen x5.toNatClampNeg = _
          rw [c5, el]
        rw [← e4]
        exact c_mv_84 h6 ty3 (f5.c.tr (f0.up (by decide) (by decide))) (by omega) e1 e2 h1 h2 hE e5 k6 _ hm hv g1 ht (by omega) hl he hs
    have s33 : ∀ x3 x4 : Int32, x3 = mvFl i1 o3 → x4 = mvTl i1 o4 → mjY mjPP (mjQQ Y) (d + 6) 114 33 [some (.ref 0), some (.int x1), some (.int x2), some (.int x3), some (.int x4), none, none, none] [] u1 (cmdK u1 ws (P ++ y :: Q) l i1 (mvF (strip (P ++ y :: Q)) w1 w2 (mvFl i1 o3) (mvTl i1 o4))) := by
      intro x3 x4 e3 e4
      refine mjZ_y rfl rfl 2 _ _ _ _ ty1 ?_
      refine And.intro (fun q => ?_) (fun q => ?_)
      · have q : mvFl i1 o3 = 0 := e3.symm.trans q
        obtain ⟨R, z, hE, eT⟩ := W_last h e2 ne
        refine mjZ_y rfl rfl 5 _ _ _ _ ty1 ?_
        refine (And.intro rfl (And.intro rfl (And.intro vk (And.intro (Nat.le_of_ble_eq_true rfl) ?_))))
        refine s45 x3 x4 _ R [] z e4 hE eT ?_ ?_
        · rw [List.append_nil, if_pos q, hE, List.map_append]; show _ = (_ ++ [z.2]).dropLast; rw [List.dropLast_concat]
        · rw [if_pos q, hE, List.map_append]; unfold laW; rw [List.reverse_append]; rfl
      · have q : ¬ mvFl i1 o3 = 0 := fun t => q (e3.trans t)
        obtain ⟨z, R, hE, eH⟩ := W_first h e2 ne
        refine mjZ_y rfl rfl 6 _ _ _ _ ty1 ?_
        refine (And.intro rfl (And.intro rfl (And.intro vk (And.intro (Nat.le_of_ble_eq_true rfl) ?_))))
        refine s45 x3 x4 _ [] R z e4 hE eH ?_ ?_
        · rw [if_neg q, hE]; rfl
        · rw [if_neg q, hE]; rfl
    have s21 : ∀ x3 : Int32, x3 = mvFl i1 o3 → mjY mjPP (mjQQ Y) (d + 6) 114 21 [some (.ref 0), some (.int x1), some (.int x2), some (.int x3), none, none, none, none] [] u1 (cmdK u1 ws (P ++ y :: Q) l i1 (mvF (strip (P ++ y :: Q)) w1 w2 (mvFl i1 o3) (mvTl i1 o4))) := by
      intro x3 e3
      refine mjZ_y rfl rfl 3 _ _ _ _ ty1 ?_
      refine And.intro (fun q => ?_) (fun q => ?_)
      · have q : i1 = 51 := Decidable.of_not_not (fun t => (nn 51 (by decide)).mpr t q)
        refine mjZ_y rfl rfl 3 _ _ _ _ ty1 ?_
        refine (And.intro (Nat.le_of_ble_eq_true rfl) ?_)
        exact s33 x3 _ e3 (by unfold mvTl; rw [if_pos q]; rfl)
      · have q : ¬ i1 = 51 := (nn 51 (by decide)).mp q
        have em : mvTl i1 o4 = leI o4 := if_neg q
        refine mjZ_y rfl rfl 4 _ _ _ _ ty1 ?_
        refine (And.intro (Nat.le_of_ble_eq_true rfl) (And.intro rfl (And.intro (Nat.le_of_ble_eq_true rfl) (And.intro (Nat.le_of_ble_eq_true rfl) (mjY_mono ty1 (fun q_ u2 ty2 h_ => ?_) (c_is h.2.1 4 o4 (h4 (by omega)) ty1 1279608404))))))
        obtain ⟨rfl, rfl⟩ := h_
        intro _
        refine mjZ_y rfl rfl 1 _ _ _ _ ty1 ?_
        refine And.intro (fun b => ?_) (fun b => ?_)
        · refine mjZ_y rfl rfl 2 _ _ _ _ ty1 ?_
          refine (And.intro (Nat.le_of_ble_eq_true rfl) ?_)
          exact s33 x3 _ e3 (by rw [em]; exact (show leI o4 = 0 from b).symm)
        · refine mjZ_y rfl rfl 3 _ _ _ _ ty1 ?_
          refine (And.intro (Nat.le_of_ble_eq_true rfl) ?_)
          exact s33 x3 _ e3 (by rw [em]; exact ((isF_01 o4 1279608404).elim (fun t => absurd t b) id).symm)
    refine mjZ_y rfl rfl 3 _ _ _ _ ty1 ?_
    refine And.intro (fun q => ?_) (fun q => ?_)
    · have q := (nn 50 (by decide)).mp q
      refine mjZ_y rfl rfl 2 _ _ _ _ ty1 ?_
      refine (And.intro (Nat.le_of_ble_eq_true rfl) ?_)
      exact s21 _ (by unfold mvFl; rw [if_neg q]; rfl)
    · have q : i1 = 50 := Decidable.of_not_not (fun t => q ((nn 50 (by decide)).mpr t))
      have em : mvFl i1 o3 = leI o3 := if_pos q
      refine mjZ_y rfl rfl 4 _ _ _ _ ty1 ?_
      refine (And.intro (Nat.le_of_ble_eq_true rfl) (And.intro rfl (And.intro (Nat.le_of_ble_eq_true rfl) (And.intro (Nat.le_of_ble_eq_true rfl) (mjY_mono ty1 (fun q_ u2 ty2 h_ => ?_) (c_is h.2.1 3 o3 (h3 q) ty1 1279608404))))))
      obtain ⟨rfl, rfl⟩ := h_
      intro _
      refine mjZ_y rfl rfl 1 _ _ _ _ ty1 ?_
      refine And.intro (fun b => ?_) (fun b => ?_)
      · refine mjZ_y rfl rfl 2 _ _ _ _ ty1 ?_
        refine (And.intro (Nat.le_of_ble_eq_true rfl) ?_)
        exact s21 _ (by rw [em]; exact (show leI o3 = 0 from b).symm)
      · refine mjZ_y rfl rfl 3 _ _ _ _ ty1 ?_
        refine (And.intro (Nat.le_of_ble_eq_true rfl) ?_)
        exact s21 _ (by rw [em]; exact ((isF_01 o3 1279608404).elim (fun t => absurd t b) id).symm)
  · have c : kyI (strip ks) w1 = none := Decidable.of_not_not (fun z => c ((ky_ge h w1).1.mpr z))
    have eo : mvF (strip ks) w1 w2 (mvFl i1 o3) (mvTl i1 o4) = none := by unfold mvF; rw [c]
    rw [eo]
    refine mjZ_y rfl rfl 2 _ _ _ _ ty1 ?_
    refine (And.intro (Nat.le_of_ble_eq_true rfl) (And.intro rfl (And.intro (Nat.le_of_ble_eq_true rfl) (And.intro (Nat.le_of_ble_eq_true rfl) (mjY_mono ty1 (fun q_ u2 ty2 h_ => ?_) (w_nil h ty1))))))
    obtain ⟨rfl, h5, f5⟩ := h_
    intro _
    refine mjZ_y rfl rfl 1 _ _ _ _ ty2 ?_
    refine And.intro rfl (And.intro rfl ?_)
    exact ⟨rfl, f5.c, ks, h5, rfl⟩
end MOVE
