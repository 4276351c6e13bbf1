/-! seek, member, put: elements that are found by their words. -/
section SEEK
variable {Y : Nat → MethodName × ByteArray} {d : Nat}
/-- how many elements stand ahead of a word -/
def skI (v : List Int32) : List AE → Nat
  | [] => 0
  | z :: r => if cmpW z.1 v < 0 then skI v r + 1 else 0
/-- the word is there -/
def skB (v : List Int32) (es : List AE) : Prop := ∃ z, es[skI v es]? = some z ∧ cmpW z.1 v = 0
theorem skB_cons {v : List Int32} {z : AE} {r : List AE} (h : cmpW z.1 v < 0) : skB v (z :: r) ↔ skB v r := by
  have e : skI v (z :: r) = skI v r + 1 := if_pos h
  unfold skB; rw [e]; rfl
set_option maxRecDepth 100000 in
theorem c_seek_loop (K : mjK) {ws : List (List Int32)} {l : List Int32} {P Q : List KR} {y : KR} (h a n : Nat) (hh : mjKd h = 1) (ha : a + n ≤ mjLn h) (hlh : mjLn h < 2 ^ 30) (x1 : Int32) (v : List Int32) : ∀ (E2 E1 : List ER) (σ : mjS) (x5 : Int32) (l6 : Option Value), y.2.2.2.2.2.2 = E1 ++ E2 → x5 = nx (ids E2) → wd (σ.2.2.1 h) a n = v → σ.1 f_found = lst (-1) (ids E1) → mjTY σ → Wd σ ws (P ++ y :: Q) l →
    (∀ u F1 F2 r, Fr [f_found] [] σ u → E2 = F1 ++ F2 → F1.length = skI v (E2.map (fun z => z.2)) → u.1 f_found = lst (-1) (ids (E1 ++ F1)) → ((skB v (E2.map (fun z => z.2)) ∧ ∃ t F3, F2 = t :: F3 ∧ r = nI t.1) ∨ (¬ skB v (E2.map (fun z => z.2)) ∧ r = -1)) → K (some (.int r)) u) →
    mjY mjPP (mjQQ Y) (d + 1) 115 12 [some (.ref 0), some (.int x1), some (.ref h), some (.int (nI a)), some (.int (nI n)), some (.int x5), l6] [] σ K := by
  intro E2
  induction E2 with
  | nil =>
    intro E1 σ x5 l6 hE e5 ew ef ty hW hK
    refine mjZ_y rfl rfl 2 _ _ _ _ ty ?_
    refine And.intro (fun q => ?_) (fun q => ?_)
    · refine mjZ_y rfl rfl 2 _ _ _ _ ty ?_
      refine And.intro rfl (And.intro (Or.inl rfl) ?_)
      refine hK σ [] [] (-1) Fr.rf rfl rfl (by rw [List.append_nil]; exact ef) (Or.inr ⟨fun z => ?_, rfl⟩)
      obtain ⟨t, e, -⟩ := z; cases e
    · exact absurd (lt_m1 e5) q
  | cons z E2 ih =>
    intro E1 σ x5 l6 hE e5 ew ef ty hW hK
    have e5 : x5 = nI z.1 := e5
    have hm : z ∈ y.2.2.2.2.2.2 := by rw [hE]; exact List.mem_append_right _ List.mem_cons_self
    obtain ⟨hN, -, v5⟩ := W_next hW hE e5
    obtain ⟨hs, hhs, ho⟩ := hW.eid hm
    have hid := ho.1
    obtain ⟨b, eb, el, hb, ewb⟩ := ho.2.1.clamp hhs (by omega) e5
    have hc := c_compare (Y := Y) (d := d) r_heap h b z.2.1.length a n rfl hh hb ha (by decide) hlh ty
    rw [← eb, ← el, ewb, ew] at hc
    have r0 : (0 : Int32).toInt = 0 := by decide
    refine mjZ_y rfl rfl 2 _ _ _ _ ty ?_
    refine And.intro (fun q => ?_) (fun q => ?_)
    · exact absurd (show x5 < 0 from q) (lt_nI (by omega) e5)
    · refine mjZ_y rfl rfl 14 _ _ _ _ ty ?_
      refine (And.intro rfl (And.intro rfl (And.intro rfl (And.intro v5 (And.intro rfl (And.intro rfl (And.intro v5 (And.intro (Nat.le_of_ble_eq_true rfl) (And.intro (Nat.le_of_ble_eq_true rfl) (And.intro (Nat.le_of_ble_eq_true rfl) (mjY_mono ty (fun q_ u1 ty1 h_ => ?_) (hc))))))))))))
      obtain ⟨rfl, r, rfl, hr⟩ := h_
      intro _
      refine mjZ_y rfl rfl 3 _ _ _ _ ty ?_
      refine (And.intro (Nat.le_of_ble_eq_true rfl) (And.intro (fun c => ?_) (fun c => ?_)))
      · have c : ¬ cmpW z.2.1 v = 0 := fun t => c (Int32.toInt_inj.mp (by rw [hr, t, r0]))
        refine mjZ_y rfl rfl 2 _ _ _ _ ty ?_
        refine And.intro (fun b2 => ?_) (fun b2 => ?_)
        · have b2 : cmpW z.2.1 v < 0 := by
            have b2 := Int32.le_iff_toInt_le.mp (show r ≤ 0 from b2)
            rw [r0, hr] at b2; omega
          have es : skI v ((z :: E2).map (fun z => z.2)) = skI v (E2.map (fun z => z.2)) + 1 := if_pos b2
          refine mjZ_y rfl rfl 9 _ _ _ _ ty ?_
          refine (And.intro rfl (And.intro (Or.inl rfl) (fun ty' => (And.intro rfl (And.intro rfl (And.intro v5 (And.intro (Nat.le_of_ble_eq_true rfl) ?_)))))))
          refine ih (E1 ++ [z]) _ _ _ (by rw [hE, List.append_assoc]; rfl) hN ew ?_ ty' (hW.fr (Fr.i (fs := [f_found]) (hs := []) (by decide)) (by decide) (by decide)) (fun u F1 F2 r fu hF hl e6 hr6 => hK u (z :: F1) F2 r ((Fr.i (by decide)).tr fu) (by rw [hF]; rfl) (by rw [es, List.length_cons, hl]) (by rw [e6, List.append_assoc]; rfl) ?_)
          · rw [ids_app]; show x5 = _; rw [e5]; exact (lst_snoc _ _ _).symm
          · rw [List.map_cons, skB_cons b2]; exact hr6
        · have b2 : ¬ cmpW z.2.1 v < 0 := by
            intro t
            refine b2 (show r ≤ 0 from ?_)
            rw [Int32.le_iff_toInt_le, r0, hr]; omega
          have es : skI v ((z :: E2).map (fun z => z.2)) = 0 := if_neg b2
          refine mjZ_y rfl rfl 2 _ _ _ _ ty ?_
          refine And.intro rfl (And.intro (Or.inl rfl) ?_)
          refine hK u1 [] (z :: E2) (-1) Fr.rf rfl es.symm (by rw [List.append_nil]; exact ef) (Or.inr ⟨fun t => ?_, rfl⟩)
          obtain ⟨t, e, e2⟩ := t
          rw [es] at e
          have e : z.2 = t := Option.some.inj e
          rw [← e] at e2; exact c e2
      · have c : r = 0 := Decidable.of_not_not c
        have c : cmpW z.2.1 v = 0 := by rw [← hr, c, r0]
        have es : skI v ((z :: E2).map (fun z => z.2)) = 0 := if_neg (by show ¬ cmpW z.2.1 v < 0; omega)
        refine mjZ_y rfl rfl 2 _ _ _ _ ty ?_
        refine And.intro rfl (And.intro (Or.inl rfl) ?_)
        rw [e5]
        exact hK u1 [] (z :: E2) _ Fr.rf rfl es.symm (by rw [List.append_nil]; exact ef) (Or.inl ⟨⟨z.2, by rw [es]; rfl, c⟩, z, E2, rfl, rfl⟩)
set_option maxRecDepth 100000 in
theorem w_seek {σ : mjS} {ws : List (List Int32)} {l : List Int32} {P Q : List KR} {y : KR} (hW : Wd σ ws (P ++ y :: Q) l) (ty : mjTY σ) (h a n : Nat) (hh : mjKd h = 1) (ha : a + n ≤ mjLn h) (hlh : mjLn h < 2 ^ 30) {x1 x3 x4 : Int32} (e1 : x1 = nI y.1) (e3 : x3 = nI a) (e4 : x4 = nI n) {v : List Int32} (ew : wd (σ.2.2.1 h) a n = v) : mjY mjPP (mjQQ Y) (d + 1) 115 0 (mjL0 7 [.ref 0, .int x1, .ref h, .int x3, .int x4]) [] σ (fun q u => ∃ F1 F2 r, q = some (.int r) ∧ Fr [f_found] [] σ u ∧ y.2.2.2.2.2.2 = F1 ++ F2 ∧ F1.length = skI v (y.2.2.2.2.2.2.map (fun z => z.2)) ∧ u.1 f_found = lst (-1) (ids F1) ∧ ((skB v (y.2.2.2.2.2.2.map (fun z => z.2)) ∧ ∃ t F3, F2 = t :: F3 ∧ r = nI t.1) ∨ (¬ skB v (y.2.2.2.2.2.2.map (fun z => z.2)) ∧ r = -1))) := by
  rw [e3, e4]
  have hid := hW.id
  obtain ⟨-, kHd, -, vk⟩ := W_tail hW e1
  refine mjZ_y rfl rfl 5 _ _ _ _ ty ?_
  refine (And.intro rfl (And.intro (Or.inl rfl) (fun ty' => And.intro (fun q => ?_) (fun q => ?_))))
  · refine mjZ_y rfl rfl 5 _ _ _ _ ty' ?_
    refine (And.intro rfl (And.intro rfl (And.intro vk (And.intro (Nat.le_of_ble_eq_true rfl) ?_))))
    have f0 : Fr [f_found] [] σ (upd σ.1 f_found (Int32.ofInt (-1)), σ.2) := Fr.i (by decide)
    exact c_seek_loop _ h a n hh ha hlh x1 v y.2.2.2.2.2.2 [] _ _ _ rfl kHd ew rfl ty' (hW.fr f0 (by decide) (by decide)) (fun u F1 F2 r fu hF hl e6 hr6 => ⟨F1, F2, r, rfl, f0.tr fu, hF, hl, e6, hr6⟩)
  · exact absurd (ge_nI (by omega) e1) q
set_option maxRecDepth 100000 in
theorem w_seek0 {σ : mjS} (ty : mjTY σ) (h : Nat) {x1 x3 x4 : Int32} (e1 : x1 = -1) : mjY mjPP (mjQQ Y) (d + 1) 115 0 (mjL0 7 [.ref 0, .int x1, .ref h, .int x3, .int x4]) [] σ (fun q u => q = some (.int (-1)) ∧ Fr [f_found] [] σ u) := by
  refine mjZ_y rfl rfl 5 _ _ _ _ ty ?_
  refine (And.intro rfl (And.intro (Or.inl rfl) (fun ty' => And.intro (fun q => ?_) (fun q => ?_))))
  · exact absurd q (ge_m1 e1)
  · refine mjZ_y rfl rfl 2 _ _ _ _ ty' ?_
    refine And.intro rfl (And.intro (Or.inl rfl) ?_)
    exact ⟨rfl, Fr.i (by decide)⟩
/-- the element of this name of the key of that name -/
def mbA (A : List AK) (w v : List Int32) : Prop := ∃ p a, kyI A w = some p ∧ A[p]? = some a ∧ skB v a.2.2.2.2.2
theorem mbA_at {P Q : List KR} {y : KR} {w v : List Int32} (h : kyI (strip (P ++ y :: Q)) w = some P.length) : mbA (strip (P ++ y :: Q)) w v ↔ skB v (y.2.2.2.2.2.2.map (fun z => z.2)) := by
  constructor
  · intro z
    obtain ⟨p, a, z1, z2, z3⟩ := z
    rw [h] at z1
    have z1 := Option.some.inj z1
    rw [← z1, strip_gt] at z2
    have z2 := Option.some.inj z2
    rw [← z2] at z3; exact z3
  · intro z; exact ⟨_, _, h, strip_gt, z⟩
set_option maxRecDepth 100000 in
/-- member, of a key that key has answered -/
theorem w_member {σ : mjS} {ws : List (List Int32)} {ks : List KR} {l : List Int32} (hW : Wd σ ws ks l) (ty : mjTY σ) {w v : List Int32} {i : Nat} (hi : ws[i]? = some v) {x1 x2 : Int32} (e1 : x1 = kyS ks w) (e2 : x2 = nI i) : mjY mjPP (mjQQ Y) (d + 2) 116 0 (mjL0 3 [.ref 0, .int x1, .int x2]) [] σ (fun q u => ∃ r, q = some (.int r) ∧ Fr [f_found] [] σ u ∧ Wd u ws ks l ∧ ((¬ mbA (strip ks) w v ∧ r = -1) ∨ (mbA (strip ks) w v ∧ ∃ P y Q F1 t F2, ks = P ++ y :: Q ∧ kyI (strip ks) w = some P.length ∧ x1 = nI y.1 ∧ y.2.2.2.2.2.2 = F1 ++ t :: F2 ∧ F1.length = skI v (y.2.2.2.2.2.2.map (fun z => z.2)) ∧ r = nI t.1))) := by
  obtain ⟨v2, a, ea, el, ha, ew⟩ := hW.2.1.clamp hi e2
  by_cases c : kyI (strip ks) w = none
  · have nm : ¬ mbA (strip ks) w v := by
      intro z; obtain ⟨p, a, z1, -⟩ := z; rw [c] at z1; cases z1
    refine mjZ_y rfl rfl 13 _ _ _ _ ty ?_
    refine (And.intro rfl (And.intro rfl (And.intro rfl (And.intro v2 (And.intro rfl (And.intro rfl (And.intro v2 (And.intro (Nat.le_of_ble_eq_true rfl) (And.intro rfl (And.intro (Nat.le_of_ble_eq_true rfl) (And.intro (Nat.le_of_ble_eq_true rfl) (mjY_mono ty (fun q_ u1 ty1 h_ => ?_) (w_seek0 ty r_req (e1.trans (ky_none c)))))))))))))))
    obtain ⟨rfl, f1⟩ := h_
    intro _
    refine mjZ_y rfl rfl 1 _ _ _ _ ty1 ?_
    refine And.intro rfl (And.intro (Or.inl rfl) ?_)
    exact ⟨_, rfl, f1, hW.fr f1 (by decide) (by decide), Or.inl ⟨nm, rfl⟩⟩
  · obtain ⟨P, y, Q, g0, g1, g2, -⟩ := ky_some c
    subst g0
    have e1y := e1.trans g2
    refine mjZ_y rfl rfl 13 _ _ _ _ ty ?_
    refine (And.intro rfl (And.intro rfl (And.intro rfl (And.intro v2 (And.intro rfl (And.intro rfl (And.intro v2 (And.intro (Nat.le_of_ble_eq_true rfl) (And.intro rfl (And.intro (Nat.le_of_ble_eq_true rfl) (And.intro (Nat.le_of_ble_eq_true rfl) (mjY_mono ty (fun q_ u1 ty1 h_ => ?_) (w_seek hW ty r_req a v.length rfl ha (by decide) e1y ea el ew)))))))))))))
    obtain ⟨F1, F2, r, rfl, f1, hF, hl, -, hr⟩ := h_
    intro _
    refine mjZ_y rfl rfl 1 _ _ _ _ ty1 ?_
    refine And.intro rfl (And.intro (Or.inl rfl) ?_)
    refine ⟨r, rfl, f1, hW.fr f1 (by decide) (by decide), ?_⟩
    rw [mbA_at g1]
    rcases hr with ⟨b, t, F3, hF3, er⟩ | ⟨b, er⟩
    · exact Or.inr ⟨b, P, y, Q, F1, t, F3, rfl, g1, e1y, by rw [hF, hF3], hl, er⟩
    · exact Or.inl ⟨b, er⟩
/-- the word is there, as a test -/
def skT (v : List Int32) (es : List AE) : Bool := match es[skI v es]? with
  | some z => decide (cmpW z.1 v = 0)
  | none => false
theorem skT_iff {v : List Int32} {es : List AE} : skT v es = true ↔ skB v es := by
  unfold skT skB
  cases h : es[skI v es]? with
  | none => exact ⟨fun z => absurd z Bool.false_ne_true, fun ⟨t, e, _⟩ => absurd e (fun q => by cases q)⟩
  | some z => exact ⟨fun t => ⟨z, rfl, of_decide_eq_true t⟩, fun ⟨t, e, q⟩ => by obtain rfl := Option.some.inj e; exact decide_eq_true q⟩
def ptE (v : List Int32) (es : List AE) : List AE := if skT v es = true then es else es.take (skI v es) ++ (v, [], 0) :: es.drop (skI v es)
theorem ptE_tT (v : List Int32) (es : List AE) : eT (ptE v es) ≤ eT es + v.length ∧ (ptE v es).length ≤ es.length + 1 := by
  unfold ptE
  by_cases c : skT v es = true
  · rw [if_pos c]; exact ⟨Nat.le_add_right _ _, Nat.le_succ _⟩
  · rw [if_neg c]
    have e : eT es = eT (es.take (skI v es)) + eT (es.drop (skI v es)) := by rw [← eT_app, List.take_append_drop]
    have e2 : es.length = (es.take (skI v es)).length + (es.drop (skI v es)).length := by rw [← List.length_append, List.take_append_drop]
    refine ⟨?_, ?_⟩
    · rw [eT_app]; show _ + (v.length + 0 + eT (es.drop (skI v es))) ≤ _; omega
    · rw [List.length_append, List.length_cons]; omega
set_option maxRecDepth 100000 in
theorem w_put {σ : mjS} {ws : List (List Int32)} {l : List Int32} {P Q : List KR} {y : KR} (hW : Wd σ ws (P ++ y :: Q) l) (ty : mjTY σ) {i : Nat} {v : List Int32} (hi : ws[i]? = some v) {x1 xi : Int32} (e1 : x1 = nI y.1) (ei : xi = nI i) (ht : tT (strip (P ++ y :: Q)) ≤ 200000) (hn : tT (strip (P ++ y :: Q)) + v.length ≤ 300000) (he : eN (strip (P ++ y :: Q)) < 10000) :
    mjY mjPP (mjQQ Y) (d + 4) 117 0 (mjL0 6 [.ref 0, .int x1, .ref r_req, .int (σ.2.2.1 r_aAt xi.toNatClampNeg), .int (σ.2.2.1 r_aLen xi.toNatClampNeg)]) [] σ (fun q u => ∃ F1 t F2, q = some (.int (nI t.1)) ∧ Fr (f_found :: kF) kH σ u ∧ Wd u ws (P ++ withE y (F1 ++ t :: F2) :: Q) l ∧ F1.length = skI v (y.2.2.2.2.2.2.map (fun z => z.2)) ∧ (F1 ++ t :: F2).map (fun z => z.2) = ptE v (y.2.2.2.2.2.2.map (fun z => z.2))) := by
  obtain ⟨v2, a, ea, el, ha, ew⟩ := hW.2.1.clamp hi ei
  rw [ea, el]
  refine mjZ_y rfl rfl 6 _ _ _ _ ty ?_
  refine (And.intro (Nat.le_of_ble_eq_true rfl) (And.intro rfl (And.intro (Nat.le_of_ble_eq_true rfl) (And.intro (Nat.le_of_ble_eq_true rfl) (mjY_mono ty (fun q_ u1 ty1 h_ => ?_) (w_seek hW ty r_req a v.length rfl ha (by decide) e1 rfl rfl ew))))))
  obtain ⟨F1, F2, r, rfl, f1, hF, hl, e6, hr⟩ := h_
  intro _
  have h1 := hW.fr f1 (by decide) (by decide)
  have hle := W_len hW
  have hl2 : F1.length ≤ y.2.2.2.2.2.2.length := by rw [hF, List.length_append]; omega
  refine mjZ_y rfl rfl 3 _ _ _ _ ty1 ?_
  refine (And.intro (Nat.le_of_ble_eq_true rfl) (And.intro (fun q => ?_) (fun q => ?_)))
  · rcases hr with ⟨b, t, F3, hF3, er⟩ | ⟨b, er⟩
    · have hid := (h1.eid (y := t) (by rw [hF, hF3]; exact List.mem_append_right _ List.mem_cons_self)).elim (fun _ k => k.2.1)
      exact absurd (show r < 0 from q) (lt_nI (by omega) er)
    · have bT : ¬ skT v (y.2.2.2.2.2.2.map (fun z => z.2)) = true := fun z => b (skT_iff.mp z)
      refine mjZ_y rfl rfl 5 _ _ _ _ ty1 ?_
      refine (And.intro rfl (And.intro (Nat.le_of_ble_eq_true rfl) (And.intro rfl (And.intro (Nat.le_of_ble_eq_true rfl) (And.intro (Nat.le_of_ble_eq_true rfl) (mjY_mono ty1 (fun q_ u2 ty2 h_ => ?_) (w_insert h1 ty1 hF he e1 e6)))))))
      obtain ⟨e, he2, rfl, h2, f2⟩ := h_
      intro _
      have t1 : tT (strip (P ++ withE y (F1 ++ (e, [], [], 0) :: F2) :: Q)) = tT (strip (P ++ y :: Q)) := by
        rw [tT_at, tT_at, tT_1, tT_1]
        show _ + (y.2.1.length + y.2.2.2.2.2.1.length + eT ((F1 ++ (e, [], [], 0) :: F2).map (fun z => z.2))) + _ = _ + (y.2.1.length + y.2.2.2.2.2.1.length + eT (y.2.2.2.2.2.2.map (fun z => z.2))) + _
        rw [hF, List.map_append, List.map_append, List.map_cons, eT_app, eT_app]
        show _ + (_ + (_ + (0 + 0 + _))) + _ = _
        omega
      have ew2 : wd (u2.2.2.1 r_req) a v.length = v := by rw [(f2.2.2 _ (by decide)).1, (f1.2.2 _ (by decide)).1]; exact ew
      refine mjZ_y rfl rfl 7 _ _ _ _ ty2 ?_
      refine (And.intro (Nat.le_of_ble_eq_true rfl) (And.intro (Nat.le_of_ble_eq_true rfl) (And.intro rfl (And.intro (Nat.le_of_ble_eq_true rfl) (And.intro (Nat.le_of_ble_eq_true rfl) (mjY_mono ty2 (fun q_ u3 ty3 h_ => ?_) (w_name h2 ty2 (x := withE y (F1 ++ (e, [], [], 0) :: F2)) (y := (e, [], [], 0)) (E1 := F1) (E2 := F2) rfl r_req a v.length rfl (by decide) ha (by decide) (by omega) (by omega) rfl rfl rfl)))))))
      obtain ⟨rfl, h3, f3⟩ := h_
      intro _
      rw [ew2] at h3
      refine mjZ_y rfl rfl 2 _ _ _ _ ty3 ?_
      refine And.intro rfl (And.intro (Or.inl rfl) ?_)
      refine ⟨F1, (e, v, [], 0), F2, rfl, (f1.up (by decide) (by decide)).tr ((f2.up (by decide) (fun _ q => q)).tr (f3.up (by decide) (fun _ q => q))), h3, hl, ?_⟩
      unfold ptE
      rw [if_neg bT, ← hl, hF, List.map_append, List.map_cons, List.map_append]
      have a1 : (F1.map (fun z => z.2) ++ F2.map (fun z => z.2)).take F1.length = F1.map (fun z => z.2) := by
        have := List.take_left (l₁ := F1.map (fun z => z.2)) (l₂ := F2.map (fun z => z.2)); rw [List.length_map] at this; exact this
      have a2 : (F1.map (fun z => z.2) ++ F2.map (fun z => z.2)).drop F1.length = F2.map (fun z => z.2) := by
        have := List.drop_left (l₁ := F1.map (fun z => z.2)) (l₂ := F2.map (fun z => z.2)); rw [List.length_map] at this; exact this
      rw [a1, a2]
  · rcases hr with ⟨b, t, F3, hF3, er⟩ | ⟨b, er⟩
    · have bT : skT v (y.2.2.2.2.2.2.map (fun z => z.2)) = true := skT_iff.mpr b
      refine mjZ_y rfl rfl 2 _ _ _ _ ty1 ?_
      refine And.intro rfl (And.intro (Or.inl rfl) ?_)
      have ey : withE y (F1 ++ t :: F3) = y := by rw [← hF3, ← hF]; rfl
      refine ⟨F1, t, F3, by rw [er], f1.up (by decide) (fun _ q => by cases q), by rw [ey]; exact h1, hl, ?_⟩
      unfold ptE; rw [if_pos bT, hF, hF3]
    · exact absurd (lt_m1 er) q
set_option maxRecDepth 100000 in
theorem w_valueOf {σ : mjS} {ws : List (List Int32)} {ks : List KR} {l : List Int32} (h : Wd σ ws ks l) (ty : mjTY σ) {xe : Int32} (ek : xe = -1 ∨ ∃ P y Q z, ks = P ++ y :: Q ∧ z ∈ y.2.2.2.2.2.2 ∧ xe = nI z.1) : mjY mjPP (mjQQ Y) (d + 3) 118 0 (mjL0 2 [.ref 0, .int xe]) [] σ (fun r u => r = none ∧ Wd u ws ks l ∧ oO σ u) := by
  refine mjZ_y rfl rfl 2 _ _ _ _ ty ?_
  refine And.intro (fun q => ?_) (fun q => ?_)
  · rcases ek with ek | ⟨P, y, Q, z, e0, hz, ek⟩
    · exact absurd q (ge_m1 ek)
    · have h' : Wd σ ws (P ++ y :: Q) l := by rw [← e0]; exact h
      obtain ⟨hs, hh, ho⟩ := h'.eid hz
      have hid := ho.1
      have vk : vp_in xe 10000 := by rw [ek]; exact vp_in_nI ho.1 (by decide)
      refine mjZ_y rfl rfl 12 _ _ _ _ ty ?_
      refine (And.intro rfl (And.intro rfl (And.intro rfl (And.intro vk (And.intro rfl (And.intro rfl (And.intro vk (And.intro (Nat.le_of_ble_eq_true rfl) (And.intro rfl (And.intro (Nat.le_of_ble_eq_true rfl) (And.intro (Nat.le_of_ble_eq_true rfl) (mjY_mono ty (fun q_ u1 ty1 h_ => ?_) (w_wordR h ty ho.2.2.1 hh (by omega) ek)))))))))))))
      obtain ⟨rfl, h1, f1⟩ := h_
      intro _
      refine mjZ_y rfl rfl 1 _ _ _ _ ty1 ?_
      refine And.intro rfl (And.intro rfl ?_)
      exact ⟨rfl, h1, f1⟩
  · refine mjZ_y rfl rfl 2 _ _ _ _ ty ?_
    refine (And.intro (Nat.le_of_ble_eq_true rfl) (And.intro rfl (And.intro (Nat.le_of_ble_eq_true rfl) (And.intro (Nat.le_of_ble_eq_true rfl) (mjY_mono ty (fun q_ u1 ty1 h_ => ?_) (w_nil h ty))))))
    obtain ⟨rfl, h1, f1⟩ := h_
    intro _
    refine mjZ_y rfl rfl 2 _ _ _ _ ty1 ?_
    refine And.intro rfl (And.intro rfl ?_)
    exact ⟨rfl, h1, f1⟩
end SEEK
