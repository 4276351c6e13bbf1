/-! Keys: a key goes; what a change made is counted. -/
section KSETTLE
variable {Y : Nat → MethodName × ByteArray} {d : Nat} {σ0 σ u : kS} {B ws nm : List (List Int32)} {ks : List KC}
theorem SRN_cut {P Q : List KC} {y : KC} (h : SRN (anm (skA (P ++ y :: Q)))) : SRN (anm (skA (P ++ Q))) := by
  have e : skA (P ++ Q) = rmA (skA (P ++ y :: Q)) P.length := by
    rw [skA_app, skA_app, skA_cons]
    have := rmA_at (skA P) y.2.2.2.2.2 (skA Q)
    rw [skA_len] at this; exact this.symm
  rw [e]; exact SRT_rm h
theorem i32_sub_mid (a c b : Int32) : a + (c + b) - c = a + b := by
  rw [Int32.sub_eq_add_neg, Int32.add_assoc, Int32.add_comm c b, Int32.add_assoc, ← Int32.sub_eq_add_neg, Int32.sub_self, Int32.add_zero]
abbrev drF : List (Nat × Nat) := [(59, 13), (59, 14), (59, 15)]
abbrev drO : List (Nat × Nat) := [(59, 3), (59, 4), (59, 10)]
/-- a key goes -/
theorem kx_dropAt (ty : kTY σ) {P Q : List KC} {y : KC} (w : KWd σ0 B σ ws nm (P ++ y :: Q)) (x1 : Int32) (e1 : x1 = nI P.length) : kjY kPP (kQQ Y) (d + 2) 136 0 (mjL0 3 [.ref 59, .int x1]) [] σ (wP σ0 B σ ws nm (P ++ Q)) := by
  obtain ⟨fr, vs, hR, hV⟩ := w.2.2.2.2.1
  have ow := w.2.1.1
  have po := w.2.1.2
  have hnd := hR.nd
  obtain ⟨r0, a1, a2, a3, a4, a5, a6⟩ := hV.1 y (List.mem_append_right _ List.mem_cons_self)
  obtain ⟨v0, k0, n0, w0, c0, e0, t0, cs0⟩ := r0
  have a2 : v0 = y.1 := a2
  have a4 : c0 = y.2.2.2.2.1 := a4
  have a5e : e0 = endE y.2.2.2.2.2 := a5.2.2.1
  have hmapl : ((P ++ y :: Q).map (fun x => x.2.2.1)).length = ((P ++ y :: Q).map (fun x => x.2.1)).length := by rw [List.length_map, List.length_map]
  have hlP : P.length < (P ++ y :: Q).length := by rw [List.length_append, List.length_cons]; omega
  have hb : (P ++ y :: Q).length < 2 ^ 30 := by
    obtain ⟨ri, rs, rh, NK, rt, NT, rn, Nn, te, rc, NC, rm, Nm, ce, ls, hG⟩ := hR
    obtain ⟨b1, b2, b3, b4, b5⟩ := hG.2.2.2.1.1
    rw [List.length_map] at b3; omega
  have hsp : ((P ++ y :: Q).map (fun x => x.2.2.1))[P.length]? = some y.2.2.1 := by
    rw [List.getElem?_map, List.getElem?_append_right (Nat.le_refl _), Nat.sub_self]; rfl
  have kv : (σ.2.2.2.1 v0).1 = 11 := by
    obtain ⟨ri, rs, rh, NK, rt, NT, rn, Nn, te, rc, NC, rm, Nm, ce, ls, hG⟩ := hR
    obtain ⟨l, hl, hV0, -⟩ := hG.v a1
    rw [hV0.1.1]
  refine kjZ_y rfl rfl 3 _ _ _ _ ty ?_
  refine (And.intro (Nat.le_of_ble_eq_true rfl) (And.intro (Or.inl ⟨(Nat.le_of_ble_eq_true rfl), (ty.k (by decide) rfl)⟩) (And.intro (Nat.le_of_ble_eq_true rfl) (And.intro (Nat.le_of_ble_eq_true rfl) (kjY_mono ty (fun q_ u1 ty1 xu1 h_ => ?_) (k_valueAt ty hR x1))))))
  obtain ⟨rfl, q⟩ := h_
  intro _ _
  rcases q with ⟨rfl, q⟩ | ⟨i, s, r, q1, q2, q3, q4, rfl⟩
  · exfalso
    have := q P.length e1
    rw [List.length_map] at this; omega
  have hi : P.length = i := (nI_eq (by omega) (by rw [List.length_map] at q2; omega)).mp (e1.symm.trans q1)
  rw [← hi, List.getElem?_append_left (by rw [List.length_map]; exact hlP), hsp] at q3
  cases q3
  rw [a1] at q4; cases q4
  refine kjZ_y rfl rfl 3 _ _ _ _ ty1 ?_
  refine (And.intro (Nat.le_of_ble_eq_true rfl) ?_)
  refine kjZ_y rfl rfl 3 _ _ _ _ ty1 ?_
  refine (And.intro (Nat.le_of_ble_eq_true rfl) (And.intro (Or.inl ⟨(Nat.le_of_ble_eq_true rfl), (ty1.k (by decide) rfl)⟩) (And.intro (Nat.le_of_ble_eq_true rfl) (And.intro (Nat.le_of_ble_eq_true rfl) (kjY_mono ty1 (fun q_ u2 ty2 xu2 h_ => ?_) (k_leave ty1 ow po hR hmapl hsp x1 e1))))))
  obtain ⟨rfl, p1, p2, p3, p4⟩ := h_
  intro _ _
  have kv2 : (u2.2.2.2.1 v0).1 = 11 := xu2.k ty1 kv (by decide)
  refine kjZ_y rfl rfl 4 _ _ _ _ ty2 ?_
  refine (And.intro (Nat.le_of_ble_eq_true rfl) (And.intro (Or.inl ⟨(Nat.le_of_ble_eq_true rfl), (ty2.k (by decide) rfl)⟩) (And.intro (Nat.le_of_ble_eq_true rfl) (And.intro (Nat.le_of_ble_eq_true rfl) (kjY_mono ty2 (fun q_ u3 ty3 xu3 h_ => ?_) (k_setEnds ty2 p2 p3 p1 a1 _))))))
  obtain ⟨rfl, p5, p6, p7, p8⟩ := h_
  intro _ _
  have kv3 : (u3.2.2.2.1 v0).1 = 11 := xu3.k ty2 kv2 (by decide)
  have hsl := (List.getElem?_eq_some_iff.mp a1).1
  have a1' : (vs.set y.2.2.1 (v0, k0, n0, w0, c0, NEV, t0, cs0))[y.2.2.1]? = some (v0, k0, n0, w0, c0, NEV, t0, cs0) := by rw [List.getElem?_set, if_pos rfl, if_pos hsl]
  refine kjZ_y rfl rfl 2 _ _ _ _ ty3 ?_
  refine (And.intro (Nat.le_of_ble_eq_true rfl) (And.intro (Or.inl ⟨(Nat.le_of_ble_eq_true rfl), (by assumption)⟩) (And.intro (Nat.le_of_ble_eq_true rfl) (And.intro (Nat.le_of_ble_eq_true rfl) (kjY_mono ty3 (fun q_ u4 ty4 xu4 h_ => ?_) (k_clear ty3 p6 p7 p5 a1'))))))
  obtain ⟨rfl, p9, p10, p11, p12⟩ := h_
  intro _ _
  rw [List.set_set] at p9
  have kv4 : (u4.2.2.2.1 v0).1 = 11 := xu4.k ty3 kv3 (by decide)
  have a1'' : (vs.set y.2.2.1 (v0, k0, 0, w0, c0, NEV, [], flC k0))[y.2.2.1]? = some (v0, k0, 0, w0, c0, NEV, [], flC k0) := by rw [List.getElem?_set, if_pos rfl, if_pos hsl]
  obtain ⟨ri, rs, rh, NK, rt, NT, rn, Nn, te, rc, NC, rm, Nm, ce, ls, hG⟩ := p9
  obtain ⟨l, hl, hV4, -⟩ := hG.v a1''
  have hd4 : u4.2.2.2.1 v0 = (11, 0) := hV4.1.1
  have c5 : u4.1 v0 5 = c0 := hV4.1.2.2.2.2.2.2
  have w4 : u4.1 v0 4 = w0 := hV4.1.2.2.2.2.2.1
  have e3 : u4.2.1 v0 3 = NEV := hV4.1.2.2.2.2.1
  have n59 : ¬ 59 = v0 := k11 ty4 hd4 (by decide)
  have h14 := hG.2.2.2.2.2.1
  have h15 := hG.2.2.2.2.2.2
  refine kjZ_y rfl rfl 11 _ _ _ _ ty4 ?_
  refine (And.intro (ty4.k (by decide) rfl) (And.intro (by assumption) (And.intro (ty4.k (by decide) rfl) (And.intro (Or.inl rfl) (fun ty4' => (And.intro (by assumption) (And.intro (Or.inl rfl) (fun ty4'' => And.intro rfl (And.intro rfl ?_)))))))))
  have go : ∀ z, z = (mjIu (mjIu u4.1 59 14 (u4.1 59 14 - u4.1 v0 5)) v0 5 (Int32.ofInt 0), u4.2) → wP σ0 B u1 ws nm (P ++ Q) none z := by
    intro z ez
    rw [h14, c5] at ez
    have eI : ∀ h x, z.1 h x = if h = v0 ∧ x = 5 then 0 else if h = 59 ∧ x = 14 then cSum (P ++ y :: Q) - c0 else u4.1 h x := fun h x => by
      rw [ez]; show mjIu (mjIu u4.1 59 14 _) v0 5 _ h x = _
      rw [mjIu_at, mjIu_at]; rfl
    have st : Vsu v0 rc u4 z := by
      refine ⟨by rw [ez], fun h x z1 z2 => ?_, fun h x _ _ => by rw [ez]⟩
      rw [eI, if_neg (fun q => z1 q.1), if_neg (fun q => z2 ⟨q.1, Or.inl q.2⟩)]
    obtain ⟨m1, m2, m3, m4⟩ := hG.upw (u := z) (w' := w0) (c' := 0) (e' := NEV) ty4 p10 p11 a1'' st (fun x z4 z5 => by rw [eI, if_neg (fun q => z5 q.2), if_neg (fun q => n59 q.1.symm)]) (by rw [eI, if_neg (fun q => absurd q.2 (by decide)), if_neg (fun q => n59 q.1.symm)]; exact w4) (by rw [eI, if_pos ⟨rfl, rfl⟩]) (by rw [ez]; exact e3) (by rw [ez])
    rw [List.set_set] at m1
    rw [eI 59 14, eI 59 15, if_neg (fun q => n59 q.1), if_pos ⟨rfl, rfl⟩, if_neg (fun q => n59 q.1), if_neg (fun q => absurd q.2 (by decide)), h15] at m1
    have up1 : ∀ {fs os : List (Nat × Nat)} {y z : kS} {b : Bool}, Ch b fs os y z → (∀ p ∈ fs, p ∈ drF) → (∀ p ∈ os, p ∈ drO) → Ch true drF drO y z := fun hc h1 h2 => hc.up (fun _ => rfl) h1 h2
    have ch : Ch true drF drO u1 z := Ch.tr ty1 (by decide) (Ch.tr ty1 (by decide) (Ch.tr ty1 (by decide) (up1 p4 (by decide) (by decide)) (up1 p8 (by decide) (by decide))) (up1 p12 (by decide) (by decide))) (up1 m4 (by decide) (by decide))
    obtain ⟨k1, k2⟩ := w.k0.sto ty1 ch (by decide) (by decide) m2 m3
    have eil : cutL ((P ++ y :: Q).map (fun x => x.2.1)) P.length 1 = (P ++ Q).map (fun x => x.2.1) := by
      unfold cutL
      rw [List.map_append, List.map_cons, List.take_append_of_le_length (by rw [List.length_map]; exact Nat.le_refl _), List.take_of_length_le (by rw [List.length_map]; exact Nat.le_refl _), List.drop_append, List.drop_eq_nil_of_le (by rw [List.length_map]; omega), List.length_map, show P.length + 1 - P.length = 1 by omega, List.map_append]; rfl
    have esl : cutL ((P ++ y :: Q).map (fun x => x.2.2.1)) P.length 1 = (P ++ Q).map (fun x => x.2.2.1) := by
      unfold cutL
      rw [List.map_append, List.map_cons, List.take_append_of_le_length (by rw [List.length_map]; exact Nat.le_refl _), List.take_of_length_le (by rw [List.length_map]; exact Nat.le_refl _), List.drop_append, List.drop_eq_nil_of_le (by rw [List.length_map]; omega), List.length_map, show P.length + 1 - P.length = 1 by omega, List.map_append]; rfl
    refine ⟨rfl, k1.mk ⟨y.2.2.1 :: fr, vs.set y.2.2.1 (v0, k0, 0, w0, 0, NEV, [], flC k0), ?_, ?_⟩, k2⟩
    · rw [← eil, ← esl]
      have ec : cSum (P ++ Q) = cSum (P ++ y :: Q) - c0 := by
        rw [cSum_app, cSum_app, a4]; exact (i32_sub_mid _ _ _).symm
      have et : tSum (P ++ Q) = tSum (P ++ y :: Q) + (nvI NEV - nvI e0) := by
        rw [tSum_app, tSum_app, a5e, show nvI NEV = 0 from rfl, Int32.zero_sub, ← Int32.sub_eq_add_neg]; exact (i32_sub_mid _ _ _).symm
      rw [ec, et]; exact m1
    · obtain ⟨g1, g2, g3⟩ := hV
      obtain ⟨n1, n2, n3⟩ := kslot_ne hnd
      have old : ∀ {s : Nat} {q : VR}, ¬ s = y.2.2.1 → vs[s]? = some q → (vs.set y.2.2.1 (v0, k0, 0, w0, 0, NEV, [], flC k0))[s]? = some q := fun z e => by rw [List.getElem?_set, if_neg (fun y => z y.symm)]; exact e
      refine ⟨fun x hx => ?_, fun s hs => ?_, SRN_cut g3⟩
      · rcases List.mem_append.mp hx with z | z
        · obtain ⟨r, c1, c2⟩ := g1 x (List.mem_append_left _ z)
          exact ⟨r, old (n1 x z) c1, c2⟩
        · obtain ⟨r, c1, c2⟩ := g1 x (List.mem_append_right _ (List.mem_cons_of_mem _ z))
          exact ⟨r, old (n2 x z) c1, c2⟩
      · rcases List.mem_cons.mp hs with z | z
        · rw [z]
          exact ⟨_, by rw [List.getElem?_set, if_pos rfl, if_pos hsl], rfl, rfl, rfl, rfl⟩
        · obtain ⟨r, c1, c2⟩ := g2 s z
          exact ⟨r, old (n3 s z) c1, c2⟩
  exact go _ rfl
def scE : List (Nat × Nat) := [(53, 8), (53, 9), (53, 10), (53, 11), (53, 12), (53, 13), (53, 14), (53, 15), (53, 16), (59, 16), (59, 17), (67, 3), (67, 4), (67, 5), (67, 6), (75, 3), (75, 4), (75, 5), (75, 6), (75, 7), (75, 8)]
theorem scEA : ∀ p ∈ scE, p ∈ scA := by decide +kernel
/-- a key goes, if it is there -/
def krP (σ0 : kS) (B : List (List Int32)) (σ : kS) (ws nm : List (List Int32)) (ks : List KC) (v : List Int32) : kK := fun r u => SCl scE σ u ∧ ((r = some (.int 0) ∧ kyI (skA ks) v = none ∧ KWd σ0 B u ws nm ks ∧ SCl scA σ u) ∨ (r = some (.int 1) ∧ ∃ P y Q, ks = P ++ y :: Q ∧ kyI (skA ks) v = some P.length ∧ KWd σ0 B u ws nm (P ++ Q) ∧ u.1 59 18 = 1))
theorem kx_remove (ty : kTY σ) (w : KWd σ0 B σ ws nm ks) {k : Nat} {v : List Int32} (hk : nm[k]? = some v) (x1 : Int32) (e1 : x1 = nI k) : kjY kPP (kQQ Y) (d + 3) 137 0 (mjL0 3 [.ref 59, .int x1]) [] σ (krP σ0 B σ ws nm ks v) := by
  obtain ⟨fr, vs, hR, hV⟩ := w.2.2.2.2.1
  have hw := w.2.2.1.1
  have hRo := hR
  obtain ⟨ri, rs, rh, NK, rt, NT, rn, Nn, te, rc, NC, rm, Nm, ce, ls, hG⟩ := hR
  have i1 := hG.1.1.1
  have b3 := hG.2.2.2.1.1.2.2.1
  have b5 := hG.2.2.2.1.1.2.2.2.2
  rw [List.length_map] at b3
  have hvb := hw.b8 ty hk
  have ple : plF (anm (skA ks)) v ≤ ks.length := by have := plF_le (anm (skA ks)) v; rw [anm_len, skA_len] at this; exact this
  refine kjZ_y rfl rfl 8 _ _ _ _ ty ?_
  refine (And.intro (ty.k (by decide) rfl) (And.intro (ty.k (by decide) rfl) (Exists.intro _ (And.intro i1 (And.intro (ty.k (by decide) rfl) (And.intro (Nat.le_of_ble_eq_true rfl) (And.intro (Or.inl ⟨(Nat.le_of_ble_eq_true rfl), (ty.k (by decide) rfl)⟩) (And.intro (Nat.le_of_ble_eq_true rfl) (And.intro (Nat.le_of_ble_eq_true rfl) (kjY_mono ty (fun q_ u1 ty1 xu1 h_ => ?_) (kx_findId ty hw hRo hV hk _ _ i1 rfl e1)))))))))))
  obtain ⟨rfl, rfl⟩ := h_
  intro _ _
  rcases fd_cases hV.2.2 (hV.nb ty1 hw) hvb with ⟨f1, f2⟩ | ⟨P, y, Q, f1, f2, f3, f4⟩
  · have hneg : fdR (anm (skA ks)) v < 0 := by
      rw [f1, Int32.lt_iff_toInt_lt, Int32.toInt_sub, nI_toInt (by omega), show ((-1 : Int32)).toInt = -1 by decide]
      rw [Int.bmod_eq_of_le (by omega) (by omega)]; show _ < (0 : Int); omega
    refine kjZ_y rfl rfl 3 _ _ _ _ ty1 ?_
    refine (And.intro (Nat.le_of_ble_eq_true rfl) (And.intro (fun c => ?_) (fun c => ?_)))
    · exact absurd hneg (Int32.not_lt.mpr c)
    refine kjZ_y rfl rfl 2 _ _ _ _ ty1 ?_
    refine And.intro rfl (And.intro (Or.inr (Or.inl ⟨rfl, Or.inl rfl⟩)) ?_)
    exact ⟨SCl.rf, Or.inl ⟨rfl, f2, w, SCl.rf⟩⟩
  · have hPl : P.length < ks.length := by rw [f1, List.length_append, List.length_cons]; omega
    refine kjZ_y rfl rfl 3 _ _ _ _ ty1 ?_
    refine (And.intro (Nat.le_of_ble_eq_true rfl) (And.intro (fun c => ?_) (fun c => ?_)))
    rotate_left
    · exact absurd (show (0 : Int32) ≤ fdR (anm (skA ks)) v by rw [f4]; exact nI_le (a := 0) (Nat.zero_le _) (by omega)) c
    subst f1
    refine kjZ_y rfl rfl 3 _ _ _ _ ty1 ?_
    refine (And.intro (Nat.le_of_ble_eq_true rfl) (And.intro (Or.inl ⟨(Nat.le_of_ble_eq_true rfl), (ty1.k (by decide) rfl)⟩) (And.intro (Nat.le_of_ble_eq_true rfl) (And.intro (Nat.le_of_ble_eq_true rfl) (kjY_mono ty1 (fun q_ u2 ty2 xu2 h_ => ?_) (kx_dropAt ty1 w _ f4))))))
    obtain ⟨rfl, w2, s2⟩ := h_
    intro _ _
    refine kjZ_y rfl rfl 3 _ _ _ _ ty2 ?_
    refine (And.intro (Nat.le_of_ble_eq_true rfl) (And.intro (Or.inl ⟨(Nat.le_of_ble_eq_true rfl), (ty2.k (by decide) rfl)⟩) (And.intro (Nat.le_of_ble_eq_true rfl) (And.intro (Nat.le_of_ble_eq_true rfl) (kjY_mono ty2 (fun q_ u3 ty3 xu3 h_ => ?_) (kx_touch ty2 w2 _))))))
    obtain ⟨rfl, w3, s3⟩ := h_
    intro _ _
    refine kjZ_y rfl rfl 5 _ _ _ _ ty3 ?_
    refine (And.intro (ty3.k (by decide) rfl) (And.intro (Or.inr ⟨rfl, Or.inr rfl⟩) (fun ty3' => And.intro rfl (And.intro (Or.inr (Or.inl ⟨rfl, Or.inr rfl⟩)) ?_))))
    refine ⟨((s2.tr s3).sub scEA).tr (SCl.i (by decide +kernel)), Or.inr ⟨rfl, P, y, Q, rfl, f3, w3.pi ty3 (by decide), ?_⟩⟩
    show mjIu u3.1 59 18 (Int32.ofInt 1) 59 18 = 1
    exact mjIu_p
/-- what is counted of a key's value -/
def ctK (x : KC) : Int32 := nI (64 + x.2.2.2.2.2.1.length) + x.2.2.2.1
def emB (x : KC) : Prop := (¬ x.2.2.2.2.2.2.1 = 0) ∧ x.2.2.2.2.2.2.2.2.2.2 = []
def rcK (x : KC) : KC := (x.1, x.2.1, x.2.2.1, x.2.2.2.1, ctK x, x.2.2.2.2.2)
def seP (σ0 : kS) (B : List (List Int32)) (σ : kS) (ws nm : List (List Int32)) (P : List KC) (x : KC) (Q : List KC) : kK := fun r u => r = none ∧ SCl scE σ u ∧ u.1 59 18 = 1 ∧ ((emB x ∧ KWd σ0 B u ws nm (P ++ Q)) ∨ ((¬ emB x) ∧ KWd σ0 B u ws nm (P ++ rcK x :: Q)))
theorem kx_settle (ty : kTY σ) {P Q : List KC} {x : KC} (w : KWd σ0 B σ ws nm (P ++ x :: Q)) {k : Nat} (hk : nm[k]? = some x.2.2.2.2.2.1) (x1 : Int32) (e1 : x1 = nI k) : kjY kPP (kQQ Y) (d + 3) 138 0 (mjL0 4 [.ref 59, .int x1, .ref x.1]) [] σ (seP σ0 B σ ws nm P x Q) := by
  obtain ⟨fr, vs, hR, hV⟩ := w.2.2.2.2.1
  have hw := w.2.2.1.1
  have ow := w.2.1.1
  have po := w.2.1.2
  have hnd := hR.nd
  obtain ⟨r0, a1, a2, a3, a4, a5, a6⟩ := hV.1 x (List.mem_append_right _ List.mem_cons_self)
  obtain ⟨v0, k0, n0, w0, c0, e0, t0, cs0⟩ := r0
  have a2 : v0 = x.1 := a2
  have a3 : w0 = x.2.2.2.1 := a3
  have a4 : c0 = x.2.2.2.2.1 := a4
  have a51 : x.2.2.2.2.2.2.1 = nI k0 := a5.1
  have a52 : k0 ≤ 4 := a5.2.1
  have a53 : n0 = if k0 = 0 then x.2.2.2.2.2.2.2.2.2.1.length else x.2.2.2.2.2.2.2.2.2.2.length := a5.2.2.2.2.1
  have hsl := (List.getElem?_eq_some_iff.mp a1).1
  obtain ⟨ri, rs, rh, NK, rt, NT, rn, Nn, te, rc, NC, rm, Nm, ce, ls, hG⟩ := hR
  obtain ⟨l, hl, hV4, g1, g2, g3, -⟩ := hG.v a1
  have hd4 : σ.2.2.2.1 v0 = (11, 0) := hV4.1.1
  have kv : (σ.2.2.2.1 x.1).1 = 11 := by rw [← a2, hd4]
  have b5 := hG.2.2.2.1.1.2.2.2.2
  have c5 : σ.1 x.1 5 = c0 := by rw [← a2]; exact hV4.1.2.2.2.2.2.2
  have w4 : σ.1 x.1 4 = w0 := by rw [← a2]; exact hV4.1.2.2.2.2.2.1
  have e3 : σ.2.1 x.1 3 = e0 := by rw [← a2]; exact hV4.1.2.2.2.2.1
  have s6 : σ.1 x.1 6 = nI n0 := by rw [← a2]; exact hV4.2.1.1
  have k1 : σ.1 x.1 1 = nI k0 := by rw [← a2]; exact hV4.1.2.2.1
  have g3 : n0 ≤ 131072 := g3
  have n59 : ¬ 59 = x.1 := k11 ty (by rw [← a2]; exact hd4) (by decide)
  have h14 := hG.2.2.2.2.2.1
  have h15 := hG.2.2.2.2.2.2
  have nrc : ¬ rc = x.1 := fun z => by have := hG.2.2.1.1.2; rw [z, ← a2, hd4] at this; exact absurd this (by simp)
  refine kjZ_y rfl rfl 2 _ _ _ _ ty ?_
  refine kjZ_y rfl rfl 5 _ _ _ _ ty ?_
  refine (And.intro (ty.k (by decide) rfl) (And.intro (Nat.le_of_ble_eq_true rfl) (And.intro (Or.inl ⟨(Nat.le_of_ble_eq_true rfl), (ty.k (by decide) rfl)⟩) (And.intro (Nat.le_of_ble_eq_true rfl) (And.intro (Nat.le_of_ble_eq_true rfl) (kjY_mono ty (fun q_ u1 ty1 xu1 h_ => ?_) (k_wlen ty hw x1)))))))
  obtain ⟨rfl, yl, rfl, ql⟩ := h_
  intro _ _
  have eyl := ql k _ e1 hk
  refine kjZ_y rfl rfl 17 _ _ _ _ ty1 ?_
  refine (And.intro (by assumption) (And.intro (Nat.le_of_ble_eq_true rfl) (And.intro (ty1.k (by decide) rfl) (And.intro (by assumption) (And.intro (ty1.k (by decide) rfl) (And.intro (Or.inl rfl) (fun ty1' => (And.intro (by assumption) (And.intro (Or.inl rfl) (fun ty1'' => ?_))))))))))
  have ew : (Int8.ofInt 64).toInt32 + yl + u1.1 x.1 4 = ctK x := by
    rw [eyl, w4, a3]; unfold ctK
    rw [show (Int8.ofInt 64).toInt32 = nI 64 by decide, nI_add]
  have go : ∀ z x3, kTY z → x3 = (Int8.ofInt 64).toInt32 + yl + u1.1 x.1 4 → z = (mjIu (mjIu u1.1 59 14 (u1.1 59 14 + ((Int8.ofInt 64).toInt32 + yl + u1.1 x.1 4 - u1.1 x.1 5))) x.1 5 ((Int8.ofInt 64).toInt32 + yl + u1.1 x.1 4), u1.2) → kjY kPP (kQQ Y) (d + 3) 138 25 [some (.ref 59), some (.int x1), some (.ref x.1), some (.int x3)] [] z (seP σ0 B u1 ws nm P x Q) := by
    intro z x3 tz ex3 ez
    rw [ew, h14, c5] at ez
    have eI : ∀ h y, z.1 h y = if h = x.1 ∧ y = 5 then ctK x else if h = 59 ∧ y = 14 then cSum (P ++ x :: Q) + (ctK x - c0) else u1.1 h y := fun h y => by
      rw [ez]; show mjIu (mjIu u1.1 59 14 _) x.1 5 _ h y = _
      rw [mjIu_at, mjIu_at]
    have st : Vsu v0 rc u1 z := by
      refine ⟨by rw [ez], fun h y z1 z2 => ?_, fun h y _ _ => by rw [ez]⟩
      rw [eI, if_neg (fun q => z1 (by rw [a2]; exact q.1)), if_neg (fun q => z2 ⟨q.1, Or.inl q.2⟩)]
    obtain ⟨m1, m2, m3, m4⟩ := hG.upw (u := z) (w' := w0) (c' := ctK x) (e' := e0) ty1 ow po a1 st (fun y z4 z5 => by rw [eI, if_neg (fun q => z5 q.2), if_neg (fun q => n59 (by rw [← a2]; exact q.1.symm))]) (by rw [a2, eI, if_neg (fun q => absurd q.2 (by decide)), if_neg (fun q => n59 q.1.symm)]; exact w4) (by rw [a2, eI, if_pos ⟨rfl, rfl⟩]) (by rw [a2, ez]; exact e3) (by rw [ez])
    rw [eI 59 14, eI 59 15, if_neg (fun q => n59 q.1), if_pos ⟨rfl, rfl⟩, if_neg (fun q => n59 q.1), if_neg (fun q => absurd q.2 (by decide)), h15] at m1
    obtain ⟨q1, q2⟩ := w.k0.sto ty1 m4 (by decide) (by decide) m2 m3
    have hmp := ks_maps (P := P) (Q := Q) (x := x) (x' := rcK x) ⟨rfl, rfl⟩
    have wz : KWd σ0 B z ws nm (P ++ rcK x :: Q) := by
      refine q1.mk ⟨fr, vs.set x.2.2.1 (v0, k0, n0, w0, ctK x, e0, t0, cs0), ?_, hV.upd hnd ⟨rfl, rfl, rfl, rfl⟩ ⟨a2, a3, rfl, a5⟩⟩
      rw [hmp.1, hmp.2]
      have ec : cSum (P ++ rcK x :: Q) = cSum (P ++ x :: Q) + (ctK x - c0) := by
        rw [cSum_app, cSum_app, a4]
        show cSum P + (ctK x + cSum Q) = cSum P + (x.2.2.2.2.1 + cSum Q) + (ctK x - x.2.2.2.2.1)
        rw [Int32.sub_eq_add_neg, Int32.add_comm (ctK x) (-x.2.2.2.2.1), ← Int32.add_assoc _ (-x.2.2.2.2.1), ← Int32.sub_eq_add_neg, i32_sub_mid, Int32.add_assoc, Int32.add_comm (cSum Q)]
      have et : tSum (P ++ rcK x :: Q) = tSum (P ++ x :: Q) := by rw [tSum_app, tSum_app]; rfl
      rw [ec, et]; exact m1
    have kz : (z.2.2.2.1 x.1).1 = 11 := by rw [ez]; exact kv
    have z6 : z.1 x.1 6 = nI n0 := by rw [eI, if_neg (fun q => absurd q.2 (by decide)), if_neg (fun q => n59 q.1.symm)]; exact s6
    have z1' : z.1 x.1 1 = nI k0 := by rw [eI, if_neg (fun q => absurd q.2 (by decide)), if_neg (fun q => n59 q.1.symm)]; exact k1
    -- the end
    have fin : ∀ y (ks' : List KC), kTY y → KWd σ0 B y ws nm ks' → SCl scA u1 y → ((emB x ∧ ks' = P ++ Q) ∨ ((¬ emB x) ∧ ks' = P ++ rcK x :: Q)) → kjY kPP (kQQ Y) (d + 3) 138 41 [some (.ref 59), some (.int x1), some (.ref x.1), some (.int x3)] [] y (seP σ0 B u1 ws nm P x Q) := by
      intro y ks' tyy wy sy hks
      refine kjZ_y rfl rfl 3 _ _ _ _ tyy ?_
      refine (And.intro (Nat.le_of_ble_eq_true rfl) (And.intro (Or.inl ⟨(Nat.le_of_ble_eq_true rfl), (tyy.k (by decide) rfl)⟩) (And.intro (Nat.le_of_ble_eq_true rfl) (And.intro (Nat.le_of_ble_eq_true rfl) (kjY_mono tyy (fun q_ u3 ty3 xu3 h_ => ?_) (kx_touch tyy wy _))))))
      obtain ⟨rfl, w3, s3⟩ := h_
      intro _ _
      refine kjZ_y rfl rfl 4 _ _ _ _ ty3 ?_
      refine (And.intro (ty3.k (by decide) rfl) (And.intro (Or.inr ⟨rfl, Or.inr rfl⟩) (fun ty3' => And.intro rfl (And.intro rfl ?_))))
      have w4 : KWd σ0 B (mjIu u3.1 59 18 (Int32.ofInt 1), u3.2) ws nm ks' := w3.pi ty3 (by decide)
      refine ⟨rfl, ((sy.tr s3).sub scEA).tr (SCl.i (by decide +kernel)), ?_, ?_⟩
      · show mjIu u3.1 59 18 (Int32.ofInt 1) 59 18 = 1; exact mjIu_p
      · rcases hks with ⟨h1, h2⟩ | ⟨h1, h2⟩
        · exact Or.inl ⟨h1, by rw [← h2]; exact w4⟩
        · exact Or.inr ⟨h1, by rw [← h2]; exact w4⟩
    refine kjZ_y rfl rfl 3 _ _ _ _ tz ?_
    refine (And.intro (by assumption) (And.intro (fun o => ?_) (fun o => ?_)))
    · have o : ¬ z.1 x.1 6 = 0 := o
      rw [z6] at o
      refine fin z _ tz wz q2 (Or.inr ⟨fun y => o ?_, rfl⟩)
      have hk0 : ¬ k0 = 0 := fun t => y.1 (by rw [a51, t]; rfl)
      rw [a53, if_neg hk0, y.2]; rfl
    · have o : z.1 x.1 6 = 0 := Decidable.not_not.mp o
      rw [z6] at o
      have hn0 : n0 = 0 := (nI_eq (b := 0) (by omega) (by decide)).mp o
      refine kjZ_y rfl rfl 3 _ _ _ _ tz ?_
      refine (And.intro (by assumption) (And.intro (fun o2 => ?_) (fun o2 => ?_)))
      · have o2 : z.1 x.1 1 = 0 := o2
        rw [z1'] at o2
        exact fin z _ tz wz q2 (Or.inr ⟨fun y => y.1 (by rw [a51]; exact o2), rfl⟩)
      · have o2 : ¬ z.1 x.1 1 = 0 := o2
        rw [z1'] at o2
        have hk0 : ¬ k0 = 0 := fun t => o2 (by rw [t]; rfl)
        have hem : emB x := ⟨fun y => o2 (by rw [← a51]; exact y), List.length_eq_zero_iff.mp (by rw [a53, if_neg hk0] at hn0; exact hn0)⟩
        obtain ⟨fr2, vs2, hR2, hV2⟩ := wz.2.2.2.2.1
        have hw2 := wz.2.2.1.1
        have i1 : ∃ ri2, z.2.2.1 59 3 = some ri2 := by
          obtain ⟨ri2, rs2, rh2, NK2, rt2, NT2, rn2, Nn2, te2, rc2, NC2, rm2, Nm2, ce2, ls2, hG2⟩ := hR2
          exact ⟨ri2, hG2.1.1.1⟩
        obtain ⟨ri2, i1⟩ := i1
        refine kjZ_y rfl rfl 9 _ _ _ _ tz ?_
        refine (And.intro (tz.k (by decide) rfl) (And.intro (tz.k (by decide) rfl) (Exists.intro _ (And.intro i1 (And.intro (tz.k (by decide) rfl) (And.intro (Nat.le_of_ble_eq_true rfl) (And.intro (Or.inl ⟨(Nat.le_of_ble_eq_true rfl), (tz.k (by decide) rfl)⟩) (And.intro (Nat.le_of_ble_eq_true rfl) (And.intro (Nat.le_of_ble_eq_true rfl) (kjY_mono tz (fun q_ u3 ty3 xu3 h_ => ?_) (kx_findId tz hw2 hR2 hV2 hk _ _ i1 rfl e1)))))))))))
        obtain ⟨rfl, rfl⟩ := h_
        intro _ _
        have hfd : fdR (anm (skA (P ++ rcK x :: Q))) x.2.2.2.2.2.1 = nI P.length := by
          have hp : plF (anm (skA (P ++ rcK x :: Q))) x.2.2.2.2.2.1 = P.length := by
            have en : (anm (skA (P ++ rcK x :: Q))).getD P.length [] = x.2.2.2.2.2.1 := by
              unfold anm; rw [skA_app, skA_cons, List.map_append, List.map_cons, List.getD_eq_getElem?_getD, List.getElem?_append_right (by rw [List.length_map, skA_len]; exact Nat.le_refl _), List.length_map, skA_len, Nat.sub_self]; rfl
            have hl : (anm (skA (P ++ rcK x :: Q))).length = P.length + (Q.length + 1) := by rw [anm_len, skA_len, List.length_append, List.length_cons]
            have hs := hV2.2.2
            refine plF_uniq hs _ _ (by omega) (fun i hi => ?_) (fun i h1 h2 => ?_)
            · have := hs i P.length hi (by omega); rw [en] at this; exact this
            · by_cases y : i = P.length
              · rw [y, en, cmpW_self]; decide
              · have := hs P.length i (by omega) h2
                rw [en] at this; rw [cmpW_anti]; omega
          have eg : (anm (skA (P ++ rcK x :: Q)))[P.length]? = some x.2.2.2.2.2.1 := by
            unfold anm; rw [skA_app, skA_cons, List.map_append, List.map_cons, List.getElem?_append_right (by rw [List.length_map, skA_len]; exact Nat.le_refl _), List.length_map, skA_len, Nat.sub_self]; rfl
          unfold fdR
          rw [hp, eg]
          show (if cmpW x.2.2.2.2.2.1 x.2.2.2.2.2.1 = 0 then _ else _) = _
          rw [if_pos (cmpW_self _)]
        refine kjZ_y rfl rfl 1 _ _ _ _ ty3 ?_
        refine (And.intro (Nat.le_of_ble_eq_true rfl) (And.intro (Or.inl ⟨(Nat.le_of_ble_eq_true rfl), (ty3.k (by decide) rfl)⟩) (And.intro (Nat.le_of_ble_eq_true rfl) (And.intro (Nat.le_of_ble_eq_true rfl) (kjY_mono ty3 (fun q_ u4 ty4 xu4 h_ => ?_) (kx_dropAt ty3 wz _ hfd))))))
        obtain ⟨rfl, w5, s5⟩ := h_
        intro _ _
        exact fin u4 _ ty4 w5 (q2.tr s5) (Or.inl ⟨hem, rfl⟩)
  exact go _ _ ty1'' rfl rfl
end KSETTLE
