/-! RENAME, RENAMENX: a key comes to another name. -/
theorem cSum_mid (P Q : List KC) (x : KC) : cSum (P ++ x :: Q) = x.2.2.2.2.1 + cSum (P ++ Q) := by
  rw [cSum_app, cSum_app]; show cSum P + (x.2.2.2.2.1 + cSum Q) = _
  rw [← Int32.add_assoc, ← Int32.add_assoc, Int32.add_comm (cSum P)]
theorem tSum_mid (P Q : List KC) (x : KC) : tSum (P ++ x :: Q) = nvI (endE x.2.2.2.2.2) + tSum (P ++ Q) := by
  rw [tSum_app, tSum_app]; show tSum P + (nvI (endE x.2.2.2.2.2) + tSum Q) = _
  rw [← Int32.add_assoc, ← Int32.add_assoc, Int32.add_comm (tSum P)]
theorem cutL_mdm {α β : Type} (f : α → β) (P Q : List α) (x : α) : cutL ((P ++ x :: Q).map f) P.length 1 = (P ++ Q).map f := by
  unfold cutL
  rw [List.map_append, List.map_cons, List.map_append]
  have e : P.length = (P.map f).length := (List.length_map _).symm
  rw [e, List.take_left, List.drop_append]
  have : (P.map f).length + 1 - (P.map f).length = 1 := by omega
  rw [this, List.drop_eq_nil_of_le (by omega)]; rfl
section KREN
variable {Y : Nat → MethodName × ByteArray} {d : Nat} {σ0 σ u : kS} {B ws nm nm' : List (List Int32)} {ks : List KC}
set_option maxHeartbeats 1000000 in
theorem kx_kmv4 (ty : kTY σ) {P Q : List KC} {y : KC} (w : KWd σ0 B σ ws nm (P ++ y :: Q)) (hr : RSD (P ++ y :: Q)) {k k2 : Nat} {w1 w2 : List Int32} (hk : nm[k]? = some w1) (hk2 : nm[k2]? = some w2) (f1 : y.2.2.2.2.2.1 = w1) (f2 : kyI (skA (P ++ y :: Q)) w1 = some P.length) (hn : kyI (skA (P ++ y :: Q)) w2 = none) (hne : ¬ w1 = w2) (hyE : ¬ emB y) (x1 x2 : Int32) (e1 : x1 = nI k) (e2 : x2 = nI k2) :
    kjY kPP (kQQ Y) (d + 5) 155 4 [some (.ref 59), some (.int x1), some (.int x2), none, none] [] σ (fun r z => r = none ∧ cdS σ0 B σ ws nm (rnA (skA (P ++ y :: Q)) P.length w2) z) := by
  obtain ⟨fr, vs, hR, hV⟩ := w.2.2.2.2.1
  have hw := w.2.2.1.1
  have ow := w.2.1.1
  have po := w.2.1.2
  have hRo := hR
  obtain ⟨ri, rs, rh, NK, rt, NT, rn, Nn, te, rc, NC, rm, Nm, ce, ls, hG⟩ := hR
  have i1 := hG.1.1.1
  have b3 := hG.2.2.2.1.1.2.2.1
  have b5 := hG.2.2.2.1.1.2.2.2.2
  rw [List.length_map, List.length_append, List.length_cons] at b3
  have hvb := hw.b8 ty hk
  have hvb2 := hw.b8 ty hk2
  obtain ⟨hr1, hr2⟩ := hr.two
  refine kjZ_y rfl rfl 8 _ _ _ _ ty ?_
  refine (And.intro (ty.k (by decide) rfl) (And.intro (ty.k (by decide) rfl) (Exists.intro _ (And.intro i1 (And.intro (ty.k (by decide) rfl) (And.intro (Nat.le_of_ble_eq_true rfl) (And.intro (Or.inl ⟨(Nat.le_of_ble_eq_true rfl), (ty.k (by decide) rfl)⟩) (And.intro (Nat.le_of_ble_eq_true rfl) (And.intro (Nat.le_of_ble_eq_true rfl) (kjY_mono ty (fun q_ u1 ty1 xu1 h_ => ?_) (kx_findId ty hw hRo hV hk _ _ i1 rfl e1)))))))))))
  obtain ⟨rfl, rfl⟩ := h_
  intro _ _
  have ep : fdR (anm (skA (P ++ y :: Q))) w1 = nI P.length := by
    rcases fd_cases hV.2.2 (hV.nb ty1 hw) hvb with ⟨g1, g2⟩ | ⟨P', y', Q', g1, g2, g3, g4⟩
    · rw [f2] at g2; cases g2
    · rw [f2] at g3; rw [g4, Option.some.inj g3]
  generalize fdR (anm (skA (P ++ y :: Q))) w1 = x3 at ep
  refine kjZ_y rfl rfl 3 _ _ _ _ ty1 ?_
  refine (And.intro (Nat.le_of_ble_eq_true rfl) (And.intro (fun c => ?_) (fun c => ?_)))
  rotate_left
  · exact absurd (show (0 : Int32) ≤ x3 by rw [ep]; exact nI_le (a := 0) (Nat.zero_le _) (by omega)) c
  have hsp : ((P ++ y :: Q).map (fun x => x.2.2.1))[P.length]? = some y.2.2.1 := by
    rw [List.getElem?_map, List.getElem?_append_right (Nat.le_refl _), Nat.sub_self]; rfl
  refine kjZ_y rfl rfl 3 _ _ _ _ ty1 ?_
  refine (And.intro (Nat.le_of_ble_eq_true rfl) (And.intro (Or.inl ⟨(Nat.le_of_ble_eq_true rfl), (ty1.k (by decide) rfl)⟩) (And.intro (Nat.le_of_ble_eq_true rfl) (And.intro (Nat.le_of_ble_eq_true rfl) (kjY_mono ty1 (fun q_ u2 ty2 xu2 h_ => ?_) (k_leave ty1 ow po hRo (by rw [List.length_map, List.length_map]) hsp _ ep))))))
  obtain ⟨rfl, r2, o2, p2, c2⟩ := h_
  intro _ _
  rw [cutL_mdm, cutL_mdm] at r2
  have hw2 : WRD u2 nm := (w.k0.sto ty1 c2 (by decide) (by decide) o2 p2).1.2.2.1.1
  have gV : STV nm (P ++ Q) [] vs := by
    refine ⟨fun x hx => hV.1 x ?_, fun s hs => (by cases hs), SRN_cut hV.2.2⟩
    rcases List.mem_append.mp hx with z | z
    · exact List.mem_append_left _ z
    · exact List.mem_append_right _ (List.mem_cons_of_mem _ z)
  have r2o := r2
  obtain ⟨ri2, rs2, rh2, NK2, rt2, NT2, rn2, Nn2, te2, rc2, NC2, rm2, Nm2, ce2, ls2, hG2⟩ := r2
  obtain ⟨⟨⟨i1', i2'⟩, ⟨i3', i4'⟩, ⟨i5', i6'⟩, i7', i8'⟩, a2', a3', ⟨⟨b1', b2', b3', b4', b5'⟩, b6', b7', b8', b9', b10'⟩, a5', a6', a7'⟩ := hG2
  have hl : (anm (skA (P ++ Q))).length = (P ++ Q).length := by rw [anm_len, skA_len]
  rw [List.length_map] at b1' b3'
  refine kjZ_y rfl rfl 9 _ _ _ _ ty2 ?_
  refine (And.intro (ty2.k (by decide) rfl) (And.intro (ty2.k (by decide) rfl) (Exists.intro _ (And.intro i1' (And.intro (ty2.k (by decide) rfl) (And.intro (Nat.le_of_ble_eq_true rfl) (And.intro (Or.inl ⟨(Nat.le_of_ble_eq_true rfl), (ty2.k (by decide) rfl)⟩) (And.intro (Nat.le_of_ble_eq_true rfl) (And.intro (Nat.le_of_ble_eq_true rfl) (kjY_mono ty2 (fun q_ u3 ty3 xu3 h_ => ?_) (k_find ty2 hw2 i2' gV.2.2 (gV.ids b7') (by omega) (by omega) hk2 _ _ (by rw [b1', hl]) e2)))))))))))
  obtain ⟨rfl, rfl⟩ := h_
  intro _ _
  have ple : plF (anm (skA (P ++ Q))) w2 ≤ (P ++ Q).length := by have := plF_le (anm (skA (P ++ Q))) w2; rw [anm_len, skA_len] at this; exact this
  have hn2 : fdR (anm (skA (P ++ Q))) w2 = -1 - nI (plF (anm (skA (P ++ Q))) w2) ∧ kyI (skA (P ++ Q)) w2 = none := by
    rcases fd_cases gV.2.2 (gV.nb ty1 hw) hvb2 with g | ⟨P', y', Q', g1, g2, g3, g4⟩
    · exact g
    · exfalso
      have hm : y' ∈ P ++ y :: Q := by
        have : y' ∈ P ++ Q := by rw [g1]; exact List.mem_append_right _ List.mem_cons_self
        rcases List.mem_append.mp this with z | z
        · exact List.mem_append_left _ z
        · exact List.mem_append_right _ (List.mem_cons_of_mem _ z)
      obtain ⟨P9, Q9, e9⟩ := List.append_of_mem hm
      have srt := w.srt
      rw [e9] at hn srt
      have := ky_k srt
      rw [g2, hn] at this; cases this
  obtain ⟨hn2, hn3⟩ := hn2
  generalize hpp : plF (anm (skA (P ++ Q))) w2 = p at hn2 ple
  have epl : Int32.ofInt (-1) - fdR (anm (skA (P ++ Q))) w2 = nI p := by
    rw [hn2]
    have : ∀ a b : Int32, a - (a - b) = b := fun a b => by
      rw [Int32.sub_eq_add_neg, Int32.neg_sub, Int32.sub_eq_add_neg, ← Int32.add_assoc, Int32.add_comm a b, Int32.add_assoc, ← Int32.sub_eq_add_neg a a, Int32.sub_self, Int32.add_zero]
    exact this _ _
  refine kjZ_y rfl rfl 6 _ _ _ _ ty3 ?_
  refine (And.intro (Nat.le_of_ble_eq_true rfl) (And.intro (Nat.le_of_ble_eq_true rfl) (And.intro (Or.inl ⟨(Nat.le_of_ble_eq_true rfl), (ty3.k (by decide) rfl)⟩) (And.intro (Nat.le_of_ble_eq_true rfl) (And.intro (Nat.le_of_ble_eq_true rfl) (kjY_mono ty3 (fun q_ u4 ty4 xu4 h_ => ?_) (k_enter ty3 o2 p2 (S := (P ++ Q).map (fun x => x.2.2.1)) r2o (by rw [List.length_map, List.length_map]) (p := p) (k := k2) (by rw [List.length_map]; exact ple) _ _ epl e2)))))))
  obtain ⟨rfl, q1, q2, q3, q4⟩ := h_
  intro _ _
  obtain ⟨R, hR9⟩ : ∃ R, R = (P ++ Q).take p := ⟨_, rfl⟩
  obtain ⟨S, hS9⟩ : ∃ S, S = (P ++ Q).drop p := ⟨_, rfl⟩
  have hRS : R ++ S = P ++ Q := by rw [hR9, hS9, List.take_append_drop]
  have hRl : R.length = p := by rw [hR9, List.length_take]; omega
  obtain ⟨y2, hy2⟩ : ∃ y2 : KC, y2 = (y.1, k2, y.2.2.1, y.2.2.2.1, y.2.2.2.2.1, (w2, y.2.2.2.2.2.2)) := ⟨_, rfl⟩
  have eil : insL ((P ++ Q).map (fun x => x.2.1)) p k2 = (R ++ y2 :: S).map (fun x => x.2.1) := by
    unfold insL; rw [← List.map_take, ← List.map_drop, ← hR9, ← hS9, hy2, List.map_append, List.map_cons]
  have esl : insL ((P ++ Q).map (fun x => x.2.2.1)) p y.2.2.1 = (R ++ y2 :: S).map (fun x => x.2.2.1) := by
    unfold insL; rw [← List.map_take, ← List.map_drop, ← hR9, ← hS9, hy2, List.map_append, List.map_cons]
  have cc := Ch.tr ty1 (by decide) c2 q4
  obtain ⟨k0a, k0b⟩ := w.k0.sto ty1 cc (by decide) (by decide) q2 q3
  have w4 : KWd σ0 B u4 ws nm (R ++ y2 :: S) := by
    refine k0a.mk ⟨fr, vs, ?_, ?_, hV.2.1, ?_⟩
    · rw [← eil, ← esl]
      have e1 : cSum (R ++ y2 :: S) = cSum (P ++ y :: Q) := by rw [cSum_mid, cSum_mid, hRS, hy2]
      have e2 : tSum (R ++ y2 :: S) = tSum (P ++ y :: Q) := by rw [tSum_mid, tSum_mid, hRS, hy2]; rfl
      rw [e1, e2]; exact q1
    · intro x hx
      have oth : x ∈ R ++ S → ∃ r, vs[x.2.2.1]? = some r ∧ r.1 = x.1 ∧ r.2.2.2.1 = x.2.2.2.1 ∧ r.2.2.2.2.1 = x.2.2.2.2.1 ∧ AV nm r x.2.2.2.2.2 ∧ nm[x.2.1]? = some x.2.2.2.2.2.1 := fun h => by
        rw [hRS] at h; exact gV.1 x h
      rcases List.mem_append.mp hx with z | z
      · exact oth (List.mem_append_left _ z)
      · rcases List.mem_cons.mp z with z | z
        · obtain ⟨r, a1, a2, a3, a4, a5, a6⟩ := hV.1 y (List.mem_append_right _ List.mem_cons_self)
          rw [z, hy2]
          exact ⟨r, a1, a2, a3, a4, a5, hk2⟩
        · exact oth (List.mem_append_right _ z)
    · have e : anm (skA (R ++ y2 :: S)) = (anm (skA (P ++ Q))).take p ++ w2 :: (anm (skA (P ++ Q))).drop p := by
        rw [← hRS, hy2]
        unfold anm skA
        rw [List.map_append, List.map_cons, List.map_append, List.map_cons, List.map_append, List.map_append]
        have e3 : p = (List.map (fun a : AK => a.1) (List.map (fun x : KC => x.2.2.2.2.2) R)).length := by rw [List.length_map, List.length_map, hRl]
        rw [e3, List.take_left, List.drop_left]
      rw [e, ← hpp]
      exact SRN_ins gV.2.2 (fun q hq => kyI_hn hn3 q hq)
  refine kjZ_y rfl rfl 3 _ _ _ _ ty4 ?_
  refine (And.intro (Nat.le_of_ble_eq_true rfl) (And.intro (Or.inl ⟨(Nat.le_of_ble_eq_true rfl), (ty4.k (by decide) rfl)⟩) (And.intro (Nat.le_of_ble_eq_true rfl) (And.intro (Nat.le_of_ble_eq_true rfl) (kjY_mono ty4 (fun q_ u5 ty5 xu5 h_ => ?_) (kx_touch ty4 w4 _))))))
  obtain ⟨rfl, w5, s5⟩ := h_
  intro _ _
  obtain ⟨fr5, vs5, hR5, hV5⟩ := w5.2.2.2.2.1
  have hlRS : ((R ++ y2 :: S).map (fun x => x.2.1)).length = R.length + S.length + 1 := by rw [List.length_map, List.length_append, List.length_cons]; rfl
  have hRSl : R.length + S.length = P.length + Q.length := by have := congrArg List.length hRS; rw [List.length_append, List.length_append] at this; exact this
  refine kjZ_y rfl rfl 5 _ _ _ _ ty5 ?_
  refine (And.intro (Nat.le_of_ble_eq_true rfl) (And.intro (Or.inl ⟨(Nat.le_of_ble_eq_true rfl), (ty5.k (by decide) rfl)⟩) (And.intro (Nat.le_of_ble_eq_true rfl) (And.intro (Nat.le_of_ble_eq_true rfl) (kjY_mono ty5 (fun q_ u6 ty6 xu6 h_ => ?_) (k_valueAt ty5 hR5 _))))))
  obtain ⟨rfl, q6⟩ := h_
  intro _ _
  have hsl5 : ((R ++ y2 :: S).map (fun x => x.2.2.1) ++ fr5)[p]? = some y2.2.2.1 := by
    rw [List.getElem?_append_left (by rw [List.length_map, List.length_append, List.length_cons]; omega), List.getElem?_map, List.getElem?_append_right (by omega), hRl, Nat.sub_self]; rfl
  have hq6 : q_ = some (.ref y2.1) := by
    rcases q6 with ⟨-, g⟩ | ⟨i, s, r, g1, g2, g3, g4, g5⟩
    · have := g p epl; omega
    · have hip : i = p := (nI_eq (by omega) (by omega)).mp (g1.symm.trans epl)
      rw [hip, hsl5] at g3
      obtain ⟨r', a1, a2, -⟩ := hV5.1 y2 (List.mem_append_right _ List.mem_cons_self)
      rw [← Option.some.inj g3, a1] at g4
      rw [g5, ← Option.some.inj g4, a2]
  subst hq6
  have kv6 : (u6.2.2.2.1 y2.1).1 = 11 := by
    obtain ⟨_, _, _, _, _, _, _, _, _, _, _, hd, -⟩ := w5.op_
    rw [hd]
  refine kjZ_y rfl rfl 1 _ _ _ _ ty6 ?_
  refine (And.intro (Nat.le_of_ble_eq_true rfl) (And.intro (Or.inl ⟨(Nat.le_of_ble_eq_true rfl), (ty6.k (by decide) rfl)⟩) (And.intro (Nat.le_of_ble_eq_true rfl) (And.intro (Nat.le_of_ble_eq_true rfl) (kjY_mono ty6 (fun q_ u7 ty7 xu7 h_ => ?_) (kx_settle ty6 w5 (k := k2) (by rw [hy2]; exact hk2) _ e2))))))
  obtain ⟨q9, q9b⟩ := h_
  intro _ _
  have ey : skA (R ++ y2 :: S) = rnA (skA (P ++ y :: Q)) P.length w2 := by
    unfold rnA; rw [skA_at]
    show _ = inA (rmA (skA (P ++ y :: Q)) P.length) (plF (anm (rmA (skA (P ++ y :: Q)) P.length)) w2) (w2, y.2.2.2.2.2.2)
    have er : rmA (skA (P ++ y :: Q)) P.length = skA (P ++ Q) := by rw [skA_app, skA_cons, ← skA_len P, rmA_at, skA_app]
    rw [er, hpp, ← hRS, hy2]
    unfold inA
    rw [skA_app, skA_app, skA_cons, ← hRl, ← skA_len R, List.take_left, List.drop_left]
  have hwk2 : wkO y2 := by have := hr2.1; unfold wkO at this ⊢; rw [hy2]; exact this
  obtain ⟨rfl, hz⟩ := cd_se (σ := u1) PRE.rf (k0b.tr s5).g ⟨q9, q9b⟩ hwk2 (by rw [hRS]; exact hr1) (fun z => absurd (by rw [hy2] at z; exact z) hyE) (fun _ => ey)
  refine kjZ_y rfl rfl 1 _ _ _ _ ty7 ?_
  refine And.intro rfl (And.intro rfl ?_)
  exact ⟨rfl, hz⟩
end KREN
