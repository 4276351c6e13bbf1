/-! Orders: a member goes. -/
theorem cutL_perm {α : Type} {q : List α} {i : Nat} {z : α} (h : q[i]? = some z) : q.Perm (z :: cutL q i 1) := by
  obtain ⟨hi, e⟩ := List.getElem?_eq_some_iff.mp h
  unfold cutL
  have : q = q.take i ++ z :: q.drop (i + 1) := by rw [← e, List.getElem_cons_drop, List.take_append_drop]
  conv => lhs; rw [this]
  exact List.perm_middle
theorem lpP_at {es : List AE} (hZ : ZP es) {j : Nat} {z : AE} (h : es[j]? = some z) : lpP z.2.2 z.1 es j := by
  obtain ⟨hj, e⟩ := List.getElem?_eq_some_iff.mp h
  refine ⟨by omega, fun i t hi ht => ?_, fun i t hi ht hb => ?_⟩
  · obtain ⟨h1, h2⟩ := List.getElem?_eq_some_iff.mp ht
    have hp := (List.pairwise_iff_getElem.mp hZ i j h1 hj hi).1
    rw [h2, e] at hp; exact hp
  · obtain ⟨h1, h2⟩ := List.getElem?_eq_some_iff.mp ht
    by_cases c : i = j
    · subst c
      rw [h] at ht; cases ht
      rcases hb with k | k
      · exact Int64.lt_irrefl k
      · rw [cmpW_self] at k; exact absurd k.2 (by decide)
    · have hp := (List.pairwise_iff_getElem.mp hZ j i hj h1 (by omega)).1
      rw [h2, e] at hp
      have := lpB_tr hp hb
      rcases this with k | k
      · exact Int64.lt_irrefl k
      · rw [cmpW_self] at k; exact absurd k.2 (by decide)
section KOREM
variable {Y : Nat → MethodName × ByteArray} {d : Nat} {σ0 σ u : kS} {B ws nm nm' : List (List Int32)} {ks : List KC}
set_option maxHeartbeats 1000000 in
theorem kx_orem (ty : kTY σ) {P Q : List KC} {x : KC} (w : KWd σ0 B σ ws nm (P ++ x :: Q)) (hsort : x.2.2.2.2.2.2.1 = 4) (hwk : wkO x) (hZ : ZP x.2.2.2.2.2.2.2.2.2.2) {v : List Int32} {k : Nat} (hk : nm[k]? = some v) (hyes : nmF v x.2.2.2.2.2.2.2.2.2.2 = true) (x2 : Int32) (e2 : x2 = nI (nmC v x.2.2.2.2.2.2.2.2.2.2)) :
    kjY kPP (kQQ Y) (d + 3) 232 0 (mjL0 4 [.ref 75, .ref x.1, .int x2]) [] σ (fun r u => r = none ∧ ∃ j z, x.2.2.2.2.2.2.2.2.2.2[j]? = some z ∧ z.1 = v ∧ KWd σ0 B u ws nm (P ++ mkK x (esF (fun es => cutL es j 1) x.2.2.2.2.2) :: Q) ∧ SCl scA σ u) := by
  obtain ⟨fr, vs, e0, q0, q1, q2, q3, fs, hR, hV, a1, ⟨b3, b4⟩, ⟨c1, c3, c0, c2, hp, hsp⟩, hd, s6, hn6, s4⟩ := w.o4 hsort
  have hnd := hR.nd
  have hw := w.2.2.1.1
  have kv : (σ.2.2.2.1 x.1).1 = 11 := by rw [hd]
  have hsl := (List.getElem?_eq_some_iff.mp a1).1
  have he : ∀ z ∈ fs, B8 z.1 := fun z hz => by
    obtain ⟨i, hi, g⟩ := List.mem_iff_getElem.mp hz
    obtain ⟨k9, -, g2⟩ := c0.2 i z.1 (by rw [List.getElem?_map, List.getElem?_eq_getElem hi, g]; rfl)
    exact hw.b8 ty g2
  have ec : nmC v x.2.2.2.2.2.2.2.2.2.2 = skI v fs := by rw [skI_cnt hsp]; exact (hp.countP_eq _).symm
  have hyt : skT v fs = true := by
    rw [skT_any hsp (hw.b8 ty hk) he]
    have : nmF v fs = nmF v x.2.2.2.2.2.2.2.2.2.2 := by unfold nmF; exact hp.any_eq
    rw [this]; exact hyes
  rw [ec] at e2
  have hfl := hp.length_eq
  obtain ⟨z, hz1, hz2, hz3⟩ := skT_at hyt
  have hzv : z.1 = v := cmpW_eq _ _ (he z (List.mem_of_getElem? hz1)) (hw.b8 ty hk) hz2
  generalize hi9 : skI v fs = i at e2 hz1 hz3
  obtain ⟨j, hj, gj⟩ := List.mem_iff_getElem.mp (hp.mem_iff.mp (List.mem_of_getElem? hz1))
  have hjz : x.2.2.2.2.2.2.2.2.2.2[j]? = some z := by rw [List.getElem?_eq_getElem hj, gj]
  obtain ⟨ko, g1, g2⟩ := c0.2 i z.1 (by rw [List.getElem?_map, hz1]; rfl)
  have g3 : q2[i]? = some z.2.2 := by rw [c2, List.getElem?_map, hz1]; rfl
  refine kjZ_y rfl rfl 3 _ _ _ _ ty ?_
  refine (And.intro (Nat.le_of_ble_eq_true rfl) (And.intro (Or.inl ⟨(Nat.le_of_ble_eq_true rfl), (by assumption)⟩) (And.intro (Nat.le_of_ble_eq_true rfl) (And.intro (Nat.le_of_ble_eq_true rfl) (kjY_mono ty (fun q_ u1 ty1 xu1 h_ => ?_) (k_vat ty hR a1 x2))))))
  obtain ⟨rfl, yo, rfl, qo⟩ := h_
  intro _ _
  have eyo : yo = nI ko := by rw [qo i q0 _ e2 (show i < x.2.2.2.2.2.2.2.2.2.2.length by omega) (show ¬ (4 : Nat) = 0 by decide) rfl g1]; exact i64_32 ko
  refine kjZ_y rfl rfl 8 _ _ _ _ ty1 ?_
  refine (And.intro (Nat.le_of_ble_eq_true rfl) (And.intro (Nat.le_of_ble_eq_true rfl) (And.intro (Or.inl ⟨(Nat.le_of_ble_eq_true rfl), (by assumption)⟩) (And.intro (Nat.le_of_ble_eq_true rfl) (And.intro (Nat.le_of_ble_eq_true rfl) (kjY_mono ty1 (fun q_ u2 ty2 xu2 h_ => ?_) (k_vsc ty1 hR a1 x2)))))))
  obtain ⟨rfl, ys, rfl, qs⟩ := h_
  intro _ _
  have eys : ys = z.2.2 := qs i q2 _ e2 (show i < x.2.2.2.2.2.2.2.2.2.2.length by omega) (show ¬ (4 : Nat) = 0 by decide) rfl g3
  subst eys
  refine kjZ_y rfl rfl 2 _ _ _ _ ty2 ?_
  refine (And.intro (Nat.le_of_ble_eq_true rfl) (And.intro (Or.inl ⟨(Nat.le_of_ble_eq_true rfl), (ty2.k (by decide) rfl)⟩) (And.intro (Nat.le_of_ble_eq_true rfl) (And.intro (Nat.le_of_ble_eq_true rfl) (kjY_mono ty2 (fun q_ u3 ty3 xu3 h_ => ?_) (k_linePlace ty2 hw hR a1 (show ¬ (4 : Nat) = 0 by decide) (q1 := q1) (q3 := q3) rfl rfl c1 c3 rfl (by omega) hZ g2 z.2.2 _ eyo))))))
  obtain ⟨rfl, j', rfl, hj'⟩ := h_
  intro _ _
  have ej : j' = j := lpP_u hj' (lpP_at hZ hjz)
  subst ej
  refine kjZ_y rfl rfl 1 _ _ _ _ ty3 ?_
  refine (And.intro (Nat.le_of_ble_eq_true rfl) (And.intro (Or.inl ⟨(Nat.le_of_ble_eq_true rfl), (by assumption)⟩) (And.intro (Nat.le_of_ble_eq_true rfl) (And.intro (Nat.le_of_ble_eq_true rfl) (kjY_mono ty3 (fun q_ u4 ty4 xu4 h_ => ?_) (k_removeS ty3 w.2.1.1 w.2.1.2 hR a1 rfl (i := i) (j := j') (by omega) hj _ _ e2 rfl))))))
  obtain ⟨rfl, r5, o2, p2, d2⟩ := h_
  intro _ _
  have kv4 : (u4.2.2.2.1 x.1).1 = 11 := xu4.k ty3 kv (by decide)
  have a2 : (vs.set x.2.2.1 (x.1, 4, x.2.2.2.2.2.2.2.2.2.2.length - 1, x.2.2.2.1, x.2.2.2.2.1, e0, [], [cutL q0 i 1, cutL q1 j' 1, cutL q2 i 1, cutL q3 j' 1]))[x.2.2.1]? = some (x.1, 4, x.2.2.2.2.2.2.2.2.2.2.length - 1, x.2.2.2.1, x.2.2.2.2.1, e0, [], [cutL q0 i 1, cutL q1 j' 1, cutL q2 i 1, cutL q3 j' 1]) := by rw [List.getElem?_set, if_pos rfl, if_pos hsl]
  have w4 : u4.1 x.1 4 = x.2.2.2.1 := by
    obtain ⟨_, _, _, _, _, _, _, _, _, _, _, _, _, _, _, hG⟩ := r5
    obtain ⟨_, _, hV4, -⟩ := hG.v a2
    exact hV4.1.2.2.2.2.2.1
  have hw4 : WRD u4 nm := (w.k0.sto ty3 d2 (by decide) (by decide) o2 p2).1.2.2.1.1
  refine kjZ_y rfl rfl 8 _ _ _ _ ty4 ?_
  refine (And.intro (by assumption) (And.intro (ty4.k (by decide) rfl) (And.intro (Nat.le_of_ble_eq_true rfl) (And.intro (Or.inl ⟨(Nat.le_of_ble_eq_true rfl), (ty4.k (by decide) rfl)⟩) (And.intro (Nat.le_of_ble_eq_true rfl) (And.intro (Nat.le_of_ble_eq_true rfl) (kjY_mono ty4 (fun q_ u5 ty5 xu5 h_ => ?_) (k_wlen ty4 hw4 yo))))))))
  obtain ⟨rfl, yl, rfl, ql⟩ := h_
  intro _ _
  have eyl := ql ko _ eyo g2
  refine kjZ_y rfl rfl 3 _ _ _ _ ty5 ?_
  refine (And.intro (by assumption) (And.intro (Or.inl rfl) (fun ty5' => ?_)))
  have go : ∀ zz, kTY zz → zz = (mjIu u5.1 x.1 4 (u5.1 x.1 4 - ((Int8.ofInt 48).toInt32 + yl)), u5.2) → kjY kPP (kQQ Y) (d + 3) 232 25 [some (.ref 75), some (.ref x.1), some (.int x2), some (.int yo)] [] zz (fun r u => r = none ∧ ∃ j z, x.2.2.2.2.2.2.2.2.2.2[j]? = some z ∧ z.1 = v ∧ KWd σ0 B u ws nm (P ++ mkK x (esF (fun es => cutL es j 1) x.2.2.2.2.2) :: Q) ∧ SCl scA u3 u) := by
    intro zz tz ez
    refine kjZ_y rfl rfl 1 _ _ _ _ tz ?_
    refine And.intro rfl (And.intro rfl ?_)
    obtain ⟨m1, m2, m3, m4⟩ := r5.wgt ty5 o2 p2 a2 (u5.1 x.1 4 - ((Int8.ofInt 48).toInt32 + yl))
    rw [← ez] at m1 m2 m3 m4
    rw [List.set_set] at m1
    obtain ⟨hwt1, hwt2⟩ := wtC_4 hsort (fun es => cutL es j' 1)
    have ew := ewS_cut1 4 j' _ z hjz
    have ewt0 : u5.1 x.1 4 - ((Int8.ofInt 48).toInt32 + yl) = nI (wtC (esF (fun es => cutL es j' 1) x.2.2.2.2.2)) := by
      refine i32_less (a := wtC x.2.2.2.2.2) (c := 48 + z.1.length) ?_ (by rw [w4, hwk]) (by rw [eyl, show (Int8.ofInt 48).toInt32 = nI 48 by decide, nI_add])
      rw [hwt1, hwt2]; exact ew
    rw [ewt0, b3] at m1
    have m6 : RST zz ((P ++ x :: Q).map (fun x => x.2.1)) ((P ++ x :: Q).map (fun x => x.2.2.1) ++ fr) (vs.set x.2.2.1 (x.1, 4, (cutL x.2.2.2.2.2.2.2.2.2.2 j' 1).length, nI (wtC (esF (fun es => cutL es j' 1) x.2.2.2.2.2)), x.2.2.2.2.1, endE x.2.2.2.2.2, [], [cutL q0 i 1, cutL q1 j' 1, cutL q2 i 1, cutL q3 j' 1])) (cSum (P ++ x :: Q)) (tSum (P ++ x :: Q)) := by
      rw [cutL_len (by omega)]; exact m1
    obtain ⟨k1, k2⟩ := w.k0.sto ty3 (Ch.tr ty3 (by decide) (d2.va (by decide) (by decide)) (m4.va (by decide) (by decide))) (by decide) (by decide) m2 m3
    refine ⟨rfl, j', z, hjz, hzv, k1.o4 hV hnd hsort b4 (fun es => cutL es j' 1) (fs := cutL fs i 1) ?_ ?_ ?_ ?_ ?_ (SP_cut hsp _ _) m6, k2⟩
    · rw [map_cutL]; exact c1.cut (by rw [List.length_map]; omega)
    · rw [map_cutL, c3]
    · rw [map_cutL]; exact c0.cut (by rw [List.length_map]; omega)
    · rw [map_cutL, c2]
    · exact List.Perm.cons_inv (((cutL_perm hz1).symm.trans hp).trans (cutL_perm hjz))
  exact go _ ty5' rfl
end KOREM
