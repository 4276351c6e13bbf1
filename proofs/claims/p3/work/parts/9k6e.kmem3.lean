/-! Members: one goes. -/
section KMEM3
variable {Y : Nat → MethodName × ByteArray} {d : Nat} {σ0 σ u : kS} {B ws nm nm' : List (List Int32)} {ks : List KC}
/-- a set, opened -/
theorem KWd.s3 {P Q : List KC} {x : KC} (w : KWd σ0 B σ ws nm (P ++ x :: Q)) (hsort : x.2.2.2.2.2.2.1 = 3) : ∃ fr vs e q0, RST σ ((P ++ x :: Q).map (fun x => x.2.1)) ((P ++ x :: Q).map (fun x => x.2.2.1) ++ fr) vs (cSum (P ++ x :: Q)) (tSum (P ++ x :: Q)) ∧ STV nm (P ++ x :: Q) fr vs ∧ vs[x.2.2.1]? = some (x.1, 3, x.2.2.2.2.2.2.2.2.2.2.length, x.2.2.2.1, x.2.2.2.2.1, e, [], [q0]) ∧ (e = endE x.2.2.2.2.2 ∧ x.2.2.2.2.2.2.2.2.2.1 = []) ∧ IDL nm q0 (x.2.2.2.2.2.2.2.2.2.2.map (fun z => z.1)) ∧ σ.2.2.2.1 x.1 = (11, 0) ∧ σ.1 x.1 6 = nI x.2.2.2.2.2.2.2.2.2.2.length ∧ x.2.2.2.2.2.2.2.2.2.2.length ≤ 131072 ∧ σ.1 x.1 4 = x.2.2.2.1 := by
  obtain ⟨fr, vs, k0, n0, e0, t0, cs0, hR, hV, a1, hav, hd, ht, s6, hn6, s4⟩ := w.op_
  obtain ⟨b1, b2, b3, b4, b5, b6⟩ := hav
  have b1 : x.2.2.2.2.2.2.1 = nI k0 := b1
  have hk1 : k0 = 3 := by
    rw [hsort] at b1
    exact ((nI_eq (a := 3) (by decide) (by have : k0 ≤ 4 := b2; omega)).mp b1).symm
  subst hk1
  have ht0 := ht (by decide)
  subst ht0
  have b5 : n0 = x.2.2.2.2.2.2.2.2.2.2.length := b5
  subst b5
  obtain ⟨q0, hq, h1⟩ := b6.2.1 (Or.inr rfl)
  have hq : cs0 = [q0] := hq
  subst hq
  exact ⟨fr, vs, e0, q0, hR, hV, a1, ⟨b3, b4.symm⟩, h1, hd, s6, hn6, s4⟩
theorem KW0.s3 {P Q : List KC} {x : KC} (w : KW0 σ0 B u ws nm) {fr : List Nat} {vs : List VR} (hV : STV nm (P ++ x :: Q) fr vs) (hnd : ((P ++ x :: Q).map (fun x => x.2.2.1) ++ fr).Nodup) (hsort : x.2.2.2.2.2.2.1 = 3) (ht : x.2.2.2.2.2.2.2.2.2.1 = []) (g : List AE → List AE) {q0 : List Int64} (h1 : IDL nm q0 ((g x.2.2.2.2.2.2.2.2.2.2).map (fun z => z.1)))
    (m1 : RST u ((P ++ x :: Q).map (fun x => x.2.1)) ((P ++ x :: Q).map (fun x => x.2.2.1) ++ fr) (vs.set x.2.2.1 (x.1, 3, (g x.2.2.2.2.2.2.2.2.2.2).length, nI (wtC (esF g x.2.2.2.2.2)), x.2.2.2.2.1, endE x.2.2.2.2.2, [], [q0])) (cSum (P ++ x :: Q)) (tSum (P ++ x :: Q))) : KWd σ0 B u ws nm (P ++ mkK x (esF g x.2.2.2.2.2) :: Q) :=
  w.cl hV hnd (k := 3) (n := (g x.2.2.2.2.2.2.2.2.2.2).length) (e := endE x.2.2.2.2.2) (t := []) (cs := [q0]) rfl ⟨hsort, (show (3 : Nat) ≤ 4 by decide), rfl, ht.symm, rfl, ⟨fun z => absurd z (show ¬ (3 : Nat) = 0 by decide), fun _ => ⟨q0, rfl, h1⟩, fun z => absurd z (show ¬ (3 : Nat) = 2 by decide), fun z => absurd z (show ¬ (3 : Nat) = 4 by decide)⟩⟩ rfl m1
theorem wtC_3 {x : KC} (hsort : x.2.2.2.2.2.2.1 = 3) (g : List AE → List AE) : wtC x.2.2.2.2.2 = ewS 3 x.2.2.2.2.2.2.2.2.2.2 ∧ wtC (esF g x.2.2.2.2.2) = ewS 3 (g x.2.2.2.2.2.2.2.2.2.2) := by
  have hne : ¬ (3 : Int32) = 0 := by decide
  unfold wtC esF
  rw [hsort, if_neg hne]
  refine ⟨rfl, ?_⟩
  show (if (3 : Int32) = 0 then _ else ewS 3 _) = _
  rw [if_neg hne]
theorem i32_less {a b c : Nat} {x y : Int32} (h : a = b + c) (hx : x = nI a) (hy : y = nI c) : x - y = nI b := by
  rw [hx, hy, h, pk_sub (by omega)]; congr 1; omega
set_option maxHeartbeats 1000000 in
theorem kx_mrem3 (ty : kTY σ) {P Q : List KC} {x : KC} (w : KWd σ0 B σ ws nm (P ++ x :: Q)) (hsort : x.2.2.2.2.2.2.1 = 3) (hwk : wkO x) {i : Nat} (hi : i < x.2.2.2.2.2.2.2.2.2.2.length) (x2 : Int32) (e2 : x2 = nI i) :
    kjY kPP (kQQ Y) (d + 3) 207 0 (mjL0 4 [.ref 71, .ref x.1, .int x2]) [] σ (wP σ0 B σ ws nm (P ++ mkK x (esF (rmE i) x.2.2.2.2.2) :: Q)) := by
  obtain ⟨fr, vs, e0, q0, hR, hV, a1, ⟨b3, b4⟩, hid0, hd, s6, hn6, s4⟩ := w.s3 hsort
  have hnd := hR.nd
  have kv : (σ.2.2.2.1 x.1).1 = 11 := by rw [hd]
  have hsl := (List.getElem?_eq_some_iff.mp a1).1
  have hz := List.getElem?_eq_getElem hi
  generalize x.2.2.2.2.2.2.2.2.2.2[i] = z at hz
  obtain ⟨hwt1, hwt2⟩ := wtC_3 hsort (rmE i)
  obtain ⟨ko, g1, g2⟩ := hid0.2 i z.1 (by rw [List.getElem?_map, hz]; rfl)
  have k1 : σ.1 x.1 1 = nI 3 := by
    obtain ⟨k9, h1, -, -, h4⟩ := w.val rfl
    rw [h4, ← h1, hsort]; rfl
  refine kjZ_y rfl rfl 5 _ _ _ _ ty ?_
  refine (And.intro (ty.k (by decide) rfl) (And.intro (Nat.le_of_ble_eq_true rfl) (And.intro (Or.inl ⟨(Nat.le_of_ble_eq_true rfl), (by assumption)⟩) (And.intro (Nat.le_of_ble_eq_true rfl) (And.intro (Nat.le_of_ble_eq_true rfl) (kjY_mono ty (fun q_ u1 ty1 xu1 h_ => ?_) (k_vat ty hR a1 x2)))))))
  obtain ⟨rfl, yo, rfl, qo⟩ := h_
  intro _ _
  have eyo : yo = nI ko := by rw [qo i q0 _ e2 hi (show ¬ (3 : Nat) = 0 by decide) rfl g1]; exact i64_32 ko
  refine kjZ_y rfl rfl 1 _ _ _ _ ty1 ?_
  refine (And.intro (Nat.le_of_ble_eq_true rfl) (And.intro (Or.inl ⟨(Nat.le_of_ble_eq_true rfl), (ty1.k (by decide) rfl)⟩) (And.intro (Nat.le_of_ble_eq_true rfl) (And.intro (Nat.le_of_ble_eq_true rfl) (kjY_mono ty1 (fun q_ u2 ty2 xu2 h_ => ?_) (k_wlen ty1 w.2.2.1.1 yo))))))
  obtain ⟨rfl, ym, rfl, qm⟩ := h_
  intro _ _
  have eym := qm ko _ eyo g2
  refine kjZ_y rfl rfl 6 _ _ _ _ ty2 ?_
  refine (And.intro (Nat.le_of_ble_eq_true rfl) (And.intro (by assumption) (And.intro (fun c => ?_) (fun c => ?_))))
  rotate_left
  · exact absurd (show ¬ u2.1 x.1 1 = Int32.ofInt 2 by rw [k1]; decide) c
  refine kjZ_y rfl rfl 9 _ _ _ _ ty2 ?_
  refine (And.intro (Nat.le_of_ble_eq_true rfl) (And.intro (by assumption) (And.intro (by assumption) (And.intro (Or.inl rfl) (fun ty2' => ?_)))))
  have go : ∀ zz x3, kTY zz → zz = (mjIu u2.1 x.1 4 (u2.1 x.1 4 - (ym + (Int8.ofInt 24).toInt32)), u2.2) → kjY kPP (kQQ Y) (d + 3) 207 30 [some (.ref 71), some (.ref x.1), some (.int x2), some (.int x3)] [] zz (wP σ0 B u2 ws nm (P ++ mkK x (esF (rmE i) x.2.2.2.2.2) :: Q)) := by
    intro zz x3 tz ez
    obtain ⟨m1, m2, m3, m4⟩ := hR.wgt ty2 w.2.1.1 w.2.1.2 a1 (u2.1 x.1 4 - (ym + (Int8.ofInt 24).toInt32))
    rw [← ez] at m1 m2 m3 m4
    have kvz : (zz.2.2.2.1 x.1).1 = 11 := by rw [ez]; exact kv
    refine kjZ_y rfl rfl 4 _ _ _ _ tz ?_
    refine (And.intro (Nat.le_of_ble_eq_true rfl) (And.intro (Or.inl ⟨(Nat.le_of_ble_eq_true rfl), (by assumption)⟩) (And.intro (Nat.le_of_ble_eq_true rfl) (And.intro (Nat.le_of_ble_eq_true rfl) (kjY_mono tz (fun q_ u9 ty9 xu9 h_ => ?_) (k_remove1 tz m2 m3 m1 (s := x.2.2.1) (v := x.1) (k := 3) (n := x.2.2.2.2.2.2.2.2.2.2.length) (w := u2.1 x.1 4 - (ym + (Int8.ofInt 24).toInt32)) (c := x.2.2.2.2.1) (e := e0) (q0 := q0) (by rw [List.getElem?_set, if_pos rfl, if_pos hsl]) (Or.inr rfl) (i := i) (m := 1) (by omega) (by omega) _ _ e2 rfl))))))
    obtain ⟨rfl, r5, o2, p9, c2⟩ := h_
    intro _ _
    refine kjZ_y rfl rfl 1 _ _ _ _ ty9 ?_
    refine And.intro rfl (And.intro rfl ?_)
    rw [List.set_set] at r5
    have ec : rmE i x.2.2.2.2.2.2.2.2.2.2 = cutL x.2.2.2.2.2.2.2.2.2.2 i 1 := rmE_cut i _
    have ew := ewS_cut1 3 i _ z hz
    have ewt0 : u2.1 x.1 4 - (ym + (Int8.ofInt 24).toInt32) = nI (wtC (esF (rmE i) x.2.2.2.2.2)) := by
      refine i32_less (a := wtC x.2.2.2.2.2) (c := 24 + z.1.length) ?_ (by rw [s4, hwk]) (by rw [eym, show (Int8.ofInt 24).toInt32 = nI 24 by decide, nI_add, Nat.add_comm])
      rw [hwt1, hwt2, ec]; exact ew
    rw [ewt0, b3] at r5
    have r6 : RST u9 ((P ++ x :: Q).map (fun x => x.2.1)) ((P ++ x :: Q).map (fun x => x.2.2.1) ++ fr) (vs.set x.2.2.1 (x.1, 3, (rmE i x.2.2.2.2.2.2.2.2.2.2).length, nI (wtC (esF (rmE i) x.2.2.2.2.2)), x.2.2.2.2.1, endE x.2.2.2.2.2, [], [cutL q0 i 1])) (cSum (P ++ x :: Q)) (tSum (P ++ x :: Q)) := by
      rw [ec, cutL_len (by omega)]; exact r5
    obtain ⟨q1', q2'⟩ := w.k0.sto ty2 (Ch.tr ty2 (by decide) (m4.va (by decide) (by decide)) (c2.va (by decide) (by decide))) (by decide) (by decide) o2 p9
    refine ⟨rfl, q1'.s3 hV hnd hsort b4 (rmE i) ?_ r6, q2'⟩
    rw [ec, map_cutL]
    exact hid0.cut (by rw [List.length_map]; omega)
  exact go _ _ ty2' rfl
set_option maxHeartbeats 1000000 in
theorem kx_mrem2 (ty : kTY σ) {P Q : List KC} {x : KC} (w : KWd σ0 B σ ws nm (P ++ x :: Q)) (hsort : x.2.2.2.2.2.2.1 = 2) (hwk : wkO x) {i : Nat} (hi : i < x.2.2.2.2.2.2.2.2.2.2.length) (x2 : Int32) (e2 : x2 = nI i) :
    kjY kPP (kQQ Y) (d + 3) 207 0 (mjL0 4 [.ref 71, .ref x.1, .int x2]) [] σ (wP σ0 B σ ws nm (P ++ mkK x (esF (rmE i) x.2.2.2.2.2) :: Q)) := by
  obtain ⟨fr, vs, e0, q0, q1, hR, hV, a1, ⟨b3, b4⟩, ⟨hid0, hid1⟩, hd, s6, hn6, s4⟩ := w.h2 hsort
  have hnd := hR.nd
  have kv : (σ.2.2.2.1 x.1).1 = 11 := by rw [hd]
  have hsl := (List.getElem?_eq_some_iff.mp a1).1
  have hz := List.getElem?_eq_getElem hi
  generalize x.2.2.2.2.2.2.2.2.2.2[i] = z at hz
  obtain ⟨hwt1, hwt2⟩ := wtC_2 hsort (rmE i)
  obtain ⟨ko, g1, g2⟩ := hid0.2 i z.1 (by rw [List.getElem?_map, hz]; rfl)
  obtain ⟨kp, g3, g4⟩ := hid1.2 i z.2.1 (by rw [List.getElem?_map, hz]; rfl)
  have k1 : σ.1 x.1 1 = nI 2 := by
    obtain ⟨k9, h1, -, -, h4⟩ := w.val rfl
    rw [h4, ← h1, hsort]; rfl
  refine kjZ_y rfl rfl 5 _ _ _ _ ty ?_
  refine (And.intro (ty.k (by decide) rfl) (And.intro (Nat.le_of_ble_eq_true rfl) (And.intro (Or.inl ⟨(Nat.le_of_ble_eq_true rfl), (by assumption)⟩) (And.intro (Nat.le_of_ble_eq_true rfl) (And.intro (Nat.le_of_ble_eq_true rfl) (kjY_mono ty (fun q_ u1 ty1 xu1 h_ => ?_) (k_vat ty hR a1 x2)))))))
  obtain ⟨rfl, yo, rfl, qo⟩ := h_
  intro _ _
  have eyo : yo = nI ko := by rw [qo i q0 _ e2 hi (show ¬ (2 : Nat) = 0 by decide) rfl g1]; exact i64_32 ko
  refine kjZ_y rfl rfl 1 _ _ _ _ ty1 ?_
  refine (And.intro (Nat.le_of_ble_eq_true rfl) (And.intro (Or.inl ⟨(Nat.le_of_ble_eq_true rfl), (ty1.k (by decide) rfl)⟩) (And.intro (Nat.le_of_ble_eq_true rfl) (And.intro (Nat.le_of_ble_eq_true rfl) (kjY_mono ty1 (fun q_ u2 ty2 xu2 h_ => ?_) (k_wlen ty1 w.2.2.1.1 yo))))))
  obtain ⟨rfl, ym, rfl, qm⟩ := h_
  intro _ _
  have eym := qm ko _ eyo g2
  refine kjZ_y rfl rfl 6 _ _ _ _ ty2 ?_
  refine (And.intro (Nat.le_of_ble_eq_true rfl) (And.intro (by assumption) (And.intro (fun c => ?_) (fun c => ?_))))
  · exact absurd (show u2.1 x.1 1 = Int32.ofInt 2 by rw [k1]; rfl) c
  refine kjZ_y rfl rfl 6 _ _ _ _ ty2 ?_
  refine (And.intro (ty2.k (by decide) rfl) (And.intro (Nat.le_of_ble_eq_true rfl) (And.intro (Or.inl ⟨(Nat.le_of_ble_eq_true rfl), (by assumption)⟩) (And.intro (Nat.le_of_ble_eq_true rfl) (And.intro (Nat.le_of_ble_eq_true rfl) (kjY_mono ty2 (fun q_ u3 ty3 xu3 h_ => ?_) (k_voth ty2 hR a1 x2)))))))
  obtain ⟨rfl, yp, rfl, qp⟩ := h_
  intro _ _
  have eyp : yp = nI kp := by rw [qp i q1 _ e2 hi (show ¬ (2 : Nat) = 0 by decide) rfl g3]; exact i64_32 kp
  refine kjZ_y rfl rfl 1 _ _ _ _ ty3 ?_
  refine (And.intro (Nat.le_of_ble_eq_true rfl) (And.intro (Or.inl ⟨(Nat.le_of_ble_eq_true rfl), (ty3.k (by decide) rfl)⟩) (And.intro (Nat.le_of_ble_eq_true rfl) (And.intro (Nat.le_of_ble_eq_true rfl) (kjY_mono ty3 (fun q_ u4 ty4 xu4 h_ => ?_) (k_wlen ty3 w.2.2.1.1 yp))))))
  obtain ⟨rfl, yq, rfl, qq⟩ := h_
  intro _ _
  have eyq := qq kp _ eyp g4
  refine kjZ_y rfl rfl 10 _ _ _ _ ty4 ?_
  refine (And.intro (Nat.le_of_ble_eq_true rfl) (And.intro (by assumption) (And.intro (by assumption) (And.intro (Or.inl rfl) (fun ty4' => ?_)))))
  have go : ∀ zz x3, kTY zz → zz = (mjIu u4.1 x.1 4 (u4.1 x.1 4 - (ym + ((Int8.ofInt 32).toInt32 + yq))), u4.2) → kjY kPP (kQQ Y) (d + 3) 207 30 [some (.ref 71), some (.ref x.1), some (.int x2), some (.int x3)] [] zz (wP σ0 B u4 ws nm (P ++ mkK x (esF (rmE i) x.2.2.2.2.2) :: Q)) := by
    intro zz x3 tz ez
    obtain ⟨m1, m2, m3, m4⟩ := hR.wgt ty4 w.2.1.1 w.2.1.2 a1 (u4.1 x.1 4 - (ym + ((Int8.ofInt 32).toInt32 + yq)))
    rw [← ez] at m1 m2 m3 m4
    have kvz : (zz.2.2.2.1 x.1).1 = 11 := by rw [ez]; exact kv
    refine kjZ_y rfl rfl 4 _ _ _ _ tz ?_
    refine (And.intro (Nat.le_of_ble_eq_true rfl) (And.intro (Or.inl ⟨(Nat.le_of_ble_eq_true rfl), (by assumption)⟩) (And.intro (Nat.le_of_ble_eq_true rfl) (And.intro (Nat.le_of_ble_eq_true rfl) (kjY_mono tz (fun q_ u9 ty9 xu9 h_ => ?_) (k_remove2 tz m2 m3 m1 (s := x.2.2.1) (v := x.1) (k := 2) (n := x.2.2.2.2.2.2.2.2.2.2.length) (w := u4.1 x.1 4 - (ym + ((Int8.ofInt 32).toInt32 + yq))) (c := x.2.2.2.2.1) (e := e0) (q0 := q0) (q1 := q1) (by rw [List.getElem?_set, if_pos rfl, if_pos hsl]) rfl (i := i) (m := 1) (by omega) (by omega) _ _ e2 rfl))))))
    obtain ⟨rfl, r5, o2, p9, c2⟩ := h_
    intro _ _
    refine kjZ_y rfl rfl 1 _ _ _ _ ty9 ?_
    refine And.intro rfl (And.intro rfl ?_)
    rw [List.set_set] at r5
    have ec : rmE i x.2.2.2.2.2.2.2.2.2.2 = cutL x.2.2.2.2.2.2.2.2.2.2 i 1 := rmE_cut i _
    have ew := ewS_cut1 2 i _ z hz
    have ewt0 : u4.1 x.1 4 - (ym + ((Int8.ofInt 32).toInt32 + yq)) = nI (wtC (esF (rmE i) x.2.2.2.2.2)) := by
      refine i32_less (a := wtC x.2.2.2.2.2) (c := 32 + z.1.length + z.2.1.length) ?_ (by rw [s4, hwk]) (by rw [eym, eyq, show (Int8.ofInt 32).toInt32 = nI 32 by decide, nI_add, nI_add]; congr 1; omega)
      rw [hwt1, hwt2, ec]; exact ew
    rw [ewt0, b3] at r5
    have r6 : RST u9 ((P ++ x :: Q).map (fun x => x.2.1)) ((P ++ x :: Q).map (fun x => x.2.2.1) ++ fr) (vs.set x.2.2.1 (x.1, 2, (rmE i x.2.2.2.2.2.2.2.2.2.2).length, nI (wtC (esF (rmE i) x.2.2.2.2.2)), x.2.2.2.2.1, endE x.2.2.2.2.2, [], [cutL q0 i 1, cutL q1 i 1])) (cSum (P ++ x :: Q)) (tSum (P ++ x :: Q)) := by
      rw [ec, cutL_len (by omega)]; exact r5
    obtain ⟨q1', q2'⟩ := w.k0.sto ty4 (Ch.tr ty4 (by decide) (m4.va (by decide) (by decide)) (c2.va (by decide) (by decide))) (by decide) (by decide) o2 p9
    refine ⟨rfl, q1'.h2 hV hnd hsort b4 (rmE i) ?_ ?_ r6, q2'⟩
    · rw [ec, map_cutL]
      exact hid0.cut (by rw [List.length_map]; omega)
    · rw [ec, map_cutL]
      exact hid1.cut (by rw [List.length_map]; omega)
  exact go _ _ ty4' rfl
end KMEM3
