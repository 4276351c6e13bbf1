/-! Members: a field is set; one goes. -/
section KMEM2
variable {Y : Nat → MethodName × ByteArray} {d : Nat} {σ0 σ u : kS} {B ws nm nm' : List (List Int32)} {ks : List KC}
/-- a hash, opened -/
theorem KWd.h2 {P Q : List KC} {x : KC} (w : KWd σ0 B σ ws nm (P ++ x :: Q)) (hsort : x.2.2.2.2.2.2.1 = 2) : ∃ fr vs e q0 q1, RST σ ((P ++ x :: Q).map (fun x => x.2.1)) ((P ++ x :: Q).map (fun x => x.2.2.1) ++ fr) vs (cSum (P ++ x :: Q)) (tSum (P ++ x :: Q)) ∧ STV nm (P ++ x :: Q) fr vs ∧ vs[x.2.2.1]? = some (x.1, 2, x.2.2.2.2.2.2.2.2.2.2.length, x.2.2.2.1, x.2.2.2.2.1, e, [], [q0, q1]) ∧ (e = endE x.2.2.2.2.2 ∧ x.2.2.2.2.2.2.2.2.2.1 = []) ∧ (IDL nm q0 (x.2.2.2.2.2.2.2.2.2.2.map (fun z => z.1)) ∧ IDL nm q1 (x.2.2.2.2.2.2.2.2.2.2.map (fun z => z.2.1))) ∧ σ.2.2.2.1 x.1 = (11, 0) ∧ σ.1 x.1 6 = nI x.2.2.2.2.2.2.2.2.2.2.length ∧ x.2.2.2.2.2.2.2.2.2.2.length ≤ 131072 ∧ σ.1 x.1 4 = x.2.2.2.1 := by
  obtain ⟨fr, vs, k0, n0, e0, t0, cs0, hR, hV, a1, hav, hd, ht, s6, hn6, s4⟩ := w.op_
  obtain ⟨b1, b2, b3, b4, b5, b6⟩ := hav
  have b1 : x.2.2.2.2.2.2.1 = nI k0 := b1
  have hk1 : k0 = 2 := by
    rw [hsort] at b1
    exact ((nI_eq (a := 2) (by decide) (by have : k0 ≤ 4 := b2; omega)).mp b1).symm
  subst hk1
  have ht0 := ht (by decide)
  subst ht0
  have b5 : n0 = x.2.2.2.2.2.2.2.2.2.2.length := b5
  subst b5
  obtain ⟨q0, q1, hq, h1, h2⟩ := b6.2.2.1 rfl
  have hq : cs0 = [q0, q1] := hq
  subst hq
  exact ⟨fr, vs, e0, q0, q1, hR, hV, a1, ⟨b3, b4.symm⟩, ⟨h1, h2⟩, hd, s6, hn6, s4⟩
/-- a hash, closed -/
theorem KW0.h2 {P Q : List KC} {x : KC} (w : KW0 σ0 B u ws nm) {fr : List Nat} {vs : List VR} (hV : STV nm (P ++ x :: Q) fr vs) (hnd : ((P ++ x :: Q).map (fun x => x.2.2.1) ++ fr).Nodup) (hsort : x.2.2.2.2.2.2.1 = 2) (ht : x.2.2.2.2.2.2.2.2.2.1 = []) (g : List AE → List AE) {q0 q1 : List Int64} (h1 : IDL nm q0 ((g x.2.2.2.2.2.2.2.2.2.2).map (fun z => z.1))) (h2 : IDL nm q1 ((g x.2.2.2.2.2.2.2.2.2.2).map (fun z => z.2.1)))
    (m1 : RST u ((P ++ x :: Q).map (fun x => x.2.1)) ((P ++ x :: Q).map (fun x => x.2.2.1) ++ fr) (vs.set x.2.2.1 (x.1, 2, (g x.2.2.2.2.2.2.2.2.2.2).length, nI (wtC (esF g x.2.2.2.2.2)), x.2.2.2.2.1, endE x.2.2.2.2.2, [], [q0, q1])) (cSum (P ++ x :: Q)) (tSum (P ++ x :: Q))) : KWd σ0 B u ws nm (P ++ mkK x (esF g x.2.2.2.2.2) :: Q) :=
  w.cl hV hnd (k := 2) (n := (g x.2.2.2.2.2.2.2.2.2.2).length) (e := endE x.2.2.2.2.2) (t := []) (cs := [q0, q1]) rfl ⟨hsort, (show (2 : Nat) ≤ 4 by decide), rfl, ht.symm, rfl, ⟨fun z => absurd z (show ¬ (2 : Nat) = 0 by decide), fun z => absurd z (show ¬ ((2 : Nat) = 1 ∨ (2 : Nat) = 3) by decide), fun _ => ⟨q0, q1, rfl, h1, h2⟩, fun z => absurd z (show ¬ (2 : Nat) = 4 by decide)⟩⟩ rfl m1
theorem wtC_2 {x : KC} (hsort : x.2.2.2.2.2.2.1 = 2) (g : List AE → List AE) : wtC x.2.2.2.2.2 = ewS 2 x.2.2.2.2.2.2.2.2.2.2 ∧ wtC (esF g x.2.2.2.2.2) = ewS 2 (g x.2.2.2.2.2.2.2.2.2.2) := by
  have hne : ¬ (2 : Int32) = 0 := by decide
  unfold wtC esF
  rw [hsort, if_neg hne]
  refine ⟨rfl, ?_⟩
  show (if (2 : Int32) = 0 then _ else ewS 2 _) = _
  rw [if_neg hne]
def hfP (σ0 : kS) (B : List (List Int32)) (σ : kS) (ws nm : List (List Int32)) (P : List KC) (x : KC) (Q : List KC) (g : List AE → List AE) : kK := fun r u => (∃ z : Int32, r = some (.int z)) ∧ KWd σ0 B u ws nm (P ++ mkK x (esF g x.2.2.2.2.2) :: Q) ∧ SCl scA σ u
set_option maxHeartbeats 1000000 in
theorem kx_setF (ty : kTY σ) {P Q : List KC} {x : KC} (w : KWd σ0 B σ ws nm (P ++ x :: Q)) (hsort : x.2.2.2.2.2.2.1 = 2) (hwk : wkO x) (hSP : SP x.2.2.2.2.2.2.2.2.2.2) {k k2 : Nat} {f v : List Int32} (hk : nm[k]? = some f) (hk2 : nm[k2]? = some v) (hcap : 2 * (2 * x.2.2.2.2.2.2.2.2.2.2.length + 1) + clA (skA (P ++ x :: Q)) ≤ 49152) (x2 x3 : Int32) (e2 : x2 = nI k) (e3 : x3 = nI k2) :
    kjY kPP (kQQ Y) (d + 3) 209 0 (mjL0 5 [.ref 71, .ref x.1, .int x2, .int x3]) [] σ (hfP σ0 B σ ws nm P x Q (hpE f v)) := by
  obtain ⟨fr, vs, e0, q0, q1, hR, hV, a1, ⟨b3, b4⟩, ⟨hid0, hid1⟩, hd, s6, hn6, s4⟩ := w.h2 hsort
  have hms := STO.ms hR hV
  have hnd := hR.nd
  have kv : (σ.2.2.2.1 x.1).1 = 11 := by rw [hd]
  have hcap2 : pts 2 * (2 * x.2.2.2.2.2.2.2.2.2.2.length + 1) + clS vs ≤ 49152 := by rw [hms.2]; exact hcap
  have hsl9 := skR_lt (v := f) (es := x.2.2.2.2.2.2.2.2.2.2) (by omega)
  have hil := skI_le f x.2.2.2.2.2.2.2.2.2.2
  obtain ⟨hwt1, hwt2⟩ := wtC_2 hsort (hpE f v)
  obtain ⟨n, hn9⟩ : ∃ n, n = x.2.2.2.2.2.2.2.2.2.2.length := ⟨_, rfl⟩
  obtain ⟨i, hi9⟩ : ∃ i, i = skI f x.2.2.2.2.2.2.2.2.2.2 := ⟨_, rfl⟩
  rw [← hi9] at hil hsl9
  rw [← hn9] at a1 hcap2 s6 hn6 hil
  have hsl := (List.getElem?_eq_some_iff.mp a1).1
  refine kjZ_y rfl rfl 5 _ _ _ _ ty ?_
  refine (And.intro (ty.k (by decide) rfl) (And.intro (Nat.le_of_ble_eq_true rfl) (And.intro (Or.inl ⟨(Nat.le_of_ble_eq_true rfl), (ty.k (by decide) rfl)⟩) (And.intro (Nat.le_of_ble_eq_true rfl) (And.intro (Nat.le_of_ble_eq_true rfl) (kjY_mono ty (fun q_ u0 ty0 xu0 h_ => ?_) (kx_plM ty w (Or.inl hsort) hSP hk _ e2)))))))
  obtain ⟨rfl, rfl⟩ := h_
  intro _ _
  generalize hrr : skR f x.2.2.2.2.2.2.2.2.2.2 = x4 at hsl9
  refine kjZ_y rfl rfl 3 _ _ _ _ ty0 ?_
  refine (And.intro (Nat.le_of_ble_eq_true rfl) (And.intro (fun c => ?_) (fun c => ?_)))
  · -- it is there
    have c : ¬ x4 < 0 := Int32.not_lt.mpr c
    have hyes : skT f x.2.2.2.2.2.2.2.2.2.2 = true := Decidable.byContradiction fun z => c (hsl9.1.mpr z)
    obtain ⟨z, hz1, hz2, hz3⟩ := skT_at hyes
    rw [← hi9] at hz1 hz3
    rw [← hn9] at hz3
    have e4 : x4 = nI i := by rw [← hrr, hi9]; unfold skR; rw [if_pos hyes]
    have eg : hpE f v x.2.2.2.2.2.2.2.2.2.2 = x.2.2.2.2.2.2.2.2.2.2.set i (z.1, v, z.2.2) := by rw [hpE_yes hyes, ← hi9]; exact gvE_set i _ z hz1
    refine kjZ_y rfl rfl 7 _ _ _ _ ty0 ?_
    refine (And.intro (by assumption) (And.intro (ty0.k (by decide) rfl) (And.intro (Nat.le_of_ble_eq_true rfl) (And.intro (Or.inl ⟨(Nat.le_of_ble_eq_true rfl), (ty0.k (by decide) rfl)⟩) (And.intro (Nat.le_of_ble_eq_true rfl) (And.intro (Nat.le_of_ble_eq_true rfl) (kjY_mono ty0 (fun q_ u3 ty3 xu3 h_ => ?_) (k_wlen ty0 w.2.2.1.1 x3))))))))
    obtain ⟨rfl, yl, rfl, ql⟩ := h_
    intro _ _
    have eyl := ql k2 _ e3 hk2
    refine kjZ_y rfl rfl 5 _ _ _ _ ty3 ?_
    refine (And.intro (ty3.k (by decide) rfl) (And.intro (Nat.le_of_ble_eq_true rfl) (And.intro (Or.inl ⟨(Nat.le_of_ble_eq_true rfl), (by assumption)⟩) (And.intro (Nat.le_of_ble_eq_true rfl) (And.intro (Nat.le_of_ble_eq_true rfl) (kjY_mono ty3 (fun q_ u4 ty4 xu4 h_ => ?_) (k_voth ty3 hR a1 x4)))))))
    obtain ⟨rfl, yo, rfl, qo⟩ := h_
    intro _ _
    obtain ⟨ko, g1, g2⟩ := hid1.2 i z.2.1 (by rw [List.getElem?_map, hz1]; rfl)
    have eyo : yo = nI ko := by rw [qo i q1 _ e4 hz3 (show ¬ (2 : Nat) = 0 by decide) rfl g1]; exact i64_32 ko
    refine kjZ_y rfl rfl 1 _ _ _ _ ty4 ?_
    refine (And.intro (Nat.le_of_ble_eq_true rfl) (And.intro (Or.inl ⟨(Nat.le_of_ble_eq_true rfl), (ty4.k (by decide) rfl)⟩) (And.intro (Nat.le_of_ble_eq_true rfl) (And.intro (Nat.le_of_ble_eq_true rfl) (kjY_mono ty4 (fun q_ u5 ty5 xu5 h_ => ?_) (k_wlen ty4 w.2.2.1.1 yo))))))
    obtain ⟨rfl, ym, rfl, qm⟩ := h_
    intro _ _
    have eym := qm ko _ eyo g2
    refine kjZ_y rfl rfl 3 _ _ _ _ ty5 ?_
    refine (And.intro (by assumption) (And.intro (Or.inl rfl) (fun ty5' => ?_)))
    have go : ∀ zz, kTY zz → zz = (mjIu u5.1 x.1 4 (u5.1 x.1 4 + (yl - ym)), u5.2) → kjY kPP (kQQ Y) (d + 3) 209 57 [some (.ref 71), some (.ref x.1), some (.int x2), some (.int x3), some (.int x4)] [] zz (hfP σ0 B u5 ws nm P x Q (hpE f v)) := by
      intro zz tz ez
      obtain ⟨m1, m2, m3, m4⟩ := hR.wgt ty5 w.2.1.1 w.2.1.2 a1 (u5.1 x.1 4 + (yl - ym))
      rw [← ez] at m1 m2 m3 m4
      have kvz : (zz.2.2.2.1 x.1).1 = 11 := by rw [ez]; exact kv
      refine kjZ_y rfl rfl 5 _ _ _ _ tz ?_
      refine (And.intro (Nat.le_of_ble_eq_true rfl) (And.intro (Or.inl ⟨(Nat.le_of_ble_eq_true rfl), (by assumption)⟩) (And.intro (Nat.le_of_ble_eq_true rfl) (And.intro (Nat.le_of_ble_eq_true rfl) (kjY_mono tz (fun q_ u9 ty9 xu9 h_ => ?_) (k_vset tz m2 m3 m1 (s := x.2.2.1) (v := x.1) (k := 2) (n := n) (w := u5.1 x.1 4 + (yl - ym)) (c := x.2.2.2.2.1) (e := e0) (cs := [q0, q1]) (by rw [List.getElem?_set, if_pos rfl, if_pos hsl]) (by decide) (p := 1) (i := i) (q := q1) rfl hz3 _ _ _ rfl e4))))))
      obtain ⟨rfl, r5, o2, p9, c2⟩ := h_
      intro _ _
      have kv9 : (u9.2.2.2.1 x.1).1 = 11 := xu9.k tz kvz (by decide)
      rw [List.set_set] at r5
      have ewt0 : u5.1 x.1 4 + (yl - ym) = nI (wtC (esF (hpE f v) x.2.2.2.2.2)) := by
        rw [s4, hwk, eyl, eym]
        refine i32_swap ?_
        rw [nI_add, nI_add]
        congr 1
        rw [hwt1, hwt2, eg]
        have e3 := ewS_set1 2 i _ z (z.1, v, z.2.2) hz1
        have e4 : ewt 2 z = 32 + z.1.length + z.2.1.length := rfl
        have e5 : ewt 2 (z.1, v, z.2.2) = 32 + z.1.length + v.length := rfl
        omega
      rw [ewt0, b3] at r5
      have r6 : RST u9 ((P ++ x :: Q).map (fun x => x.2.1)) ((P ++ x :: Q).map (fun x => x.2.2.1) ++ fr) (vs.set x.2.2.1 (x.1, 2, (hpE f v x.2.2.2.2.2.2.2.2.2.2).length, nI (wtC (esF (hpE f v) x.2.2.2.2.2)), x.2.2.2.2.1, endE x.2.2.2.2.2, [], [q0, q1.set i x3.toInt64])) (cSum (P ++ x :: Q)) (tSum (P ++ x :: Q)) := by
        rw [eg, List.length_set, ← hn9]; exact r5
      obtain ⟨q1', q2'⟩ := w.k0.sto ty5 (Ch.tr ty5 (by decide) (m4.va (by decide) (by decide)) (c2.va (by decide) (by decide))) (by decide) (by decide) o2 p9
      refine kjZ_y rfl rfl 2 _ _ _ _ ty9 ?_
      refine And.intro rfl (And.intro (Or.inr (Or.inl ⟨rfl, Or.inl rfl⟩)) ?_)
      refine ⟨⟨_, rfl⟩, q1'.h2 hV hnd hsort b4 (hpE f v) ?_ ?_ r6, q2'⟩
      · rw [eg, List.map_set]
        have e0' : (x.2.2.2.2.2.2.2.2.2.2.map (fun z => z.1)).set i z.1 = x.2.2.2.2.2.2.2.2.2.2.map (fun z => z.1) := by
          refine List.ext_getElem? fun j => ?_
          rw [List.getElem?_set, List.getElem?_map]
          by_cases cj : i = j
          · rw [if_pos cj, if_pos (by rw [List.length_map, ← hn9]; exact hz3), ← cj, hz1]; rfl
          · rw [if_neg cj]
        rw [e0']; exact hid0
      · rw [eg, List.map_set, e3]
        exact hid1.set hk2
    exact go _ ty5' rfl
  · -- it is not
    have c : x4 < 0 := Int32.not_le.mp c
    have hno := hsl9.1.mp c
    have ei := hsl9.2 hno
    have eg : hpE f v x.2.2.2.2.2.2.2.2.2.2 = insL x.2.2.2.2.2.2.2.2.2.2 i (f, v, 0) := by rw [hi9]; exact hpE_no hno
    refine kjZ_y rfl rfl 8 _ _ _ _ ty0 ?_
    refine (And.intro (ty0.k (by decide) rfl) (And.intro (by assumption) (And.intro (Nat.le_of_ble_eq_true rfl) (And.intro (Or.inl ⟨(Nat.le_of_ble_eq_true rfl), (ty0.k (by decide) rfl)⟩) (And.intro (Nat.le_of_ble_eq_true rfl) (And.intro (Nat.le_of_ble_eq_true rfl) (kjY_mono ty0 (fun q_ u1 ty1 xu1 h_ => ?_) (k_growCells ty0 w.2.1.1 w.2.1.2 hR a1 (by decide) (by rfl) hcap2 _ (by rw [s6]; exact nI_1 n)))))))))
    obtain ⟨rfl, r1, ⟨ρ, r2, r3, r4⟩, o1, p1, c1⟩ := h_
    intro _ _
    have kv1 : (u1.2.2.2.1 x.1).1 = 11 := xu1.k ty0 kv (by decide)
    refine kjZ_y rfl rfl 7 _ _ _ _ ty1 ?_
    refine (And.intro (Nat.le_of_ble_eq_true rfl) (And.intro (Or.inl ⟨(Nat.le_of_ble_eq_true rfl), (by assumption)⟩) (And.intro (Nat.le_of_ble_eq_true rfl) (And.intro (Nat.le_of_ble_eq_true rfl) (kjY_mono ty1 (fun q_ u2 ty2 xu2 h_ => ?_) (k_insert2 ty1 o1 p1 r1 a1 rfl (i := i) (by omega) ⟨r2, r3, r4⟩ _ _ _ ei))))))
    obtain ⟨rfl, r5, o2, p2, c2⟩ := h_
    intro _ _
    have kv2 : (u2.2.2.2.1 x.1).1 = 11 := xu2.k ty1 kv1 (by decide)
    have a2 : (vs.set x.2.2.1 (x.1, 2, n + 1, x.2.2.2.1, x.2.2.2.2.1, e0, [], [insL q0 i x2.toInt64, insL q1 i x3.toInt64]))[x.2.2.1]? = some (x.1, 2, n + 1, x.2.2.2.1, x.2.2.2.2.1, e0, [], [insL q0 i x2.toInt64, insL q1 i x3.toInt64]) := by rw [List.getElem?_set, if_pos rfl, if_pos hsl]
    have w4 : u2.1 x.1 4 = x.2.2.2.1 := by
      obtain ⟨_, _, _, _, _, _, _, _, _, _, _, _, _, _, _, hG⟩ := r5
      obtain ⟨_, _, hV4, -⟩ := hG.v a2
      exact hV4.1.2.2.2.2.2.1
    have hw2 : WRD u2 nm := (w.k0.sto ty0 (Ch.tr ty0 (by decide) (c1.va (by decide) (by decide)) (c2.va (by decide) (by decide))) (by decide) (by decide) o2 p2).1.2.2.1.1
    refine kjZ_y rfl rfl 8 _ _ _ _ ty2 ?_
    refine (And.intro (by assumption) (And.intro (ty2.k (by decide) rfl) (And.intro (Nat.le_of_ble_eq_true rfl) (And.intro (Or.inl ⟨(Nat.le_of_ble_eq_true rfl), (ty2.k (by decide) rfl)⟩) (And.intro (Nat.le_of_ble_eq_true rfl) (And.intro (Nat.le_of_ble_eq_true rfl) (kjY_mono ty2 (fun q_ u3 ty3 xu3 h_ => ?_) (k_wlen ty2 hw2 x2))))))))
    obtain ⟨rfl, yl, rfl, ql⟩ := h_
    intro _ _
    have eyl := ql k _ e2 hk
    refine kjZ_y rfl rfl 5 _ _ _ _ ty3 ?_
    refine (And.intro (ty3.k (by decide) rfl) (And.intro (Nat.le_of_ble_eq_true rfl) (And.intro (Or.inl ⟨(Nat.le_of_ble_eq_true rfl), (ty3.k (by decide) rfl)⟩) (And.intro (Nat.le_of_ble_eq_true rfl) (And.intro (Nat.le_of_ble_eq_true rfl) (kjY_mono ty3 (fun q_ u4 ty4 xu4 h_ => ?_) (k_wlen ty3 hw2 x3)))))))
    obtain ⟨rfl, ym, rfl, qm⟩ := h_
    intro _ _
    have eym := qm k2 _ e3 hk2
    refine kjZ_y rfl rfl 3 _ _ _ _ ty4 ?_
    refine (And.intro (by assumption) (And.intro (Or.inl rfl) (fun ty4' => ?_)))
    have go : ∀ z, kTY z → z = (mjIu u4.1 x.1 4 (u4.1 x.1 4 + ((Int8.ofInt 32).toInt32 + yl + ym)), u4.2) → kjY kPP (kQQ Y) (d + 3) 209 39 [some (.ref 71), some (.ref x.1), some (.int x2), some (.int x3), some (.int x4)] [] z (hfP σ0 B u0 ws nm P x Q (hpE f v)) := by
      intro z tz ez
      refine kjZ_y rfl rfl 2 _ _ _ _ tz ?_
      refine And.intro rfl (And.intro (Or.inr (Or.inl ⟨rfl, Or.inr rfl⟩)) ?_)
      obtain ⟨m1, m2, m3, m4⟩ := r5.wgt ty4 o2 p2 a2 (u4.1 x.1 4 + ((Int8.ofInt 32).toInt32 + yl + ym))
      rw [← ez] at m1 m2 m3 m4
      rw [List.set_set] at m1
      have ewt' : u4.1 x.1 4 + ((Int8.ofInt 32).toInt32 + yl + ym) = nI (wtC (esF (hpE f v) x.2.2.2.2.2)) := by
        rw [w4, hwk, eyl, eym, show (Int8.ofInt 32).toInt32 = nI 32 by decide, nI_add, nI_add, nI_add]
        congr 1
        rw [hwt1, hwt2, eg, ewS_ins]; rfl
      rw [ewt', b3] at m1
      have r6 : RST z ((P ++ x :: Q).map (fun x => x.2.1)) ((P ++ x :: Q).map (fun x => x.2.2.1) ++ fr) (vs.set x.2.2.1 (x.1, 2, (hpE f v x.2.2.2.2.2.2.2.2.2.2).length, nI (wtC (esF (hpE f v) x.2.2.2.2.2)), x.2.2.2.2.1, endE x.2.2.2.2.2, [], [insL q0 i x2.toInt64, insL q1 i x3.toInt64])) (cSum (P ++ x :: Q)) (tSum (P ++ x :: Q)) := by
        rw [eg, insL_len, ← hn9]; exact m1
      obtain ⟨q1', q2'⟩ := w.k0.sto ty0 (Ch.tr ty0 (by decide) (Ch.tr ty0 (by decide) (c1.va (by decide) (by decide)) (c2.va (by decide) (by decide))) (m4.va (by decide) (by decide))) (by decide) (by decide) m2 m3
      refine ⟨⟨_, rfl⟩, q1'.h2 hV hnd hsort b4 (hpE f v) ?_ ?_ r6, q2'⟩
      · rw [eg, map_insL, e2]
        exact hid0.ins hk (by rw [List.length_map, ← hn9]; exact hil)
      · rw [eg, map_insL, e3]
        exact hid1.ins hk2 (by rw [List.length_map, ← hn9]; exact hil)
    exact go _ ty4' rfl
end KMEM2
