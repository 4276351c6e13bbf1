/-! Orders: a member's score becomes another one. -/
section KORESC0
variable {Y : Nat → MethodName × ByteArray} {d : Nat} {σ : kS}
theorem k_removeS2 (ty : kTY σ) (ow : OWN σ) (po : POT σ) {il sl : List Nat} {vs : List VR} {M T : Int32} (h : RST σ il sl vs M T) {s v k n : Nat} {w c : Int32} {e : Int64} {q0 q1 q2 q3 : List Int64} (hs : vs[s]? = some (v, k, n, w, c, e, [], [q0, q1, q2, q3])) (hk : k = 4) {i j : Nat} (hi : i + 1 ≤ n) (hj : j + 1 ≤ n) (x1 x2 : Int32) (e1 : x1 = nI i) (e2 : x2 = nI j) :
    kjY kPP (kQQ Y) (d + 2) 125 0 (mjL0 3 [.ref v, .int x1, .int x2]) [] σ (fun r u => vuP σ il sl (vs.set s (v, k, n - 1, w, c, e, [], [cutL q0 i 1, cutL q1 j 1, cutL q2 i 1, cutL q3 j 1])) M T r u ∧ ∃ ρ, u.1 v 8 = nI ρ ∧ n ≤ ρ ∧ ρ < 2 ^ 30) := by
  obtain ⟨ri, rs, rh, NK, rt, NT, rn, Nn, te, rc, NC, rm, Nm, ce, ls, hG⟩ := h
  obtain ⟨l, hl, hV, g1, g2, g3, g4, g5, g6, g7⟩ := hG.v hs
  have fc := hG.2.2.1.1.1
  have kc := hG.2.2.1.1.2
  obtain ⟨⟨a1, a2, a3, a4, a5, a6, a7⟩, ⟨b1, b2, b3⟩, c1, c2, c3⟩ := hV
  have a1 : σ.2.2.2.1 v = (11, 0) := a1
  have a3 : σ.1 v 1 = nI k := a3
  have b1 : σ.1 v 6 = nI n := b1
  have b2 : σ.1 v 7 = nI l.1 := b2
  have b3 : σ.1 v 8 = nI l.2 := b3
  have g3 : n ≤ 131072 := g3
  have c1 : n ≤ l.2 := c1
  have kv : (σ.2.2.2.1 v).1 = 11 := by rw [a1]
  have hk0 : ¬ k = 0 := by omega
  have hp1 : pts k = 4 := by rw [hk]; rfl
  obtain ⟨d1, d2, d3, d4⟩ := c3 hk0
  have d3r : l.1 + pts k * l.2 ≤ ce ∨ (l.2 = 0 ∧ pts k * l.2 = 0 ∧ l.1 ≤ (σ.2.2.2.1 rc).2) := d3
  have d3 : l.1 + pts k * l.2 ≤ NC := by
    have d3s : l.1 + pts k * l.2 ≤ ce ∨ (l.2 = 0 ∧ pts k * l.2 = 0 ∧ l.1 ≤ NC) := by rw [kc] at d3r; exact d3r
    omega
  rw [hp1] at d3
  have hrcv : ¬ rc = v := fun z => by rw [z, a1] at kc; exact absurd kc (by simp)
  refine kjZ_y rfl rfl 2 _ _ _ _ ty ?_
  refine And.intro (fun o1 => ?_) (fun o1 => ?_)
  · exact absurd (show x1 < 0 from o1) (by rw [e1]; exact nI_n0 (by omega))
  refine kjZ_y rfl rfl 4 _ _ _ _ ty ?_
  refine (And.intro (by assumption) (And.intro (fun o2 => ?_) (fun o2 => ?_)))
  · exact absurd (show σ.1 v 6 ≤ x1 from o2) (by rw [e1, b1, nle (by omega) (by omega)]; omega)
  refine kjZ_y rfl rfl 2 _ _ _ _ ty ?_
  refine And.intro (fun o3 => ?_) (fun o3 => ?_)
  · exact absurd (show x2 < 0 from o3) (by rw [e2]; exact nI_n0 (by omega))
  refine kjZ_y rfl rfl 4 _ _ _ _ ty ?_
  refine (And.intro (by assumption) (And.intro (fun o4 => ?_) (fun o4 => ?_)))
  rotate_left
  · exact absurd (show x2 < σ.1 v 6 from by rw [b1, e2, nlt (by omega) (by omega)]; omega) o4
  refine kjZ_y rfl rfl 5 _ _ _ _ ty ?_
  refine (And.intro (Nat.le_of_ble_eq_true rfl) (And.intro (Or.inl ⟨(Nat.le_of_ble_eq_true rfl), (by assumption)⟩) (And.intro (Nat.le_of_ble_eq_true rfl) (And.intro (Nat.le_of_ble_eq_true rfl) (kjY_mono ty (fun q_ u1 ty1 xu1 h_ => ?_) (k_cutv (p := 0) ty kv fc kc b1 b2 b3 hi g7 (by omega) _ _ _ rfl e1 rfl))))))
  obtain ⟨rfl, p1_1, p2_1, p3_1, p4_1, p5_1, p6_1⟩ := h_
  intro _ _
  have kv1 : (u1.2.2.2.1 v).1 = 11 := by rw [p2_1]; exact kv
  have fc1 : u1.2.2.1 59 10 = some rc := by rw [p2_1]; exact fc
  have kc1 : u1.2.2.2.1 rc = (23, NC) := by rw [p2_1]; exact kc
  have b1_1 : u1.1 v 6 = nI n := by rw [p1_1]; exact b1
  have b2_1 : u1.1 v 7 = nI l.1 := by rw [p1_1]; exact b2
  have b3_1 : u1.1 v 8 = nI l.2 := by rw [p1_1]; exact b3
  refine kjZ_y rfl rfl 5 _ _ _ _ ty1 ?_
  refine (And.intro (Nat.le_of_ble_eq_true rfl) (And.intro (Or.inl ⟨(Nat.le_of_ble_eq_true rfl), (by assumption)⟩) (And.intro (Nat.le_of_ble_eq_true rfl) (And.intro (Nat.le_of_ble_eq_true rfl) (kjY_mono ty1 (fun q_ u2 ty2 xu2 h_ => ?_) (k_cutv (p := 2) ty1 kv1 fc1 kc1 b1_1 b2_1 b3_1 hi g7 (by omega) _ _ _ rfl e1 rfl))))))
  obtain ⟨rfl, p1_2, p2_2, p3_2, p4_2, p5_2, p6_2⟩ := h_
  intro _ _
  have kv2 : (u2.2.2.2.1 v).1 = 11 := by rw [p2_2, p2_1]; exact kv
  have fc2 : u2.2.2.1 59 10 = some rc := by rw [p2_2, p2_1]; exact fc
  have kc2 : u2.2.2.2.1 rc = (23, NC) := by rw [p2_2, p2_1]; exact kc
  have b1_2 : u2.1 v 6 = nI n := by rw [p1_2, p1_1]; exact b1
  have b2_2 : u2.1 v 7 = nI l.1 := by rw [p1_2, p1_1]; exact b2
  have b3_2 : u2.1 v 8 = nI l.2 := by rw [p1_2, p1_1]; exact b3
  refine kjZ_y rfl rfl 5 _ _ _ _ ty2 ?_
  refine (And.intro (Nat.le_of_ble_eq_true rfl) (And.intro (Or.inl ⟨(Nat.le_of_ble_eq_true rfl), (by assumption)⟩) (And.intro (Nat.le_of_ble_eq_true rfl) (And.intro (Nat.le_of_ble_eq_true rfl) (kjY_mono ty2 (fun q_ u3 ty3 xu3 h_ => ?_) (k_cutv (p := 1) ty2 kv2 fc2 kc2 b1_2 b2_2 b3_2 hj g7 (by omega) _ _ _ rfl e2 rfl))))))
  obtain ⟨rfl, p1_3, p2_3, p3_3, p4_3, p5_3, p6_3⟩ := h_
  intro _ _
  have kv3 : (u3.2.2.2.1 v).1 = 11 := by rw [p2_3, p2_2, p2_1]; exact kv
  have fc3 : u3.2.2.1 59 10 = some rc := by rw [p2_3, p2_2, p2_1]; exact fc
  have kc3 : u3.2.2.2.1 rc = (23, NC) := by rw [p2_3, p2_2, p2_1]; exact kc
  have b1_3 : u3.1 v 6 = nI n := by rw [p1_3, p1_2, p1_1]; exact b1
  have b2_3 : u3.1 v 7 = nI l.1 := by rw [p1_3, p1_2, p1_1]; exact b2
  have b3_3 : u3.1 v 8 = nI l.2 := by rw [p1_3, p1_2, p1_1]; exact b3
  refine kjZ_y rfl rfl 5 _ _ _ _ ty3 ?_
  refine (And.intro (Nat.le_of_ble_eq_true rfl) (And.intro (Or.inl ⟨(Nat.le_of_ble_eq_true rfl), (by assumption)⟩) (And.intro (Nat.le_of_ble_eq_true rfl) (And.intro (Nat.le_of_ble_eq_true rfl) (kjY_mono ty3 (fun q_ u4 ty4 xu4 h_ => ?_) (k_cutv (p := 3) ty3 kv3 fc3 kc3 b1_3 b2_3 b3_3 hj g7 (by omega) _ _ _ rfl e2 rfl))))))
  obtain ⟨rfl, p1_4, p2_4, p3_4, p4_4, p5_4, p6_4⟩ := h_
  intro _ _
  have kv4 : (u4.2.2.2.1 v).1 = 11 := by rw [p2_4, p2_3, p2_2, p2_1]; exact kv
  refine kjZ_y rfl rfl 6 _ _ _ _ ty4 ?_
  refine (And.intro (by assumption) (And.intro (by assumption) (And.intro (Or.inl rfl) (fun ty4' => ?_))))
  have e9 : u4.1 v 6 - Int32.ofInt 1 = nI (n - 1) := by rw [p1_4, p1_3, p1_2, p1_1, b1]; exact pk_sub (b := 1) (by omega)
  have go : ∀ z2, kTY z2 → z2 = (mjIu u4.1 v 6 (u4.1 v 6 - Int32.ofInt 1), u4.2) → kjY kPP (kQQ Y) (d + 2) 125 39 [some (.ref v), some (.int x1), some (.int x2)] [] z2 (fun r u => vuP σ il sl (vs.set s (v, k, n - 1, w, c, e, [], [cutL q0 i 1, cutL q1 j 1, cutL q2 i 1, cutL q3 j 1])) M T r u ∧ ∃ ρ, u.1 v 8 = nI ρ ∧ n ≤ ρ ∧ ρ < 2 ^ 30) := by
    intro z2 tz ez
    rw [e9] at ez
    refine kjZ_y rfl rfl 1 _ _ _ _ tz ?_
    refine And.intro rfl (And.intro rfl ?_)
    have st : Vst v rc σ z2 := (((((row_st p1_1 p2_1 p3_1).tr (row_st p1_2 p2_2 p3_2)).tr (row_st p1_3 p2_3 p3_3)).tr (row_st p1_4 p2_4 p3_4)).tr (size_st ez))
    obtain ⟨y1, y2, y3⟩ := st.all ty ow po a1 fc kc
    have eI : ∀ x, z2.1 v x = if x = 6 then nI (n - 1) else σ.1 v x := fun x => by
      rw [ez]; show mjIu u4.1 v 6 _ v x = _
      rw [mjIu_s, p1_4, p1_3, p1_2, p1_1]
    have eL : z2.2.1 = u4.2.1 := by rw [ez]
    have eD2 : z2.2.2.2.1 = σ.2.2.2.1 := congrArg (fun t => t.2.1) st.1
    have bq0 : wl (σ.2.1 rc) (l.1 + 0 * l.2) n = q0 := (d4 0 q0 rfl)
    have wq0 : wl (z2.2.1 rc) (l.1 + 0 * l.2) (n - 1) = cutL q0 i 1 := by
      rw [eL]; exact (wl_same fun j h1 h2 => (((p4_4 j (by omega)).trans (p4_3 j (by omega))).trans (p4_2 j (by omega)))).trans (wl_cut bq0 hi (fun j _ hj => p4_1 j hj) (fun j h1 h2 => p5_1 j h1 h2))
    have bq1 : wl (u2.2.1 rc) (l.1 + 1 * l.2) n = q1 := (wl_same fun j h1 h2 => ((p4_2 j (by omega)).trans (p6_1 j (by omega)))).trans (d4 1 q1 rfl)
    have wq1 : wl (z2.2.1 rc) (l.1 + 1 * l.2) (n - 1) = cutL q1 j 1 := by
      rw [eL]; exact (wl_same fun j h1 h2 => (p4_4 j (by omega))).trans (wl_cut bq1 hj (fun j _ hj => p4_3 j hj) (fun j h1 h2 => p5_3 j h1 h2))
    have bq2 : wl (u1.2.1 rc) (l.1 + 2 * l.2) n = q2 := (wl_same fun j h1 h2 => (p6_1 j (by omega))).trans (d4 2 q2 rfl)
    have wq2 : wl (z2.2.1 rc) (l.1 + 2 * l.2) (n - 1) = cutL q2 i 1 := by
      rw [eL]; exact (wl_same fun j h1 h2 => ((p4_4 j (by omega)).trans (p6_3 j (by omega)))).trans (wl_cut bq2 hi (fun j _ hj => p4_2 j hj) (fun j h1 h2 => p5_2 j h1 h2))
    have bq3 : wl (u3.2.1 rc) (l.1 + 3 * l.2) n = q3 := (wl_same fun j h1 h2 => (((p6_3 j (by omega)).trans (p6_2 j (by omega))).trans (p6_1 j (by omega)))).trans (d4 3 q3 rfl)
    have wq3 : wl (z2.2.1 rc) (l.1 + 3 * l.2) (n - 1) = cutL q3 j 1 := by
      rw [eL]; exact (wl_cut bq3 hj (fun j _ hj => p4_4 j hj) (fun j h1 h2 => p5_4 j h1 h2))
    refine ⟨⟨rfl, ?_, y1, y2, y3⟩, l.2, (eI 8).trans b3, by omega, by omega⟩
    refine hG.upd ty hs hl rfl rfl st (fun j z => ?_) ?_
    · rw [eL]
      have z : ¬ (l.1 ≤ j ∧ j < l.1 + pts k * l.2) := fun y => z ⟨hk0, y⟩
      rw [hp1] at z
      by_cases z1 : j < l.1
      · exact ((((p4_4 j (by omega)).trans (p4_3 j (by omega))).trans (p4_2 j (by omega))).trans (p4_1 j (by omega)))
      · exact ((((p6_4 j (by omega)).trans (p6_3 j (by omega))).trans (p6_2 j (by omega))).trans (p6_1 j (by omega)))
    · refine ⟨⟨by rw [eD2]; exact a1, a2, (eI 1).trans a3, (eI 2).trans a4, ?_, (eI 4).trans a6, (eI 5).trans a7⟩, ⟨(eI 6), (eI 7).trans b2, (eI 8).trans b3⟩, (show n - 1 ≤ l.2 by omega), fun z => absurd z hk0, fun _ => ⟨rfl, Or.inl (by rw [hp1]; rfl), by rw [eD2]; exact d3r, fun p q' hp => ?_⟩⟩
      · rw [eL]; rw [p3_4 v (fun z => hrcv z.symm), p3_3 v (fun z => hrcv z.symm), p3_2 v (fun z => hrcv z.symm), p3_1 v (fun z => hrcv z.symm)]; exact a5
      · have hp0 : p < 4 := (List.getElem?_eq_some_iff.mp hp).1
        have hp0 : p = 0 ∨ p = 1 ∨ p = 2 ∨ p = 3 := by omega
        rcases hp0 with hp0 | hp0 | hp0 | hp0
        · rw [hp0] at hp ⊢; cases hp; exact wq0
        · rw [hp0] at hp ⊢; cases hp; exact wq1
        · rw [hp0] at hp ⊢; cases hp; exact wq2
        · rw [hp0] at hp ⊢; cases hp; exact wq3
  exact go _ ty4' rfl
end KORESC0
section KORESC
variable {Y : Nat → MethodName × ByteArray} {d : Nat} {σ0 σ u : kS} {B ws nm nm' : List (List Int32)} {ks : List KC}
set_option maxHeartbeats 1000000 in
theorem kx_oresc (ty : kTY σ) {P Q : List KC} {x : KC} (w : KWd σ0 B σ ws nm (P ++ x :: Q)) (hsort : x.2.2.2.2.2.2.1 = 4) (hwk : wkO x) (hZ : ZP x.2.2.2.2.2.2.2.2.2.2) {v : List Int32} {k : Nat} (hk : nm[k]? = some v) (hyes : nmF v x.2.2.2.2.2.2.2.2.2.2 = true) (x2 : Int32) (e2 : x2 = nI (nmC v x.2.2.2.2.2.2.2.2.2.2)) (sc : Int64) :
    kjY kPP (kQQ Y) (d + 3) 233 0 (mjL0 6 [.ref 75, .ref x.1, .int x2, .long sc]) [] σ (fun r u => r = none ∧ ∃ j z j2, x.2.2.2.2.2.2.2.2.2.2[j]? = some z ∧ z.1 = v ∧ lpP sc v (cutL x.2.2.2.2.2.2.2.2.2.2 j 1) j2 ∧ KWd σ0 B u ws nm (P ++ mkK x (esF (fun es => insL (cutL es j 1) j2 (v, [], sc)) x.2.2.2.2.2) :: Q) ∧ SCl scA σ u) := by
  obtain ⟨fr, vs, e0, q0, q1, q2, q3, fs, hR, hV, a1, ⟨b3, b4⟩, ⟨c1, c3, c0, c2, hp, hsp⟩, hd, s6, hn6, s4⟩ := w.o4 hsort
  have hnd := hR.nd
  have hw := w.2.2.1.1
  have kv : (σ.2.2.2.1 x.1).1 = 11 := by rw [hd]
  have hsl := (List.getElem?_eq_some_iff.mp a1).1
  have he : ∀ z ∈ fs, B8 z.1 := fun z hz => by
    obtain ⟨i, hi, g⟩ := List.mem_iff_getElem.mp hz
    obtain ⟨k9, -, g2⟩ := c0.2 i z.1 (by rw [List.getElem?_map, List.getElem?_eq_getElem hi, g]; rfl)
    exact hw.b8 ty g2
  have ec : nmC v x.2.2.2.2.2.2.2.2.2.2 = skI v fs := by rw [skI_cnt hsp]; exact (hp.countP_eq _).symm
  have hyt : skT v fs = true := by
    rw [skT_any hsp (hw.b8 ty hk) he]
    have : nmF v fs = nmF v x.2.2.2.2.2.2.2.2.2.2 := by unfold nmF; exact hp.any_eq
    rw [this]; exact hyes
  rw [ec] at e2
  have hfl := hp.length_eq
  obtain ⟨z, hz1, hz2, hz3⟩ := skT_at hyt
  have hzv : z.1 = v := cmpW_eq _ _ (he z (List.mem_of_getElem? hz1)) (hw.b8 ty hk) hz2
  generalize hi9 : skI v fs = i at e2 hz1 hz3
  obtain ⟨j, hj, gj⟩ := List.mem_iff_getElem.mp (hp.mem_iff.mp (List.mem_of_getElem? hz1))
  have hjz : x.2.2.2.2.2.2.2.2.2.2[j]? = some z := by rw [List.getElem?_eq_getElem hj, gj]
  obtain ⟨ko, g1, g2⟩ := c0.2 i z.1 (by rw [List.getElem?_map, hz1]; rfl)
  have g3 : q2[i]? = some z.2.2 := by rw [c2, List.getElem?_map, hz1]; rfl
  refine kjZ_y rfl rfl 3 _ _ _ _ ty ?_
  refine (And.intro (Nat.le_of_ble_eq_true rfl) (And.intro (Or.inl ⟨(Nat.le_of_ble_eq_true rfl), (by assumption)⟩) (And.intro (Nat.le_of_ble_eq_true rfl) (And.intro (Nat.le_of_ble_eq_true rfl) (kjY_mono ty (fun q_ u1 ty1 xu1 h_ => ?_) (k_vat ty hR a1 x2))))))
  obtain ⟨rfl, yo, rfl, qo⟩ := h_
  intro _ _
  have eyo : yo = nI ko := by rw [qo i q0 _ e2 (show i < x.2.2.2.2.2.2.2.2.2.2.length by omega) (show ¬ (4 : Nat) = 0 by decide) rfl g1]; exact i64_32 ko
  refine kjZ_y rfl rfl 8 _ _ _ _ ty1 ?_
  refine (And.intro (Nat.le_of_ble_eq_true rfl) (And.intro (Nat.le_of_ble_eq_true rfl) (And.intro (Or.inl ⟨(Nat.le_of_ble_eq_true rfl), (by assumption)⟩) (And.intro (Nat.le_of_ble_eq_true rfl) (And.intro (Nat.le_of_ble_eq_true rfl) (kjY_mono ty1 (fun q_ u2 ty2 xu2 h_ => ?_) (k_vsc ty1 hR a1 x2)))))))
  obtain ⟨rfl, ys, rfl, qs⟩ := h_
  intro _ _
  have eys : ys = z.2.2 := qs i q2 _ e2 (show i < x.2.2.2.2.2.2.2.2.2.2.length by omega) (show ¬ (4 : Nat) = 0 by decide) rfl g3
  subst eys
  refine kjZ_y rfl rfl 2 _ _ _ _ ty2 ?_
  refine (And.intro (Nat.le_of_ble_eq_true rfl) (And.intro (Or.inl ⟨(Nat.le_of_ble_eq_true rfl), (ty2.k (by decide) rfl)⟩) (And.intro (Nat.le_of_ble_eq_true rfl) (And.intro (Nat.le_of_ble_eq_true rfl) (kjY_mono ty2 (fun q_ u3 ty3 xu3 h_ => ?_) (k_linePlace ty2 hw hR a1 (show ¬ (4 : Nat) = 0 by decide) (q1 := q1) (q3 := q3) rfl rfl c1 c3 rfl (by omega) hZ g2 z.2.2 _ eyo))))))
  obtain ⟨rfl, j', rfl, hj'⟩ := h_
  intro _ _
  have ej : j' = j := lpP_u hj' (lpP_at hZ hjz)
  subst ej
  refine kjZ_y rfl rfl 1 _ _ _ _ ty3 ?_
  refine (And.intro (Nat.le_of_ble_eq_true rfl) (And.intro (Or.inl ⟨(Nat.le_of_ble_eq_true rfl), (by assumption)⟩) (And.intro (Nat.le_of_ble_eq_true rfl) (And.intro (Nat.le_of_ble_eq_true rfl) (kjY_mono ty3 (fun q_ u4 ty4 xu4 h_ => ?_) (k_removeS2 ty3 w.2.1.1 w.2.1.2 hR a1 rfl (i := i) (j := j') (by omega) hj _ _ e2 rfl))))))
  obtain ⟨⟨rfl, r5, o2, p2, d2⟩, ρ, ρ1, ρ2, ρ3⟩ := h_
  intro _ _
  have kv4 : (u4.2.2.2.1 x.1).1 = 11 := xu4.k ty3 kv (by decide)
  have hw4 : WRD u4 nm := (w.k0.sto ty3 d2 (by decide) (by decide) o2 p2).1.2.2.1.1
  have a2 : (vs.set x.2.2.1 (x.1, 4, x.2.2.2.2.2.2.2.2.2.2.length - 1, x.2.2.2.1, x.2.2.2.2.1, e0, [], [cutL q0 i 1, cutL q1 j' 1, cutL q2 i 1, cutL q3 j' 1]))[x.2.2.1]? = some (x.1, 4, x.2.2.2.2.2.2.2.2.2.2.length - 1, x.2.2.2.1, x.2.2.2.2.1, e0, [], [cutL q0 i 1, cutL q1 j' 1, cutL q2 i 1, cutL q3 j' 1]) := by rw [List.getElem?_set, if_pos rfl, if_pos hsl]
  have k1' : IDL nm (cutL q1 j' 1) ((cutL x.2.2.2.2.2.2.2.2.2.2 j' 1).map (fun z => z.1)) := by rw [map_cutL]; exact c1.cut (by rw [List.length_map]; omega)
  have k3' : cutL q3 j' 1 = (cutL x.2.2.2.2.2.2.2.2.2.2 j' 1).map (fun z => z.2.2) := by rw [map_cutL, c3]
  have k0' : IDL nm (cutL q0 i 1) ((cutL fs i 1).map (fun z => z.1)) := by rw [map_cutL]; exact c0.cut (by rw [List.length_map]; omega)
  have k2' : cutL q2 i 1 = (cutL fs i 1).map (fun z => z.2.2) := by rw [map_cutL, c2]
  have hcl : (cutL x.2.2.2.2.2.2.2.2.2.2 j' 1).length = x.2.2.2.2.2.2.2.2.2.2.length - 1 := cutL_len (by omega)
  have hcf : (cutL fs i 1).length = x.2.2.2.2.2.2.2.2.2.2.length - 1 := by rw [cutL_len (by omega), hfl]
  have hko : nm[ko]? = some v := by rw [← hzv]; exact g2
  refine kjZ_y rfl rfl 7 _ _ _ _ ty4 ?_
  refine (And.intro (Nat.le_of_ble_eq_true rfl) (And.intro (Or.inl ⟨(Nat.le_of_ble_eq_true rfl), (ty4.k (by decide) rfl)⟩) (And.intro (Nat.le_of_ble_eq_true rfl) (And.intro (Nat.le_of_ble_eq_true rfl) (kjY_mono ty4 (fun q_ u5 ty5 xu5 h_ => ?_) (k_linePlace ty4 hw4 r5 a2 (show ¬ (4 : Nat) = 0 by decide) (q1 := cutL q1 j' 1) (q3 := cutL q3 j' 1) rfl rfl k1' k3' hcl (by omega) (ZP_cut hZ _ _) hko sc _ eyo))))))
  obtain ⟨rfl, j2, rfl, hj2⟩ := h_
  intro _ _
  have hj2l := hj2.1
  refine kjZ_y rfl rfl 3 _ _ _ _ ty5 ?_
  refine (And.intro (Nat.le_of_ble_eq_true rfl) (And.intro (Or.inl ⟨(Nat.le_of_ble_eq_true rfl), (by assumption)⟩) (And.intro (Nat.le_of_ble_eq_true rfl) (And.intro (Nat.le_of_ble_eq_true rfl) (kjY_mono ty5 (fun q_ u6 ty6 xu6 h_ => ?_) (k_insertS ty5 o2 p2 r5 a2 rfl (i := i) (j := j2) (by omega) (by omega) ⟨ρ1, by omega, ρ3⟩ _ _ _ _ e2 rfl))))))
  obtain ⟨rfl, r6, o3, p3, d3⟩ := h_
  intro _ _
  rw [List.set_set] at r6
  refine kjZ_y rfl rfl 1 _ _ _ _ ty6 ?_
  refine And.intro rfl (And.intro rfl ?_)
  obtain ⟨hwt1, hwt2⟩ := wtC_4 hsort (fun es => insL (cutL es j' 1) j2 (v, [], sc))
  have ew := ewS_cut1 4 j' _ z hjz
  have ewt0 : x.2.2.2.1 = nI (wtC (esF (fun es => insL (cutL es j' 1) j2 (v, [], sc)) x.2.2.2.2.2)) := by
    rw [hwk]; congr 1
    rw [hwt1, hwt2, ewS_ins]
    have e4 : ewt 4 z = 48 + z.1.length := rfl
    have e5 : ewt 4 (v, [], sc) = 48 + v.length := rfl
    rw [hzv] at e4; omega
  rw [b3] at r6
  have m6 : RST u6 ((P ++ x :: Q).map (fun x => x.2.1)) ((P ++ x :: Q).map (fun x => x.2.2.1) ++ fr) (vs.set x.2.2.1 (x.1, 4, (insL (cutL x.2.2.2.2.2.2.2.2.2.2 j' 1) j2 ((v, [], sc) : AE)).length, nI (wtC (esF (fun es => insL (cutL es j' 1) j2 (v, [], sc)) x.2.2.2.2.2)), x.2.2.2.2.1, endE x.2.2.2.2.2, [], [insL (cutL q0 i 1) i yo.toInt64, insL (cutL q1 j' 1) j2 yo.toInt64, insL (cutL q2 i 1) i sc, insL (cutL q3 j' 1) j2 sc])) (cSum (P ++ x :: Q)) (tSum (P ++ x :: Q)) := by
    rw [insL_len, hcl, ← ewt0]; exact r6
  obtain ⟨k1, k2⟩ := w.k0.sto ty3 (Ch.tr ty3 (by decide) d2 d3) (by decide) (by decide) o3 p3
  refine ⟨rfl, j', z, j2, hjz, hzv, hj2, k1.o4 hV hnd hsort b4 (fun es => insL (cutL es j' 1) j2 (v, [], sc)) (fs := insL (cutL fs i 1) i (v, [], sc)) ?_ ?_ ?_ ?_ ?_ ?_ m6, k2⟩
  · rw [map_insL, eyo]; exact k1'.ins hko (by rw [List.length_map]; exact hj2l)
  · rw [map_insL, k3']
  · rw [map_insL, eyo]; exact k0'.ins hko (by rw [List.length_map]; omega)
  · rw [map_insL, k2']
  · exact ((insL_perm _ _ _).trans (List.Perm.cons _ (List.Perm.cons_inv (((cutL_perm hz1).symm.trans hp).trans (cutL_perm hjz))))).trans (insL_perm _ _ _).symm
  · refine SP_mp (a := fs) ?_ hsp
    rw [map_insL, map_cutL]
    refine List.ext_getElem? fun q => ?_
    rw [insL_get (by rw [cutL_len (by rw [List.length_map]; omega), List.length_map]; omega)]
    unfold cutL
    have hv9 : (fs.map (fun z => z.1))[i]? = some v := by rw [List.getElem?_map, hz1]; show some z.1 = _; rw [hzv]
    have hil : i < (fs.map (fun z : AE => z.1)).length := by rw [List.length_map]; omega
    have hti : ((fs.map (fun z : AE => z.1)).take i).length = i := by rw [List.length_take]; omega
    by_cases y : q < i
    · rw [if_pos y, List.getElem?_append_left (by omega), List.getElem?_take_of_lt y]
    · rw [if_neg y]
      by_cases y2 : q = i
      · rw [if_pos y2, y2, hv9]
      · rw [if_neg y2, List.getElem?_append_right (by omega), hti, List.getElem?_drop]
        congr 1; omega
end KORESC
