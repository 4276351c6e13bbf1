/-! Value: pairs, scored members; cells go; a word becomes another. -/
theorem wl_same {f g : Nat → Int64} {b n : Nat} (h : ∀ j, b ≤ j → j < b + n → g j = f j) : wl g b n = wl f b n := wl_congr fun k hk => h _ (by omega) (by omega)
section KVINS2
variable {Y : Nat → MethodName × ByteArray} {d : Nat} {σ u : kS}

theorem k_insert2 (ty : kTY σ) (ow : OWN σ) (po : POT σ) {il sl : List Nat} {vs : List VR} {M T : Int32} (h : RST σ il sl vs M T) {s v k n : Nat} {w c : Int32} {e : Int64} {q0 q1 : List Int64} (hs : vs[s]? = some (v, k, n, w, c, e, [], [q0, q1])) (hk : k = 2) {i ρ : Nat} (hi : i ≤ n) (hρ : σ.1 v 8 = nI ρ ∧ n < ρ ∧ ρ < 2 ^ 30) (x1 x2 x3 : Int32) (e1 : x1 = nI i) :
    kjY kPP (kQQ Y) (d + 2) 122 0 (mjL0 4 [.ref v, .int x1, .int x2, .int x3]) [] σ (vuP σ il sl (vs.set s (v, k, n + 1, w, c, e, [], [insL q0 i x2.toInt64, insL q1 i x3.toInt64])) M T) := by
  obtain ⟨ri, rs, rh, NK, rt, NT, rn, Nn, te, rc, NC, rm, Nm, ce, ls, hG⟩ := h
  obtain ⟨l, hl, hV, g1, g2, g3, g4, g5, g6, g7⟩ := hG.v hs
  have fc := hG.2.2.1.1.1
  have kc := hG.2.2.1.1.2
  obtain ⟨⟨a1, a2, a3, a4, a5, a6, a7⟩, ⟨b1, b2, b3⟩, c1, c2, c3⟩ := hV
  have a1 : σ.2.2.2.1 v = (11, 0) := a1
  have a3 : σ.1 v 1 = nI k := a3
  have b1 : σ.1 v 6 = nI n := b1
  have b2 : σ.1 v 7 = nI l.1 := b2
  have b3 : σ.1 v 8 = nI l.2 := b3
  have g3 : n ≤ 131072 := g3
  have c1 : n ≤ l.2 := c1
  have kv : (σ.2.2.2.1 v).1 = 11 := by rw [a1]
  have hk0 : ¬ k = 0 := by omega
  have hp1 : pts k = 2 := by rw [hk]; rfl
  obtain ⟨d1, d2, d3, d4⟩ := c3 hk0
  have d3r : l.1 + pts k * l.2 ≤ ce ∨ (l.2 = 0 ∧ pts k * l.2 = 0 ∧ l.1 ≤ (σ.2.2.2.1 rc).2) := d3
  have d3 : l.1 + pts k * l.2 ≤ NC := by
    have d3s : l.1 + pts k * l.2 ≤ ce ∨ (l.2 = 0 ∧ pts k * l.2 = 0 ∧ l.1 ≤ NC) := by rw [kc] at d3r; exact d3r
    omega
  rw [hp1] at d3
  have hrcv : ¬ rc = v := fun z => by rw [z, a1] at kc; exact absurd kc (by simp)
  have hnl : n < l.2 := by
    have z := hρ.1.symm.trans b3
    have := (nI_eq (by omega) (by omega)).mp z; omega
  refine kjZ_y rfl rfl 2 _ _ _ _ ty ?_
  refine And.intro (fun o1 => ?_) (fun o1 => ?_)
  · exact absurd (show x1 < 0 from o1) (by rw [e1]; exact nI_n0 (by omega))
  refine kjZ_y rfl rfl 4 _ _ _ _ ty ?_
  refine (And.intro (by assumption) (And.intro (fun o2 => ?_) (fun o2 => ?_)))
  · exact absurd (show σ.1 v 6 < x1 from o2) (by rw [e1, b1, nlt (by omega) (by omega)]; omega)
  refine kjZ_y rfl rfl 5 _ _ _ _ ty ?_
  refine (And.intro (by assumption) (And.intro (by assumption) (And.intro (fun o3 => ?_) (fun o3 => ?_))))
  rotate_left
  · exact absurd (show σ.1 v 6 < σ.1 v 8 from by rw [b1, b3, nlt (by omega) (by omega)]; exact hnl) o3
  refine kjZ_y rfl rfl 6 _ _ _ _ ty ?_
  refine (And.intro (Nat.le_of_ble_eq_true rfl) (And.intro (Or.inl ⟨(Nat.le_of_ble_eq_true rfl), (by assumption)⟩) (And.intro (Nat.le_of_ble_eq_true rfl) (And.intro (Nat.le_of_ble_eq_true rfl) (kjY_mono ty (fun q_ u1 ty1 xu1 h_ => ?_) (k_put (p := 0) ty kv fc kc b1 b2 b3 hi g7 (by omega) _ _ x2.toInt64 rfl e1))))))
  obtain ⟨rfl, p1_1, p2_1, p3_1, p4_1, p5_1, p6_1, p7_1⟩ := h_
  intro _ _
  have kv1 : (u1.2.2.2.1 v).1 = 11 := by rw [p2_1]; exact kv
  have fc1 : u1.2.2.1 59 10 = some rc := by rw [p2_1]; exact fc
  have kc1 : u1.2.2.2.1 rc = (23, NC) := by rw [p2_1]; exact kc
  have b1_1 : u1.1 v 6 = nI n := by rw [p1_1]; exact b1
  have b2_1 : u1.1 v 7 = nI l.1 := by rw [p1_1]; exact b2
  have b3_1 : u1.1 v 8 = nI l.2 := by rw [p1_1]; exact b3
  refine kjZ_y rfl rfl 4 _ _ _ _ ty1 ?_
  refine (And.intro (by assumption) (And.intro (fun o4 => ?_) (fun o4 => ?_)))
  · exact absurd (show u1.1 v 1 = Int32.ofInt 2 by rw [p1_1, a3, hk]; rfl) o4
  refine kjZ_y rfl rfl 6 _ _ _ _ ty1 ?_
  refine (And.intro (Nat.le_of_ble_eq_true rfl) (And.intro (Or.inl ⟨(Nat.le_of_ble_eq_true rfl), (by assumption)⟩) (And.intro (Nat.le_of_ble_eq_true rfl) (And.intro (Nat.le_of_ble_eq_true rfl) (kjY_mono ty1 (fun q_ u2 ty2 xu2 h_ => ?_) (k_put (p := 1) ty1 kv1 fc1 kc1 b1_1 b2_1 b3_1 hi g7 (by omega) _ _ x3.toInt64 rfl e1))))))
  obtain ⟨rfl, p1_2, p2_2, p3_2, p4_2, p5_2, p6_2, p7_2⟩ := h_
  intro _ _
  have kv2 : (u2.2.2.2.1 v).1 = 11 := by rw [p2_2, p2_1]; exact kv
  refine kjZ_y rfl rfl 6 _ _ _ _ ty2 ?_
  refine (And.intro (by assumption) (And.intro (by assumption) (And.intro (Or.inl rfl) (fun ty2' => ?_))))
  have e9 : u2.1 v 6 + Int32.ofInt 1 = nI (n + 1) := by rw [p1_2, p1_1, b1]; exact nI_1 n
  have go : ∀ z2, kTY z2 → z2 = (mjIu u2.1 v 6 (u2.1 v 6 + Int32.ofInt 1), u2.2) → kjY kPP (kQQ Y) (d + 2) 122 34 [some (.ref v), some (.int x1), some (.int x2), some (.int x3)] [] z2 (vuP σ il sl (vs.set s (v, k, n + 1, w, c, e, [], [insL q0 i x2.toInt64, insL q1 i x3.toInt64])) M T) := by
    intro z2 tz ez
    rw [e9] at ez
    refine kjZ_y rfl rfl 1 _ _ _ _ tz ?_
    refine And.intro rfl (And.intro rfl ?_)
    have st : Vst v rc σ z2 := (((row_st p1_1 p2_1 p3_1).tr (row_st p1_2 p2_2 p3_2)).tr (size_st ez))
    obtain ⟨y1, y2, y3⟩ := st.all ty ow po a1 fc kc
    have eI : ∀ x, z2.1 v x = if x = 6 then nI (n + 1) else σ.1 v x := fun x => by
      rw [ez]; show mjIu u2.1 v 6 _ v x = _
      rw [mjIu_s, p1_2, p1_1]
    have eL : z2.2.1 = u2.2.1 := by rw [ez]
    have eD2 : z2.2.2.2.1 = σ.2.2.2.1 := congrArg (fun t => t.2.1) st.1
    have bq0 : wl (σ.2.1 rc) (l.1 + 0 * l.2) n = q0 := (d4 0 q0 rfl)
    have wq0 : wl (z2.2.1 rc) (l.1 + 0 * l.2) (n + 1) = insL q0 i x2.toInt64 := by
      rw [eL]; exact (wl_same fun j h1 h2 => (p4_2 j (by omega))).trans (wl_ins bq0 hi (fun j _ hj => p4_1 j hj) p5_1 p6_1)
    have bq1 : wl (u1.2.1 rc) (l.1 + 1 * l.2) n = q1 := (wl_same fun j h1 h2 => (p7_1 j (by omega))).trans (d4 1 q1 rfl)
    have wq1 : wl (z2.2.1 rc) (l.1 + 1 * l.2) (n + 1) = insL q1 i x3.toInt64 := by
      rw [eL]; exact (wl_ins bq1 hi (fun j _ hj => p4_2 j hj) p5_2 p6_2)
    refine ⟨rfl, ?_, y1, y2, y3⟩
    refine hG.upd ty hs hl rfl rfl st (fun j z => ?_) ?_
    · rw [eL]
      have z : ¬ (l.1 ≤ j ∧ j < l.1 + pts k * l.2) := fun y => z ⟨hk0, y⟩
      rw [hp1] at z
      by_cases z1 : j < l.1
      · exact ((p4_2 j (by omega)).trans (p4_1 j (by omega)))
      · exact ((p7_2 j (by omega)).trans (p7_1 j (by omega)))
    · refine ⟨⟨by rw [eD2]; exact a1, a2, (eI 1).trans a3, (eI 2).trans a4, ?_, (eI 4).trans a6, (eI 5).trans a7⟩, ⟨(eI 6), (eI 7).trans b2, (eI 8).trans b3⟩, hnl, fun z => absurd z hk0, fun _ => ⟨rfl, Or.inl (by rw [hp1]; rfl), by rw [eD2]; exact d3r, fun p q' hp => ?_⟩⟩
      · rw [eL]; rw [p3_2 v (fun z => hrcv z.symm), p3_1 v (fun z => hrcv z.symm)]; exact a5
      · have hp0 : p < 2 := (List.getElem?_eq_some_iff.mp hp).1
        have hp0 : p = 0 ∨ p = 1 := by omega
        rcases hp0 with hp0 | hp0
        · rw [hp0] at hp ⊢; cases hp; exact wq0
        · rw [hp0] at hp ⊢; cases hp; exact wq1
  exact go _ ty2' rfl
theorem k_insertS (ty : kTY σ) (ow : OWN σ) (po : POT σ) {il sl : List Nat} {vs : List VR} {M T : Int32} (h : RST σ il sl vs M T) {s v k n : Nat} {w c : Int32} {e : Int64} {q0 q1 q2 q3 : List Int64} (hs : vs[s]? = some (v, k, n, w, c, e, [], [q0, q1, q2, q3])) (hk : k = 4) {i j ρ : Nat} (hi : i ≤ n) (hj : j ≤ n) (hρ : σ.1 v 8 = nI ρ ∧ n < ρ ∧ ρ < 2 ^ 30) (x1 x2 x3 : Int32) (x4 : Int64) (e1 : x1 = nI i) (e2 : x2 = nI j) :
    kjY kPP (kQQ Y) (d + 2) 124 0 (mjL0 6 [.ref v, .int x1, .int x2, .int x3, .long x4]) [] σ (vuP σ il sl (vs.set s (v, k, n + 1, w, c, e, [], [insL q0 i x3.toInt64, insL q1 j x3.toInt64, insL q2 i x4, insL q3 j x4])) M T) := by
  obtain ⟨ri, rs, rh, NK, rt, NT, rn, Nn, te, rc, NC, rm, Nm, ce, ls, hG⟩ := h
  obtain ⟨l, hl, hV, g1, g2, g3, g4, g5, g6, g7⟩ := hG.v hs
  have fc := hG.2.2.1.1.1
  have kc := hG.2.2.1.1.2
  obtain ⟨⟨a1, a2, a3, a4, a5, a6, a7⟩, ⟨b1, b2, b3⟩, c1, c2, c3⟩ := hV
  have a1 : σ.2.2.2.1 v = (11, 0) := a1
  have a3 : σ.1 v 1 = nI k := a3
  have b1 : σ.1 v 6 = nI n := b1
  have b2 : σ.1 v 7 = nI l.1 := b2
  have b3 : σ.1 v 8 = nI l.2 := b3
  have g3 : n ≤ 131072 := g3
  have c1 : n ≤ l.2 := c1
  have kv : (σ.2.2.2.1 v).1 = 11 := by rw [a1]
  have hk0 : ¬ k = 0 := by omega
  have hp1 : pts k = 4 := by rw [hk]; rfl
  obtain ⟨d1, d2, d3, d4⟩ := c3 hk0
  have d3r : l.1 + pts k * l.2 ≤ ce ∨ (l.2 = 0 ∧ pts k * l.2 = 0 ∧ l.1 ≤ (σ.2.2.2.1 rc).2) := d3
  have d3 : l.1 + pts k * l.2 ≤ NC := by
    have d3s : l.1 + pts k * l.2 ≤ ce ∨ (l.2 = 0 ∧ pts k * l.2 = 0 ∧ l.1 ≤ NC) := by rw [kc] at d3r; exact d3r
    omega
  rw [hp1] at d3
  have hrcv : ¬ rc = v := fun z => by rw [z, a1] at kc; exact absurd kc (by simp)
  have hnl : n < l.2 := by
    have z := hρ.1.symm.trans b3
    have := (nI_eq (by omega) (by omega)).mp z; omega
  refine kjZ_y rfl rfl 2 _ _ _ _ ty ?_
  refine And.intro (fun o1 => ?_) (fun o1 => ?_)
  · exact absurd (show x1 < 0 from o1) (by rw [e1]; exact nI_n0 (by omega))
  refine kjZ_y rfl rfl 4 _ _ _ _ ty ?_
  refine (And.intro (by assumption) (And.intro (fun o2 => ?_) (fun o2 => ?_)))
  · exact absurd (show σ.1 v 6 < x1 from o2) (by rw [e1, b1, nlt (by omega) (by omega)]; omega)
  refine kjZ_y rfl rfl 2 _ _ _ _ ty ?_
  refine And.intro (fun o3 => ?_) (fun o3 => ?_)
  · exact absurd (show x2 < 0 from o3) (by rw [e2]; exact nI_n0 (by omega))
  refine kjZ_y rfl rfl 4 _ _ _ _ ty ?_
  refine (And.intro (by assumption) (And.intro (fun o4 => ?_) (fun o4 => ?_)))
  · exact absurd (show σ.1 v 6 < x2 from o4) (by rw [e2, b1, nlt (by omega) (by omega)]; omega)
  refine kjZ_y rfl rfl 5 _ _ _ _ ty ?_
  refine (And.intro (by assumption) (And.intro (by assumption) (And.intro (fun o5 => ?_) (fun o5 => ?_))))
  rotate_left
  · exact absurd (show σ.1 v 6 < σ.1 v 8 from by rw [b1, b3, nlt (by omega) (by omega)]; exact hnl) o5
  refine kjZ_y rfl rfl 6 _ _ _ _ ty ?_
  refine (And.intro (Nat.le_of_ble_eq_true rfl) (And.intro (Or.inl ⟨(Nat.le_of_ble_eq_true rfl), (by assumption)⟩) (And.intro (Nat.le_of_ble_eq_true rfl) (And.intro (Nat.le_of_ble_eq_true rfl) (kjY_mono ty (fun q_ u1 ty1 xu1 h_ => ?_) (k_put (p := 0) ty kv fc kc b1 b2 b3 hi g7 (by omega) _ _ x3.toInt64 rfl e1))))))
  obtain ⟨rfl, p1_1, p2_1, p3_1, p4_1, p5_1, p6_1, p7_1⟩ := h_
  intro _ _
  have kv1 : (u1.2.2.2.1 v).1 = 11 := by rw [p2_1]; exact kv
  have fc1 : u1.2.2.1 59 10 = some rc := by rw [p2_1]; exact fc
  have kc1 : u1.2.2.2.1 rc = (23, NC) := by rw [p2_1]; exact kc
  have b1_1 : u1.1 v 6 = nI n := by rw [p1_1]; exact b1
  have b2_1 : u1.1 v 7 = nI l.1 := by rw [p1_1]; exact b2
  have b3_1 : u1.1 v 8 = nI l.2 := by rw [p1_1]; exact b3
  refine kjZ_y rfl rfl 5 _ _ _ _ ty1 ?_
  refine (And.intro (Nat.le_of_ble_eq_true rfl) (And.intro (Or.inl ⟨(Nat.le_of_ble_eq_true rfl), (by assumption)⟩) (And.intro (Nat.le_of_ble_eq_true rfl) (And.intro (Nat.le_of_ble_eq_true rfl) (kjY_mono ty1 (fun q_ u2 ty2 xu2 h_ => ?_) (k_put (p := 2) ty1 kv1 fc1 kc1 b1_1 b2_1 b3_1 hi g7 (by omega) _ _ x4 rfl e1))))))
  obtain ⟨rfl, p1_2, p2_2, p3_2, p4_2, p5_2, p6_2, p7_2⟩ := h_
  intro _ _
  have kv2 : (u2.2.2.2.1 v).1 = 11 := by rw [p2_2, p2_1]; exact kv
  have fc2 : u2.2.2.1 59 10 = some rc := by rw [p2_2, p2_1]; exact fc
  have kc2 : u2.2.2.2.1 rc = (23, NC) := by rw [p2_2, p2_1]; exact kc
  have b1_2 : u2.1 v 6 = nI n := by rw [p1_2, p1_1]; exact b1
  have b2_2 : u2.1 v 7 = nI l.1 := by rw [p1_2, p1_1]; exact b2
  have b3_2 : u2.1 v 8 = nI l.2 := by rw [p1_2, p1_1]; exact b3
  refine kjZ_y rfl rfl 6 _ _ _ _ ty2 ?_
  refine (And.intro (Nat.le_of_ble_eq_true rfl) (And.intro (Or.inl ⟨(Nat.le_of_ble_eq_true rfl), (by assumption)⟩) (And.intro (Nat.le_of_ble_eq_true rfl) (And.intro (Nat.le_of_ble_eq_true rfl) (kjY_mono ty2 (fun q_ u3 ty3 xu3 h_ => ?_) (k_put (p := 1) ty2 kv2 fc2 kc2 b1_2 b2_2 b3_2 hj g7 (by omega) _ _ x3.toInt64 rfl e2))))))
  obtain ⟨rfl, p1_3, p2_3, p3_3, p4_3, p5_3, p6_3, p7_3⟩ := h_
  intro _ _
  have kv3 : (u3.2.2.2.1 v).1 = 11 := by rw [p2_3, p2_2, p2_1]; exact kv
  have fc3 : u3.2.2.1 59 10 = some rc := by rw [p2_3, p2_2, p2_1]; exact fc
  have kc3 : u3.2.2.2.1 rc = (23, NC) := by rw [p2_3, p2_2, p2_1]; exact kc
  have b1_3 : u3.1 v 6 = nI n := by rw [p1_3, p1_2, p1_1]; exact b1
  have b2_3 : u3.1 v 7 = nI l.1 := by rw [p1_3, p1_2, p1_1]; exact b2
  have b3_3 : u3.1 v 8 = nI l.2 := by rw [p1_3, p1_2, p1_1]; exact b3
  refine kjZ_y rfl rfl 5 _ _ _ _ ty3 ?_
  refine (And.intro (Nat.le_of_ble_eq_true rfl) (And.intro (Or.inl ⟨(Nat.le_of_ble_eq_true rfl), (by assumption)⟩) (And.intro (Nat.le_of_ble_eq_true rfl) (And.intro (Nat.le_of_ble_eq_true rfl) (kjY_mono ty3 (fun q_ u4 ty4 xu4 h_ => ?_) (k_put (p := 3) ty3 kv3 fc3 kc3 b1_3 b2_3 b3_3 hj g7 (by omega) _ _ x4 rfl e2))))))
  obtain ⟨rfl, p1_4, p2_4, p3_4, p4_4, p5_4, p6_4, p7_4⟩ := h_
  intro _ _
  have kv4 : (u4.2.2.2.1 v).1 = 11 := by rw [p2_4, p2_3, p2_2, p2_1]; exact kv
  refine kjZ_y rfl rfl 6 _ _ _ _ ty4 ?_
  refine (And.intro (by assumption) (And.intro (by assumption) (And.intro (Or.inl rfl) (fun ty4' => ?_))))
  have e9 : u4.1 v 6 + Int32.ofInt 1 = nI (n + 1) := by rw [p1_4, p1_3, p1_2, p1_1, b1]; exact nI_1 n
  have go : ∀ z2, kTY z2 → z2 = (mjIu u4.1 v 6 (u4.1 v 6 + Int32.ofInt 1), u4.2) → kjY kPP (kQQ Y) (d + 2) 124 46 [some (.ref v), some (.int x1), some (.int x2), some (.int x3), some (.long x4), none] [] z2 (vuP σ il sl (vs.set s (v, k, n + 1, w, c, e, [], [insL q0 i x3.toInt64, insL q1 j x3.toInt64, insL q2 i x4, insL q3 j x4])) M T) := by
    intro z2 tz ez
    rw [e9] at ez
    refine kjZ_y rfl rfl 1 _ _ _ _ tz ?_
    refine And.intro rfl (And.intro rfl ?_)
    have st : Vst v rc σ z2 := (((((row_st p1_1 p2_1 p3_1).tr (row_st p1_2 p2_2 p3_2)).tr (row_st p1_3 p2_3 p3_3)).tr (row_st p1_4 p2_4 p3_4)).tr (size_st ez))
    obtain ⟨y1, y2, y3⟩ := st.all ty ow po a1 fc kc
    have eI : ∀ x, z2.1 v x = if x = 6 then nI (n + 1) else σ.1 v x := fun x => by
      rw [ez]; show mjIu u4.1 v 6 _ v x = _
      rw [mjIu_s, p1_4, p1_3, p1_2, p1_1]
    have eL : z2.2.1 = u4.2.1 := by rw [ez]
    have eD2 : z2.2.2.2.1 = σ.2.2.2.1 := congrArg (fun t => t.2.1) st.1
    have bq0 : wl (σ.2.1 rc) (l.1 + 0 * l.2) n = q0 := (d4 0 q0 rfl)
    have wq0 : wl (z2.2.1 rc) (l.1 + 0 * l.2) (n + 1) = insL q0 i x3.toInt64 := by
      rw [eL]; exact (wl_same fun j h1 h2 => (((p4_4 j (by omega)).trans (p4_3 j (by omega))).trans (p4_2 j (by omega)))).trans (wl_ins bq0 hi (fun j _ hj => p4_1 j hj) p5_1 p6_1)
    have bq1 : wl (u2.2.1 rc) (l.1 + 1 * l.2) n = q1 := (wl_same fun j h1 h2 => ((p4_2 j (by omega)).trans (p7_1 j (by omega)))).trans (d4 1 q1 rfl)
    have wq1 : wl (z2.2.1 rc) (l.1 + 1 * l.2) (n + 1) = insL q1 j x3.toInt64 := by
      rw [eL]; exact (wl_same fun j h1 h2 => (p4_4 j (by omega))).trans (wl_ins bq1 hj (fun j _ hj => p4_3 j hj) p5_3 p6_3)
    have bq2 : wl (u1.2.1 rc) (l.1 + 2 * l.2) n = q2 := (wl_same fun j h1 h2 => (p7_1 j (by omega))).trans (d4 2 q2 rfl)
    have wq2 : wl (z2.2.1 rc) (l.1 + 2 * l.2) (n + 1) = insL q2 i x4 := by
      rw [eL]; exact (wl_same fun j h1 h2 => ((p4_4 j (by omega)).trans (p7_3 j (by omega)))).trans (wl_ins bq2 hi (fun j _ hj => p4_2 j hj) p5_2 p6_2)
    have bq3 : wl (u3.2.1 rc) (l.1 + 3 * l.2) n = q3 := (wl_same fun j h1 h2 => (((p7_3 j (by omega)).trans (p7_2 j (by omega))).trans (p7_1 j (by omega)))).trans (d4 3 q3 rfl)
    have wq3 : wl (z2.2.1 rc) (l.1 + 3 * l.2) (n + 1) = insL q3 j x4 := by
      rw [eL]; exact (wl_ins bq3 hj (fun j _ hj => p4_4 j hj) p5_4 p6_4)
    refine ⟨rfl, ?_, y1, y2, y3⟩
    refine hG.upd ty hs hl rfl rfl st (fun j z => ?_) ?_
    · rw [eL]
      have z : ¬ (l.1 ≤ j ∧ j < l.1 + pts k * l.2) := fun y => z ⟨hk0, y⟩
      rw [hp1] at z
      by_cases z1 : j < l.1
      · exact ((((p4_4 j (by omega)).trans (p4_3 j (by omega))).trans (p4_2 j (by omega))).trans (p4_1 j (by omega)))
      · exact ((((p7_4 j (by omega)).trans (p7_3 j (by omega))).trans (p7_2 j (by omega))).trans (p7_1 j (by omega)))
    · refine ⟨⟨by rw [eD2]; exact a1, a2, (eI 1).trans a3, (eI 2).trans a4, ?_, (eI 4).trans a6, (eI 5).trans a7⟩, ⟨(eI 6), (eI 7).trans b2, (eI 8).trans b3⟩, hnl, fun z => absurd z hk0, fun _ => ⟨rfl, Or.inl (by rw [hp1]; rfl), by rw [eD2]; exact d3r, fun p q' hp => ?_⟩⟩
      · rw [eL]; rw [p3_4 v (fun z => hrcv z.symm), p3_3 v (fun z => hrcv z.symm), p3_2 v (fun z => hrcv z.symm), p3_1 v (fun z => hrcv z.symm)]; exact a5
      · have hp0 : p < 4 := (List.getElem?_eq_some_iff.mp hp).1
        have hp0 : p = 0 ∨ p = 1 ∨ p = 2 ∨ p = 3 := by omega
        rcases hp0 with hp0 | hp0 | hp0 | hp0
        · rw [hp0] at hp ⊢; cases hp; exact wq0
        · rw [hp0] at hp ⊢; cases hp; exact wq1
        · rw [hp0] at hp ⊢; cases hp; exact wq2
        · rw [hp0] at hp ⊢; cases hp; exact wq3
  exact go _ ty4' rfl
theorem k_remove1 (ty : kTY σ) (ow : OWN σ) (po : POT σ) {il sl : List Nat} {vs : List VR} {M T : Int32} (h : RST σ il sl vs M T) {s v k n : Nat} {w c : Int32} {e : Int64} {q0 : List Int64} (hs : vs[s]? = some (v, k, n, w, c, e, [], [q0])) (hk : k = 1 ∨ k = 3) {i m : Nat} (hi : i + m ≤ n) (hm : 1 ≤ m) (x1 x2 : Int32) (e1 : x1 = nI i) (e2 : x2 = nI m) :
    kjY kPP (kQQ Y) (d + 2) 123 0 (mjL0 3 [.ref v, .int x1, .int x2]) [] σ (vuP σ il sl (vs.set s (v, k, n - m, w, c, e, [], [cutL q0 i m])) M T) := by
  obtain ⟨ri, rs, rh, NK, rt, NT, rn, Nn, te, rc, NC, rm, Nm, ce, ls, hG⟩ := h
  obtain ⟨l, hl, hV, g1, g2, g3, g4, g5, g6, g7⟩ := hG.v hs
  have fc := hG.2.2.1.1.1
  have kc := hG.2.2.1.1.2
  obtain ⟨⟨a1, a2, a3, a4, a5, a6, a7⟩, ⟨b1, b2, b3⟩, c1, c2, c3⟩ := hV
  have a1 : σ.2.2.2.1 v = (11, 0) := a1
  have a3 : σ.1 v 1 = nI k := a3
  have b1 : σ.1 v 6 = nI n := b1
  have b2 : σ.1 v 7 = nI l.1 := b2
  have b3 : σ.1 v 8 = nI l.2 := b3
  have g3 : n ≤ 131072 := g3
  have c1 : n ≤ l.2 := c1
  have kv : (σ.2.2.2.1 v).1 = 11 := by rw [a1]
  have hk0 : ¬ k = 0 := by omega
  have hp1 : pts k = 1 := by unfold pts; rw [if_neg hk0, if_neg (by omega), if_neg (by omega)]
  obtain ⟨d1, d2, d3, d4⟩ := c3 hk0
  have d3r : l.1 + pts k * l.2 ≤ ce ∨ (l.2 = 0 ∧ pts k * l.2 = 0 ∧ l.1 ≤ (σ.2.2.2.1 rc).2) := d3
  have d3 : l.1 + pts k * l.2 ≤ NC := by
    have d3s : l.1 + pts k * l.2 ≤ ce ∨ (l.2 = 0 ∧ pts k * l.2 = 0 ∧ l.1 ≤ NC) := by rw [kc] at d3r; exact d3r
    omega
  rw [hp1] at d3
  have hrcv : ¬ rc = v := fun z => by rw [z, a1] at kc; exact absurd kc (by simp)
  refine kjZ_y rfl rfl 2 _ _ _ _ ty ?_
  refine And.intro (fun o1 => ?_) (fun o1 => ?_)
  · exact absurd (show x1 < 0 from o1) (by rw [e1]; exact nI_n0 (by omega))
  refine kjZ_y rfl rfl 2 _ _ _ _ ty ?_
  refine And.intro (fun o2 => ?_) (fun o2 => ?_)
  · exact absurd (show x2 ≤ nI 0 from o2) (by rw [e2, nle (by omega) (by omega)]; omega)
  refine kjZ_y rfl rfl 6 _ _ _ _ ty ?_
  refine (And.intro (by assumption) (And.intro (fun o3 => ?_) (fun o3 => ?_)))
  rotate_left
  · exact absurd (show x2 ≤ σ.1 v 6 - x1 from by rw [b1, e1, e2, pk_sub (by omega), nle (by omega) (by omega)]; omega) o3
  refine kjZ_y rfl rfl 5 _ _ _ _ ty ?_
  refine (And.intro (Nat.le_of_ble_eq_true rfl) (And.intro (Or.inl ⟨(Nat.le_of_ble_eq_true rfl), (by assumption)⟩) (And.intro (Nat.le_of_ble_eq_true rfl) (And.intro (Nat.le_of_ble_eq_true rfl) (kjY_mono ty (fun q_ u1 ty1 xu1 h_ => ?_) (k_cutv (p := 0) ty kv fc kc b1 b2 b3 hi g7 (by omega) _ _ _ rfl e1 e2))))))
  obtain ⟨rfl, p1_1, p2_1, p3_1, p4_1, p5_1, p6_1⟩ := h_
  intro _ _
  have kv1 : (u1.2.2.2.1 v).1 = 11 := by rw [p2_1]; exact kv
  refine kjZ_y rfl rfl 4 _ _ _ _ ty1 ?_
  refine (And.intro (by assumption) (And.intro (fun o4 => ?_) (fun o4 => ?_)))
  rotate_left
  · refine absurd (show ¬ u1.1 v 1 = Int32.ofInt 2 from ?_) o4
    rw [p1_1, a3]
    exact fun z => by have := (nI_eq (a := k) (b := 2) (by omega) (by decide)).mp z; omega
  refine kjZ_y rfl rfl 6 _ _ _ _ ty1 ?_
  refine (And.intro (by assumption) (And.intro (by assumption) (And.intro (Or.inl rfl) (fun ty1' => ?_))))
  have e9 : u1.1 v 6 - x2 = nI (n - m) := by rw [p1_1, b1]; rw [e2]; exact pk_sub (by omega)
  have go : ∀ z2, kTY z2 → z2 = (mjIu u1.1 v 6 (u1.1 v 6 - x2), u1.2) → kjY kPP (kQQ Y) (d + 2) 123 31 [some (.ref v), some (.int x1), some (.int x2)] [] z2 (vuP σ il sl (vs.set s (v, k, n - m, w, c, e, [], [cutL q0 i m])) M T) := by
    intro z2 tz ez
    rw [e9] at ez
    refine kjZ_y rfl rfl 1 _ _ _ _ tz ?_
    refine And.intro rfl (And.intro rfl ?_)
    have st : Vst v rc σ z2 := ((row_st p1_1 p2_1 p3_1).tr (size_st ez))
    obtain ⟨y1, y2, y3⟩ := st.all ty ow po a1 fc kc
    have eI : ∀ x, z2.1 v x = if x = 6 then nI (n - m) else σ.1 v x := fun x => by
      rw [ez]; show mjIu u1.1 v 6 _ v x = _
      rw [mjIu_s, p1_1]
    have eL : z2.2.1 = u1.2.1 := by rw [ez]
    have eD2 : z2.2.2.2.1 = σ.2.2.2.1 := congrArg (fun t => t.2.1) st.1
    have bq0 : wl (σ.2.1 rc) (l.1 + 0 * l.2) n = q0 := (d4 0 q0 rfl)
    have wq0 : wl (z2.2.1 rc) (l.1 + 0 * l.2) (n - m) = cutL q0 i m := by
      rw [eL]; exact (wl_cut bq0 hi (fun j _ hj => p4_1 j hj) (fun j h1 h2 => p5_1 j h1 h2))
    refine ⟨rfl, ?_, y1, y2, y3⟩
    refine hG.upd ty hs hl rfl rfl st (fun j z => ?_) ?_
    · rw [eL]
      have z : ¬ (l.1 ≤ j ∧ j < l.1 + pts k * l.2) := fun y => z ⟨hk0, y⟩
      rw [hp1] at z
      by_cases z1 : j < l.1
      · exact (p4_1 j (by omega))
      · exact (p6_1 j (by omega))
    · refine ⟨⟨by rw [eD2]; exact a1, a2, (eI 1).trans a3, (eI 2).trans a4, ?_, (eI 4).trans a6, (eI 5).trans a7⟩, ⟨(eI 6), (eI 7).trans b2, (eI 8).trans b3⟩, (show n - m ≤ l.2 by omega), fun z => absurd z hk0, fun _ => ⟨rfl, Or.inl (by rw [hp1]; rfl), by rw [eD2]; exact d3r, fun p q' hp => ?_⟩⟩
      · rw [eL]; rw [p3_1 v (fun z => hrcv z.symm)]; exact a5
      · have hp0 : p < 1 := (List.getElem?_eq_some_iff.mp hp).1
        have hp0 : p = 0 := by omega
        rw [hp0] at hp ⊢
        cases hp
        exact wq0
  exact go _ ty1' rfl
theorem k_remove2 (ty : kTY σ) (ow : OWN σ) (po : POT σ) {il sl : List Nat} {vs : List VR} {M T : Int32} (h : RST σ il sl vs M T) {s v k n : Nat} {w c : Int32} {e : Int64} {q0 q1 : List Int64} (hs : vs[s]? = some (v, k, n, w, c, e, [], [q0, q1])) (hk : k = 2) {i m : Nat} (hi : i + m ≤ n) (hm : 1 ≤ m) (x1 x2 : Int32) (e1 : x1 = nI i) (e2 : x2 = nI m) :
    kjY kPP (kQQ Y) (d + 2) 123 0 (mjL0 3 [.ref v, .int x1, .int x2]) [] σ (vuP σ il sl (vs.set s (v, k, n - m, w, c, e, [], [cutL q0 i m, cutL q1 i m])) M T) := by
  obtain ⟨ri, rs, rh, NK, rt, NT, rn, Nn, te, rc, NC, rm, Nm, ce, ls, hG⟩ := h
  obtain ⟨l, hl, hV, g1, g2, g3, g4, g5, g6, g7⟩ := hG.v hs
  have fc := hG.2.2.1.1.1
  have kc := hG.2.2.1.1.2
  obtain ⟨⟨a1, a2, a3, a4, a5, a6, a7⟩, ⟨b1, b2, b3⟩, c1, c2, c3⟩ := hV
  have a1 : σ.2.2.2.1 v = (11, 0) := a1
  have a3 : σ.1 v 1 = nI k := a3
  have b1 : σ.1 v 6 = nI n := b1
  have b2 : σ.1 v 7 = nI l.1 := b2
  have b3 : σ.1 v 8 = nI l.2 := b3
  have g3 : n ≤ 131072 := g3
  have c1 : n ≤ l.2 := c1
  have kv : (σ.2.2.2.1 v).1 = 11 := by rw [a1]
  have hk0 : ¬ k = 0 := by omega
  have hp1 : pts k = 2 := by rw [hk]; rfl
  obtain ⟨d1, d2, d3, d4⟩ := c3 hk0
  have d3r : l.1 + pts k * l.2 ≤ ce ∨ (l.2 = 0 ∧ pts k * l.2 = 0 ∧ l.1 ≤ (σ.2.2.2.1 rc).2) := d3
  have d3 : l.1 + pts k * l.2 ≤ NC := by
    have d3s : l.1 + pts k * l.2 ≤ ce ∨ (l.2 = 0 ∧ pts k * l.2 = 0 ∧ l.1 ≤ NC) := by rw [kc] at d3r; exact d3r
    omega
  rw [hp1] at d3
  have hrcv : ¬ rc = v := fun z => by rw [z, a1] at kc; exact absurd kc (by simp)
  refine kjZ_y rfl rfl 2 _ _ _ _ ty ?_
  refine And.intro (fun o1 => ?_) (fun o1 => ?_)
  · exact absurd (show x1 < 0 from o1) (by rw [e1]; exact nI_n0 (by omega))
  refine kjZ_y rfl rfl 2 _ _ _ _ ty ?_
  refine And.intro (fun o2 => ?_) (fun o2 => ?_)
  · exact absurd (show x2 ≤ nI 0 from o2) (by rw [e2, nle (by omega) (by omega)]; omega)
  refine kjZ_y rfl rfl 6 _ _ _ _ ty ?_
  refine (And.intro (by assumption) (And.intro (fun o3 => ?_) (fun o3 => ?_)))
  rotate_left
  · exact absurd (show x2 ≤ σ.1 v 6 - x1 from by rw [b1, e1, e2, pk_sub (by omega), nle (by omega) (by omega)]; omega) o3
  refine kjZ_y rfl rfl 5 _ _ _ _ ty ?_
  refine (And.intro (Nat.le_of_ble_eq_true rfl) (And.intro (Or.inl ⟨(Nat.le_of_ble_eq_true rfl), (by assumption)⟩) (And.intro (Nat.le_of_ble_eq_true rfl) (And.intro (Nat.le_of_ble_eq_true rfl) (kjY_mono ty (fun q_ u1 ty1 xu1 h_ => ?_) (k_cutv (p := 0) ty kv fc kc b1 b2 b3 hi g7 (by omega) _ _ _ rfl e1 e2))))))
  obtain ⟨rfl, p1_1, p2_1, p3_1, p4_1, p5_1, p6_1⟩ := h_
  intro _ _
  have kv1 : (u1.2.2.2.1 v).1 = 11 := by rw [p2_1]; exact kv
  have fc1 : u1.2.2.1 59 10 = some rc := by rw [p2_1]; exact fc
  have kc1 : u1.2.2.2.1 rc = (23, NC) := by rw [p2_1]; exact kc
  have b1_1 : u1.1 v 6 = nI n := by rw [p1_1]; exact b1
  have b2_1 : u1.1 v 7 = nI l.1 := by rw [p1_1]; exact b2
  have b3_1 : u1.1 v 8 = nI l.2 := by rw [p1_1]; exact b3
  refine kjZ_y rfl rfl 4 _ _ _ _ ty1 ?_
  refine (And.intro (by assumption) (And.intro (fun o4 => ?_) (fun o4 => ?_)))
  · exact absurd (show u1.1 v 1 = Int32.ofInt 2 by rw [p1_1, a3, hk]; rfl) o4
  refine kjZ_y rfl rfl 5 _ _ _ _ ty1 ?_
  refine (And.intro (Nat.le_of_ble_eq_true rfl) (And.intro (Or.inl ⟨(Nat.le_of_ble_eq_true rfl), (by assumption)⟩) (And.intro (Nat.le_of_ble_eq_true rfl) (And.intro (Nat.le_of_ble_eq_true rfl) (kjY_mono ty1 (fun q_ u2 ty2 xu2 h_ => ?_) (k_cutv (p := 1) ty1 kv1 fc1 kc1 b1_1 b2_1 b3_1 hi g7 (by omega) _ _ _ rfl e1 e2))))))
  obtain ⟨rfl, p1_2, p2_2, p3_2, p4_2, p5_2, p6_2⟩ := h_
  intro _ _
  have kv2 : (u2.2.2.2.1 v).1 = 11 := by rw [p2_2, p2_1]; exact kv
  refine kjZ_y rfl rfl 6 _ _ _ _ ty2 ?_
  refine (And.intro (by assumption) (And.intro (by assumption) (And.intro (Or.inl rfl) (fun ty2' => ?_))))
  have e9 : u2.1 v 6 - x2 = nI (n - m) := by rw [p1_2, p1_1, b1]; rw [e2]; exact pk_sub (by omega)
  have go : ∀ z2, kTY z2 → z2 = (mjIu u2.1 v 6 (u2.1 v 6 - x2), u2.2) → kjY kPP (kQQ Y) (d + 2) 123 31 [some (.ref v), some (.int x1), some (.int x2)] [] z2 (vuP σ il sl (vs.set s (v, k, n - m, w, c, e, [], [cutL q0 i m, cutL q1 i m])) M T) := by
    intro z2 tz ez
    rw [e9] at ez
    refine kjZ_y rfl rfl 1 _ _ _ _ tz ?_
    refine And.intro rfl (And.intro rfl ?_)
    have st : Vst v rc σ z2 := (((row_st p1_1 p2_1 p3_1).tr (row_st p1_2 p2_2 p3_2)).tr (size_st ez))
    obtain ⟨y1, y2, y3⟩ := st.all ty ow po a1 fc kc
    have eI : ∀ x, z2.1 v x = if x = 6 then nI (n - m) else σ.1 v x := fun x => by
      rw [ez]; show mjIu u2.1 v 6 _ v x = _
      rw [mjIu_s, p1_2, p1_1]
    have eL : z2.2.1 = u2.2.1 := by rw [ez]
    have eD2 : z2.2.2.2.1 = σ.2.2.2.1 := congrArg (fun t => t.2.1) st.1
    have bq0 : wl (σ.2.1 rc) (l.1 + 0 * l.2) n = q0 := (d4 0 q0 rfl)
    have wq0 : wl (z2.2.1 rc) (l.1 + 0 * l.2) (n - m) = cutL q0 i m := by
      rw [eL]; exact (wl_same fun j h1 h2 => (p4_2 j (by omega))).trans (wl_cut bq0 hi (fun j _ hj => p4_1 j hj) (fun j h1 h2 => p5_1 j h1 h2))
    have bq1 : wl (u1.2.1 rc) (l.1 + 1 * l.2) n = q1 := (wl_same fun j h1 h2 => (p6_1 j (by omega))).trans (d4 1 q1 rfl)
    have wq1 : wl (z2.2.1 rc) (l.1 + 1 * l.2) (n - m) = cutL q1 i m := by
      rw [eL]; exact (wl_cut bq1 hi (fun j _ hj => p4_2 j hj) (fun j h1 h2 => p5_2 j h1 h2))
    refine ⟨rfl, ?_, y1, y2, y3⟩
    refine hG.upd ty hs hl rfl rfl st (fun j z => ?_) ?_
    · rw [eL]
      have z : ¬ (l.1 ≤ j ∧ j < l.1 + pts k * l.2) := fun y => z ⟨hk0, y⟩
      rw [hp1] at z
      by_cases z1 : j < l.1
      · exact ((p4_2 j (by omega)).trans (p4_1 j (by omega)))
      · exact ((p6_2 j (by omega)).trans (p6_1 j (by omega)))
    · refine ⟨⟨by rw [eD2]; exact a1, a2, (eI 1).trans a3, (eI 2).trans a4, ?_, (eI 4).trans a6, (eI 5).trans a7⟩, ⟨(eI 6), (eI 7).trans b2, (eI 8).trans b3⟩, (show n - m ≤ l.2 by omega), fun z => absurd z hk0, fun _ => ⟨rfl, Or.inl (by rw [hp1]; rfl), by rw [eD2]; exact d3r, fun p q' hp => ?_⟩⟩
      · rw [eL]; rw [p3_2 v (fun z => hrcv z.symm), p3_1 v (fun z => hrcv z.symm)]; exact a5
      · have hp0 : p < 2 := (List.getElem?_eq_some_iff.mp hp).1
        have hp0 : p = 0 ∨ p = 1 := by omega
        rcases hp0 with hp0 | hp0
        · rw [hp0] at hp ⊢; cases hp; exact wq0
        · rw [hp0] at hp ⊢; cases hp; exact wq1
  exact go _ ty2' rfl
theorem k_removeS (ty : kTY σ) (ow : OWN σ) (po : POT σ) {il sl : List Nat} {vs : List VR} {M T : Int32} (h : RST σ il sl vs M T) {s v k n : Nat} {w c : Int32} {e : Int64} {q0 q1 q2 q3 : List Int64} (hs : vs[s]? = some (v, k, n, w, c, e, [], [q0, q1, q2, q3])) (hk : k = 4) {i j : Nat} (hi : i + 1 ≤ n) (hj : j + 1 ≤ n) (x1 x2 : Int32) (e1 : x1 = nI i) (e2 : x2 = nI j) :
    kjY kPP (kQQ Y) (d + 2) 125 0 (mjL0 3 [.ref v, .int x1, .int x2]) [] σ (vuP σ il sl (vs.set s (v, k, n - 1, w, c, e, [], [cutL q0 i 1, cutL q1 j 1, cutL q2 i 1, cutL q3 j 1])) M T) := by
  obtain ⟨ri, rs, rh, NK, rt, NT, rn, Nn, te, rc, NC, rm, Nm, ce, ls, hG⟩ := h
  obtain ⟨l, hl, hV, g1, g2, g3, g4, g5, g6, g7⟩ := hG.v hs
  have fc := hG.2.2.1.1.1
  have kc := hG.2.2.1.1.2
  obtain ⟨⟨a1, a2, a3, a4, a5, a6, a7⟩, ⟨b1, b2, b3⟩, c1, c2, c3⟩ := hV
  have a1 : σ.2.2.2.1 v = (11, 0) := a1
  have a3 : σ.1 v 1 = nI k := a3
  have b1 : σ.1 v 6 = nI n := b1
  have b2 : σ.1 v 7 = nI l.1 := b2
  have b3 : σ.1 v 8 = nI l.2 := b3
  have g3 : n ≤ 131072 := g3
  have c1 : n ≤ l.2 := c1
  have kv : (σ.2.2.2.1 v).1 = 11 := by rw [a1]
  have hk0 : ¬ k = 0 := by omega
  have hp1 : pts k = 4 := by rw [hk]; rfl
  obtain ⟨d1, d2, d3, d4⟩ := c3 hk0
  have d3r : l.1 + pts k * l.2 ≤ ce ∨ (l.2 = 0 ∧ pts k * l.2 = 0 ∧ l.1 ≤ (σ.2.2.2.1 rc).2) := d3
  have d3 : l.1 + pts k * l.2 ≤ NC := by
    have d3s : l.1 + pts k * l.2 ≤ ce ∨ (l.2 = 0 ∧ pts k * l.2 = 0 ∧ l.1 ≤ NC) := by rw [kc] at d3r; exact d3r
    omega
  rw [hp1] at d3
  have hrcv : ¬ rc = v := fun z => by rw [z, a1] at kc; exact absurd kc (by simp)
  refine kjZ_y rfl rfl 2 _ _ _ _ ty ?_
  refine And.intro (fun o1 => ?_) (fun o1 => ?_)
  · exact absurd (show x1 < 0 from o1) (by rw [e1]; exact nI_n0 (by omega))
  refine kjZ_y rfl rfl 4 _ _ _ _ ty ?_
  refine (And.intro (by assumption) (And.intro (fun o2 => ?_) (fun o2 => ?_)))
  · exact absurd (show σ.1 v 6 ≤ x1 from o2) (by rw [e1, b1, nle (by omega) (by omega)]; omega)
  refine kjZ_y rfl rfl 2 _ _ _ _ ty ?_
  refine And.intro (fun o3 => ?_) (fun o3 => ?_)
  · exact absurd (show x2 < 0 from o3) (by rw [e2]; exact nI_n0 (by omega))
  refine kjZ_y rfl rfl 4 _ _ _ _ ty ?_
  refine (And.intro (by assumption) (And.intro (fun o4 => ?_) (fun o4 => ?_)))
  rotate_left
  · exact absurd (show x2 < σ.1 v 6 from by rw [b1, e2, nlt (by omega) (by omega)]; omega) o4
  refine kjZ_y rfl rfl 5 _ _ _ _ ty ?_
  refine (And.intro (Nat.le_of_ble_eq_true rfl) (And.intro (Or.inl ⟨(Nat.le_of_ble_eq_true rfl), (by assumption)⟩) (And.intro (Nat.le_of_ble_eq_true rfl) (And.intro (Nat.le_of_ble_eq_true rfl) (kjY_mono ty (fun q_ u1 ty1 xu1 h_ => ?_) (k_cutv (p := 0) ty kv fc kc b1 b2 b3 hi g7 (by omega) _ _ _ rfl e1 rfl))))))
  obtain ⟨rfl, p1_1, p2_1, p3_1, p4_1, p5_1, p6_1⟩ := h_
  intro _ _
  have kv1 : (u1.2.2.2.1 v).1 = 11 := by rw [p2_1]; exact kv
  have fc1 : u1.2.2.1 59 10 = some rc := by rw [p2_1]; exact fc
  have kc1 : u1.2.2.2.1 rc = (23, NC) := by rw [p2_1]; exact kc
  have b1_1 : u1.1 v 6 = nI n := by rw [p1_1]; exact b1
  have b2_1 : u1.1 v 7 = nI l.1 := by rw [p1_1]; exact b2
  have b3_1 : u1.1 v 8 = nI l.2 := by rw [p1_1]; exact b3
  refine kjZ_y rfl rfl 5 _ _ _ _ ty1 ?_
  refine (And.intro (Nat.le_of_ble_eq_true rfl) (And.intro (Or.inl ⟨(Nat.le_of_ble_eq_true rfl), (by assumption)⟩) (And.intro (Nat.le_of_ble_eq_true rfl) (And.intro (Nat.le_of_ble_eq_true rfl) (kjY_mono ty1 (fun q_ u2 ty2 xu2 h_ => ?_) (k_cutv (p := 2) ty1 kv1 fc1 kc1 b1_1 b2_1 b3_1 hi g7 (by omega) _ _ _ rfl e1 rfl))))))
  obtain ⟨rfl, p1_2, p2_2, p3_2, p4_2, p5_2, p6_2⟩ := h_
  intro _ _
  have kv2 : (u2.2.2.2.1 v).1 = 11 := by rw [p2_2, p2_1]; exact kv
  have fc2 : u2.2.2.1 59 10 = some rc := by rw [p2_2, p2_1]; exact fc
  have kc2 : u2.2.2.2.1 rc = (23, NC) := by rw [p2_2, p2_1]; exact kc
  have b1_2 : u2.1 v 6 = nI n := by rw [p1_2, p1_1]; exact b1
  have b2_2 : u2.1 v 7 = nI l.1 := by rw [p1_2, p1_1]; exact b2
  have b3_2 : u2.1 v 8 = nI l.2 := by rw [p1_2, p1_1]; exact b3
  refine kjZ_y rfl rfl 5 _ _ _ _ ty2 ?_
  refine (And.intro (Nat.le_of_ble_eq_true rfl) (And.intro (Or.inl ⟨(Nat.le_of_ble_eq_true rfl), (by assumption)⟩) (And.intro (Nat.le_of_ble_eq_true rfl) (And.intro (Nat.le_of_ble_eq_true rfl) (kjY_mono ty2 (fun q_ u3 ty3 xu3 h_ => ?_) (k_cutv (p := 1) ty2 kv2 fc2 kc2 b1_2 b2_2 b3_2 hj g7 (by omega) _ _ _ rfl e2 rfl))))))
  obtain ⟨rfl, p1_3, p2_3, p3_3, p4_3, p5_3, p6_3⟩ := h_
  intro _ _
  have kv3 : (u3.2.2.2.1 v).1 = 11 := by rw [p2_3, p2_2, p2_1]; exact kv
  have fc3 : u3.2.2.1 59 10 = some rc := by rw [p2_3, p2_2, p2_1]; exact fc
  have kc3 : u3.2.2.2.1 rc = (23, NC) := by rw [p2_3, p2_2, p2_1]; exact kc
  have b1_3 : u3.1 v 6 = nI n := by rw [p1_3, p1_2, p1_1]; exact b1
  have b2_3 : u3.1 v 7 = nI l.1 := by rw [p1_3, p1_2, p1_1]; exact b2
  have b3_3 : u3.1 v 8 = nI l.2 := by rw [p1_3, p1_2, p1_1]; exact b3
  refine kjZ_y rfl rfl 5 _ _ _ _ ty3 ?_
  refine (And.intro (Nat.le_of_ble_eq_true rfl) (And.intro (Or.inl ⟨(Nat.le_of_ble_eq_true rfl), (by assumption)⟩) (And.intro (Nat.le_of_ble_eq_true rfl) (And.intro (Nat.le_of_ble_eq_true rfl) (kjY_mono ty3 (fun q_ u4 ty4 xu4 h_ => ?_) (k_cutv (p := 3) ty3 kv3 fc3 kc3 b1_3 b2_3 b3_3 hj g7 (by omega) _ _ _ rfl e2 rfl))))))
  obtain ⟨rfl, p1_4, p2_4, p3_4, p4_4, p5_4, p6_4⟩ := h_
  intro _ _
  have kv4 : (u4.2.2.2.1 v).1 = 11 := by rw [p2_4, p2_3, p2_2, p2_1]; exact kv
  refine kjZ_y rfl rfl 6 _ _ _ _ ty4 ?_
  refine (And.intro (by assumption) (And.intro (by assumption) (And.intro (Or.inl rfl) (fun ty4' => ?_))))
  have e9 : u4.1 v 6 - Int32.ofInt 1 = nI (n - 1) := by rw [p1_4, p1_3, p1_2, p1_1, b1]; exact pk_sub (b := 1) (by omega)
  have go : ∀ z2, kTY z2 → z2 = (mjIu u4.1 v 6 (u4.1 v 6 - Int32.ofInt 1), u4.2) → kjY kPP (kQQ Y) (d + 2) 125 39 [some (.ref v), some (.int x1), some (.int x2)] [] z2 (vuP σ il sl (vs.set s (v, k, n - 1, w, c, e, [], [cutL q0 i 1, cutL q1 j 1, cutL q2 i 1, cutL q3 j 1])) M T) := by
    intro z2 tz ez
    rw [e9] at ez
    refine kjZ_y rfl rfl 1 _ _ _ _ tz ?_
    refine And.intro rfl (And.intro rfl ?_)
    have st : Vst v rc σ z2 := (((((row_st p1_1 p2_1 p3_1).tr (row_st p1_2 p2_2 p3_2)).tr (row_st p1_3 p2_3 p3_3)).tr (row_st p1_4 p2_4 p3_4)).tr (size_st ez))
    obtain ⟨y1, y2, y3⟩ := st.all ty ow po a1 fc kc
    have eI : ∀ x, z2.1 v x = if x = 6 then nI (n - 1) else σ.1 v x := fun x => by
      rw [ez]; show mjIu u4.1 v 6 _ v x = _
      rw [mjIu_s, p1_4, p1_3, p1_2, p1_1]
    have eL : z2.2.1 = u4.2.1 := by rw [ez]
    have eD2 : z2.2.2.2.1 = σ.2.2.2.1 := congrArg (fun t => t.2.1) st.1
    have bq0 : wl (σ.2.1 rc) (l.1 + 0 * l.2) n = q0 := (d4 0 q0 rfl)
    have wq0 : wl (z2.2.1 rc) (l.1 + 0 * l.2) (n - 1) = cutL q0 i 1 := by
      rw [eL]; exact (wl_same fun j h1 h2 => (((p4_4 j (by omega)).trans (p4_3 j (by omega))).trans (p4_2 j (by omega)))).trans (wl_cut bq0 hi (fun j _ hj => p4_1 j hj) (fun j h1 h2 => p5_1 j h1 h2))
    have bq1 : wl (u2.2.1 rc) (l.1 + 1 * l.2) n = q1 := (wl_same fun j h1 h2 => ((p4_2 j (by omega)).trans (p6_1 j (by omega)))).trans (d4 1 q1 rfl)
    have wq1 : wl (z2.2.1 rc) (l.1 + 1 * l.2) (n - 1) = cutL q1 j 1 := by
      rw [eL]; exact (wl_same fun j h1 h2 => (p4_4 j (by omega))).trans (wl_cut bq1 hj (fun j _ hj => p4_3 j hj) (fun j h1 h2 => p5_3 j h1 h2))
    have bq2 : wl (u1.2.1 rc) (l.1 + 2 * l.2) n = q2 := (wl_same fun j h1 h2 => (p6_1 j (by omega))).trans (d4 2 q2 rfl)
    have wq2 : wl (z2.2.1 rc) (l.1 + 2 * l.2) (n - 1) = cutL q2 i 1 := by
      rw [eL]; exact (wl_same fun j h1 h2 => ((p4_4 j (by omega)).trans (p6_3 j (by omega)))).trans (wl_cut bq2 hi (fun j _ hj => p4_2 j hj) (fun j h1 h2 => p5_2 j h1 h2))
    have bq3 : wl (u3.2.1 rc) (l.1 + 3 * l.2) n = q3 := (wl_same fun j h1 h2 => (((p6_3 j (by omega)).trans (p6_2 j (by omega))).trans (p6_1 j (by omega)))).trans (d4 3 q3 rfl)
    have wq3 : wl (z2.2.1 rc) (l.1 + 3 * l.2) (n - 1) = cutL q3 j 1 := by
      rw [eL]; exact (wl_cut bq3 hj (fun j _ hj => p4_4 j hj) (fun j h1 h2 => p5_4 j h1 h2))
    refine ⟨rfl, ?_, y1, y2, y3⟩
    refine hG.upd ty hs hl rfl rfl st (fun j z => ?_) ?_
    · rw [eL]
      have z : ¬ (l.1 ≤ j ∧ j < l.1 + pts k * l.2) := fun y => z ⟨hk0, y⟩
      rw [hp1] at z
      by_cases z1 : j < l.1
      · exact ((((p4_4 j (by omega)).trans (p4_3 j (by omega))).trans (p4_2 j (by omega))).trans (p4_1 j (by omega)))
      · exact ((((p6_4 j (by omega)).trans (p6_3 j (by omega))).trans (p6_2 j (by omega))).trans (p6_1 j (by omega)))
    · refine ⟨⟨by rw [eD2]; exact a1, a2, (eI 1).trans a3, (eI 2).trans a4, ?_, (eI 4).trans a6, (eI 5).trans a7⟩, ⟨(eI 6), (eI 7).trans b2, (eI 8).trans b3⟩, (show n - 1 ≤ l.2 by omega), fun z => absurd z hk0, fun _ => ⟨rfl, Or.inl (by rw [hp1]; rfl), by rw [eD2]; exact d3r, fun p q' hp => ?_⟩⟩
      · rw [eL]; rw [p3_4 v (fun z => hrcv z.symm), p3_3 v (fun z => hrcv z.symm), p3_2 v (fun z => hrcv z.symm), p3_1 v (fun z => hrcv z.symm)]; exact a5
      · have hp0 : p < 4 := (List.getElem?_eq_some_iff.mp hp).1
        have hp0 : p = 0 ∨ p = 1 ∨ p = 2 ∨ p = 3 := by omega
        rcases hp0 with hp0 | hp0 | hp0 | hp0
        · rw [hp0] at hp ⊢; cases hp; exact wq0
        · rw [hp0] at hp ⊢; cases hp; exact wq1
        · rw [hp0] at hp ⊢; cases hp; exact wq2
        · rw [hp0] at hp ⊢; cases hp; exact wq3
  exact go _ ty4' rfl
/-- a word of a part becomes another one -/
theorem k_vset (ty : kTY σ) (ow : OWN σ) (po : POT σ) {il sl : List Nat} {vs : List VR} {M T : Int32} (h : RST σ il sl vs M T) {s v k n : Nat} {w c : Int32} {e : Int64} {cs : List (List Int64)} (hs : vs[s]? = some (v, k, n, w, c, e, [], cs)) (hk : ¬ k = 0) {p i : Nat} {q : List Int64} (hp : cs[p]? = some q) (hi : i < n) (x1 x2 x3 : Int32) (e1 : x1 = nI p) (e2 : x2 = nI i) :
    kjY kPP (kQQ Y) (d + 2) 119 0 (mjL0 5 [.ref v, .int x1, .int x2, .int x3]) [] σ (vuP σ il sl (vs.set s (v, k, n, w, c, e, [], cs.set p (q.set i x3.toInt64))) M T) := by
  obtain ⟨ri, rs, rh, NK, rt, NT, rn, Nn, te, rc, NC, rm, Nm, ce, ls, hG⟩ := h
  obtain ⟨l, hl, hV, g1, g2, g3, g4, g5, g6, g7⟩ := hG.v hs
  have fc := hG.2.2.1.1.1
  have kc := hG.2.2.1.1.2
  obtain ⟨⟨a1, a2, a3, a4, a5, a6, a7⟩, ⟨b1, b2, b3⟩, c1, c2, c3⟩ := hV
  have a1 : σ.2.2.2.1 v = (11, 0) := a1
  have b1 : σ.1 v 6 = nI n := b1
  have b2 : σ.1 v 7 = nI l.1 := b2
  have b3 : σ.1 v 8 = nI l.2 := b3
  have g3 : n ≤ 131072 := g3
  have c1 : n ≤ l.2 := c1
  have kv : (σ.2.2.2.1 v).1 = 11 := by rw [a1]
  obtain ⟨d1, d2, d3, d4⟩ := c3 hk
  have d2 : cs.length = pts k := d2.elim id (fun z => by
    have z1 : cs = [] := z.1
    rw [z1] at hp; cases hp)
  have d3r : l.1 + pts k * l.2 ≤ ce ∨ (l.2 = 0 ∧ pts k * l.2 = 0 ∧ l.1 ≤ (σ.2.2.2.1 rc).2) := d3
  have d3 : l.1 + pts k * l.2 ≤ NC := by
    have d3s : l.1 + pts k * l.2 ≤ ce ∨ (l.2 = 0 ∧ pts k * l.2 = 0 ∧ l.1 ≤ NC) := by rw [kc] at d3r; exact d3r
    omega
  have d4 : ∀ p q, cs[p]? = some q → wl (σ.2.1 rc) (l.1 + p * l.2) n = q := d4
  have hpl : p < pts k := by rw [← d2]; exact (List.getElem?_eq_some_iff.mp hp).1
  have hpp := part_le (r := l.2) hpl
  have hrcv : ¬ rc = v := fun z => by rw [z, a1] at kc; exact absurd kc (by simp)
  have epl : σ.1 v 7 + x1 * σ.1 v 8 + x2 = nI (l.1 + p * l.2 + i) := by rw [b2, b3, e1, e2, pk_mul, nI_add, nI_add]
  have vp : vp_in (σ.1 v 7 + x1 * σ.1 v 8 + x2) NC := by rw [epl]; exact vp_in_nI (by omega) (by omega)
  have cp : (σ.1 v 7 + x1 * σ.1 v 8 + x2).toNatClampNeg = l.1 + p * l.2 + i := by rw [epl]; exact nI_clamp (by omega)
  refine kjZ_y rfl rfl 12 _ _ _ _ ty ?_
  refine (And.intro (by assumption) (And.intro (by assumption) (And.intro (Nat.le_of_ble_eq_true rfl) (And.intro (fun o1 => ?_) (fun o1 => ?_)))))
  · exact absurd (show x2 < 0 from o1) (by rw [e2]; exact nI_n0 (by omega))
  refine kjZ_y rfl rfl 4 _ _ _ _ ty ?_
  refine (And.intro (by assumption) (And.intro (fun o2 => ?_) (fun o2 => ?_)))
  · exact absurd (show σ.1 v 6 ≤ x2 from o2) (by rw [e2, b1, nle (by omega) (by omega)]; omega)
  refine kjZ_y rfl rfl 6 _ _ _ _ ty ?_
  refine (And.intro (by assumption) (And.intro (ty.k (by decide) rfl) (Exists.intro _ (And.intro fc (Or.inl (And.intro (kdq kc) (And.intro (fun o3 => ?_) (fun o3 => ?_))))))))
  · refine absurd (show nI (σ.2.2.2.1 rc).2 ≤ σ.1 v 7 + x1 * σ.1 v 8 + x2 from o3) ?_
    rw [kc, epl, nle (by omega) (by omega)]; omega
  refine kjZ_y rfl rfl 7 _ _ _ _ ty ?_
  refine (And.intro (by assumption) (And.intro (ty.k (by decide) rfl) (Exists.intro _ (And.intro fc (And.intro (kdk kc) (And.intro (kdv kc vp) (fun ty' => ?_)))))))
  have go : ∀ u, kTY u → u = (σ.1, mjLu σ.2.1 rc (σ.1 v 7 + x1 * σ.1 v 8 + x2).toNatClampNeg x3.toInt64, σ.2.2) → kjY kPP (kQQ Y) (d + 2) 119 29 [some (.ref v), some (.int x1), some (.int x2), some (.int x3), some (.int (σ.1 v 7 + x1 * σ.1 v 8 + x2))] [] u (vuP σ il sl (vs.set s (v, k, n, w, c, e, [], cs.set p (q.set i x3.toInt64))) M T) := by
    intro u tu eu
    rw [cp] at eu
    refine kjZ_y rfl rfl 1 _ _ _ _ tu ?_
    refine And.intro rfl (And.intro rfl ?_)
    have st : Vst v rc σ u := row_st (by rw [eu]) (by rw [eu]) (fun h z => by rw [eu]; exact mjLu_n z)
    obtain ⟨y1, y2, y3⟩ := st.all ty ow po a1 fc kc
    have eL : ∀ j, u.2.1 rc j = if j = l.1 + p * l.2 + i then x3.toInt64 else σ.2.1 rc j := fun j => by rw [eu]; exact mjLu_s
    have eI : u.1 = σ.1 := by rw [eu]
    have eD : u.2.2.2.1 = σ.2.2.2.1 := by rw [eu]
    refine ⟨rfl, ?_, y1, y2, y3⟩
    refine hG.upd ty hs hl rfl rfl st (fun j z => ?_) ?_
    · rw [eL, if_neg]
      intro y
      exact z ⟨hk, by omega, by show j < l.1 + pts k * l.2; omega⟩
    · refine ⟨⟨by rw [eD]; exact a1, a2, by rw [eI]; exact a3, by rw [eI]; exact a4, ?_, by rw [eI]; exact a6, by rw [eI]; exact a7⟩, ⟨by rw [eI]; exact b1, by rw [eI]; exact b2, by rw [eI]; exact b3⟩, c1, fun z => absurd z hk, fun _ => ⟨rfl, Or.inl (by rw [← d2]; exact List.length_set), by rw [eD]; exact d3r, fun p' q' hp' => ?_⟩⟩
      · rw [eu]; show mjLu σ.2.1 rc _ _ v 3 = _; rw [mjLu_n (fun z => hrcv z.symm)]; exact a5
      · rcases set_get hp' with ⟨z1, z2, z3⟩ | ⟨z1, z2⟩
        · rw [z1, z2]
          have w1 := d4 p q hp
          have hq : q.length = n := by rw [← w1, wl_len]
          refine wl_ext (by rw [List.length_set, hq]) (fun j x hj => ?_)
          show u.2.1 rc (l.1 + p * l.2 + j) = x
          rw [eL]
          rcases set_get hj with ⟨y1, y2, y3⟩ | ⟨y1, y2⟩
          · rw [if_pos (by omega), y2]
          · rw [if_neg (by omega)]; exact wl_at w1 y2
        · have w1 := d4 p' q' z2
          have hpl' : p' < pts k := by rw [← d2]; exact (List.getElem?_eq_some_iff.mp z2).1
          refine (wl_same fun j h1 h2 => ?_).trans w1
          rw [eL, if_neg]
          intro y
          have h1 : l.1 + p' * l.2 ≤ j := h1
          have h2 : j < l.1 + p' * l.2 + n := h2
          by_cases z : p' < p
          · have := Nat.mul_le_mul_right l.2 (show p' + 1 ≤ p from z)
            rw [Nat.succ_mul] at this; omega
          · have := Nat.mul_le_mul_right l.2 (show p + 1 ≤ p' by omega)
            rw [Nat.succ_mul] at this; omega
  exact go _ ty' rfl
end KVINS2
