/-! A word's number, a member's coming: the pot stays. -/
section KPOT1
variable {Y : Nat → MethodName × ByteArray} {d : Nat} {σ0 σ u : kS} {B ws nm nm' : List (List Int32)} {ks : List KC}
def wiQ (σ0 : kS) (B : List (List Int32)) (σ : kS) (ws nm : List (List Int32)) (ks : List KC) (v : List Int32) : kK := fun r u => wiP σ0 B σ ws nm ks v r u ∧ ∀ nm ms, PTT σ nm ms → PTT u nm ms
theorem kx_idOf2 (ty : kTY σ) (w : KWd σ0 B σ ws nm ks) (hB : BOK B ws) {g M a n : Nat} (kg : σ.2.2.2.1 g = (21, M)) (hM : M ≤ 600000) (ha : a + n ≤ M) (hg : ¬ σ.2.2.1 48 0 = some g) (hv : wd (σ.1 g) a n ∈ B) (x2 x3 : Int32) (e2 : x2 = nI a) (e3 : x3 = nI n) :
    kjY kPP (kQQ Y) (d + 4) 76 0 (mjL0 9 [.ref 48, .ref g, .int x2, .int x3]) [] σ (wiQ σ0 B σ ws nm ks (wd (σ.1 g) a n)) := by
  have hnd : nm.Nodup := by
    obtain ⟨rb, NB, rs, NS, rc, -, -, -, -, -, -, -, a6, -⟩ := w.2.2.1.1
    exact a6
  have hsub : wd (σ.1 g) a n ∉ nm → (nm ++ [wd (σ.1 g) a n]).Nodup ∧ ∀ z ∈ nm ++ [wd (σ.1 g) a n], z ∈ B := fun hn => ⟨by
    rw [List.nodup_append]
    exact ⟨hnd, List.nodup_cons.mpr ⟨List.not_mem_nil, List.nodup_nil⟩, fun p hp q hq => by rw [List.mem_singleton.mp hq]; exact fun z => hn (z ▸ hp)⟩, fun z hz => by
    rcases List.mem_append.mp hz with y | y
    · exact w.2.2.1.2 z y
    · rw [List.mem_singleton.mp y]; exact hv⟩
  refine kjY_mono ty (fun r u _ _ q => ?_) (k_idOf ty w.2.1.1 w.2.1.2 w.2.2.1.1 kg hM ha hg (fun hn => ?_) x2 x3 e2 e3)
  · obtain ⟨i, nm', q1, q2, q3, q4, q5, q6, q7⟩ := q
    have hsc : SCl scA σ u := q7.sc ty (fun p hp => ⟨(scA_ok p hp).1, (scA_ok p hp).2.1, (scA_ok p hp).2.2.1⟩)
    have hpt : ∀ nm ms, PTT σ nm ms → PTT u nm ms := fun nm ms h => h.fr ty w.2.1.1 q7 (by decide) (by decide)
    rcases q3 with rfl | ⟨q3, rfl⟩
    · exact ⟨⟨i, nm', q1, q2, PRE.rf, w.wrd ty q7 q5 q6 q4 PRE.rf w.2.2.1.2, hsc⟩, hpt⟩
    · exact ⟨⟨i, _, q1, q2, ⟨_, rfl⟩, w.wrd ty q7 q5 q6 q4 ⟨_, rfl⟩ (hsub q3).2, hsc⟩, hpt⟩
  · obtain ⟨s1, s2⟩ := hsub hn
    have l1 := sl_sub s1 s2
    have l2 := List.Nodup.length_le_of_subset s1 s2
    rw [sl_app] at l1
    rw [List.length_append] at l2
    have l1 : sl nm + ((wd (σ.1 g) a n).length + 0) ≤ sl B := l1
    rw [wd_len] at l1
    have l2 : nm.length + 1 ≤ B.length := l2
    have := hB.1; have := hB.2.1
    omega
theorem kx_id2 (ty : kTY σ) (w : KWd σ0 B σ ws nm ks) (hB : BOK B ws) {i : Nat} {v : List Int32} (hv : ws[i]? = some v) (x : Int32) (ex : x = nI i) : kjY kPP (kQQ Y) (d + 5) 103 0 (mjL0 2 [.ref 53, .int x]) [] σ (wiQ σ0 B σ ws nm ks v) := by
  obtain ⟨g, M, a, h1, h2, h3, h4, h4', h5, h6, h7, h8⟩ := w.arg hv
  have vx : vp_in x 1024 := by rw [ex]; exact vp_in_nI (by omega) (by decide)
  have cx : x.toNatClampNeg = i := by rw [ex]; exact nI_clamp (by omega)
  have hng : ¬ σ.2.2.1 48 0 = some g := RQ.ne w.2.1.1 h2 (q := (48, 0)) (by decide) (by decide)
  have e1 : σ.1 54 x.toNatClampNeg = nI a := by rw [cx]; exact h5
  have e2 : σ.1 55 x.toNatClampNeg = nI v.length := by rw [cx]; exact h6
  refine kjZ_y rfl rfl 2 _ _ _ _ ty ?_
  refine And.intro (fun c => ?_) (fun c => ?_)
  · exact absurd (show x < 0 from c) (by rw [ex]; exact nI_n0 (by omega))
  refine kjZ_y rfl rfl 4 _ _ _ _ ty ?_
  refine (And.intro (ty.k (by decide) rfl) (And.intro (fun c2 => ?_) (fun c2 => ?_)))
  rotate_left
  · exact absurd (show x < σ.1 53 4 by rw [ex, h3, nlt (by omega) (by omega)]; exact h4) c2
  refine kjZ_y rfl rfl 13 _ _ _ _ ty ?_
  refine (And.intro (ty.k (by decide) rfl) (And.intro (ty.k (by decide) rfl) (Exists.intro _ (And.intro h1.1 (And.intro (ty.k (by decide) rfl) (Or.inl (And.intro (ty.k (by decide) rfl) (And.intro (kdw ty (by decide) rfl vx) (And.intro (ty.k (by decide) rfl) (Or.inl (And.intro (ty.k (by decide) rfl) (And.intro (kdw ty (by decide) rfl vx) (And.intro (Nat.le_of_ble_eq_true rfl) (And.intro (Or.inl ⟨(Nat.le_of_ble_eq_true rfl), (ty.k (by decide) rfl)⟩) (And.intro (Nat.le_of_ble_eq_true rfl) (And.intro (Nat.le_of_ble_eq_true rfl) (kjY_mono ty (fun q_ u1 ty1 xu1 h_ => ?_) (kx_idOf2 ty w hB h1.2.1 h1.2.2 h7 hng (by rw [h8]; exact hB.2.2.2 v (List.mem_of_getElem? hv)) _ _ e1 e2))))))))))))))))))
  have q1 := h_
  intro _ _
  rw [h8] at q1
  obtain ⟨⟨k, nm', rfl, q⟩, q9⟩ := q1
  refine kjZ_y rfl rfl 1 _ _ _ _ ty1 ?_
  refine And.intro rfl (And.intro (Or.inl rfl) ?_)
  exact ⟨⟨k, nm', rfl, q⟩, q9⟩
def amQ (σ0 : kS) (B : List (List Int32)) (σ : kS) (ws nm : List (List Int32)) (P : List KC) (x : KC) (Q : List KC) (c : Prop) (g : List AE → List AE) : kK := fun r u => amP σ0 B σ ws nm P x Q c g r u ∧ kbK σ u
set_option maxHeartbeats 1000000 in
theorem kx_addM2 (ty : kTY σ) {P Q : List KC} {x : KC} (w : KWd σ0 B σ ws nm (P ++ x :: Q)) (hsort : x.2.2.2.2.2.2.1 = 3) (hwk : wkO x) (hSP : SP x.2.2.2.2.2.2.2.2.2.2) {k : Nat} {v : List Int32} (hk : nm[k]? = some v) (hcap : 2 * x.2.2.2.2.2.2.2.2.2.2.length + 1 + clA (skA (P ++ x :: Q)) ≤ 49152) (x2 : Int32) (e2 : x2 = nI k) :
    kjY kPP (kQQ Y) (d + 3) 218 0 (mjL0 4 [.ref 71, .ref x.1, .int x2]) [] σ (amQ σ0 B σ ws nm P x Q (skT v x.2.2.2.2.2.2.2.2.2.2 = true) (ptE v)) := by
  obtain ⟨fr, vs, k0, n0, e0, t0, cs0, hR, hV, a1, hav, hd, ht, s6, hn6, s4⟩ := w.op_
  obtain ⟨b1, b2, b3, b4, b5, b6⟩ := hav
  have b1 : x.2.2.2.2.2.2.1 = nI k0 := b1
  have hk1 : k0 = 3 := by
    rw [hsort] at b1
    exact ((nI_eq (a := 3) (by decide) (by have : k0 ≤ 4 := b2; omega)).mp b1).symm
  subst hk1
  have ht0 := ht (by decide)
  subst ht0
  have b5 : n0 = x.2.2.2.2.2.2.2.2.2.2.length := b5
  obtain ⟨q, hq, hid⟩ := b6.2.1 (Or.inr rfl)
  have hq : cs0 = [q] := hq
  subst hq
  have b5 : n0 = x.2.2.2.2.2.2.2.2.2.2.length := b5
  have hms := STO.ms hR hV
  have hnd := hR.nd
  have kv : (σ.2.2.2.1 x.1).1 = 11 := by rw [hd]
  have hcap2 : pts 3 * (2 * n0 + 1) + clS vs ≤ 49152 := by rw [hms.2, b5]; show 1 * _ + _ ≤ _; omega
  have hsl9 := skR_lt (v := v) (es := x.2.2.2.2.2.2.2.2.2.2) (by omega)
  have hil := skI_le v x.2.2.2.2.2.2.2.2.2.2
  refine kjZ_y rfl rfl 5 _ _ _ _ ty ?_
  refine (And.intro (ty.k (by decide) rfl) (And.intro (Nat.le_of_ble_eq_true rfl) (And.intro (Or.inl ⟨(Nat.le_of_ble_eq_true rfl), (ty.k (by decide) rfl)⟩) (And.intro (Nat.le_of_ble_eq_true rfl) (And.intro (Nat.le_of_ble_eq_true rfl) (kjY_mono ty (fun q_ u0 ty0 xu0 h_ => ?_) (kx_plM ty w (Or.inr hsort) hSP hk _ e2)))))))
  obtain ⟨rfl, rfl⟩ := h_
  intro _ _
  refine kjZ_y rfl rfl 3 _ _ _ _ ty0 ?_
  refine (And.intro (Nat.le_of_ble_eq_true rfl) (And.intro (fun c => ?_) (fun c => ?_)))
  rotate_left
  · refine kjZ_y rfl rfl 2 _ _ _ _ ty0 ?_
    refine And.intro rfl (And.intro (Or.inr (Or.inl ⟨rfl, Or.inl rfl⟩)) ?_)
    exact ⟨Or.inl ⟨Decidable.byContradiction fun z => c (hsl9.1.mpr z), rfl, rfl⟩, kbK.rf⟩
  have hno := hsl9.1.mp c
  have ei := hsl9.2 hno
  refine kjZ_y rfl rfl 8 _ _ _ _ ty0 ?_
  refine (And.intro (ty0.k (by decide) rfl) (And.intro (by assumption) (And.intro (Nat.le_of_ble_eq_true rfl) (And.intro (Or.inl ⟨(Nat.le_of_ble_eq_true rfl), (ty0.k (by decide) rfl)⟩) (And.intro (Nat.le_of_ble_eq_true rfl) (And.intro (Nat.le_of_ble_eq_true rfl) (kjY_mono ty0 (fun q_ u1 ty1 xu1 h_ => ?_) (k_growCells ty0 w.2.1.1 w.2.1.2 hR a1 (by decide) (by rfl) hcap2 _ (by rw [s6]; exact nI_1 n0)))))))))
  obtain ⟨rfl, r1, ⟨ρ, r2, r3, r4⟩, o1, p1, c1⟩ := h_
  intro _ _
  have kv1 : (u1.2.2.2.1 x.1).1 = 11 := xu1.k ty0 kv (by decide)
  refine kjZ_y rfl rfl 7 _ _ _ _ ty1 ?_
  refine (And.intro (Nat.le_of_ble_eq_true rfl) (And.intro (Or.inl ⟨(Nat.le_of_ble_eq_true rfl), (by assumption)⟩) (And.intro (Nat.le_of_ble_eq_true rfl) (And.intro (Nat.le_of_ble_eq_true rfl) (kjY_mono ty1 (fun q_ u2 ty2 xu2 h_ => ?_) (k_insert1 ty1 o1 p1 r1 a1 (Or.inr rfl) (i := skI v x.2.2.2.2.2.2.2.2.2.2) (by omega) ⟨r2, r3, r4⟩ _ _ _ ei))))))
  obtain ⟨rfl, r5, o2, p2, c2⟩ := h_
  intro _ _
  have kv2 : (u2.2.2.2.1 x.1).1 = 11 := xu2.k ty1 kv1 (by decide)
  have hsl := (List.getElem?_eq_some_iff.mp a1).1
  obtain ⟨i, hi9⟩ : ∃ i, i = skI v x.2.2.2.2.2.2.2.2.2.2 := ⟨_, rfl⟩
  rw [← hi9] at r5 hil
  have a2 : (vs.set x.2.2.1 (x.1, 3, n0 + 1, x.2.2.2.1, x.2.2.2.2.1, e0, [], [insL q i x2.toInt64]))[x.2.2.1]? = some (x.1, 3, n0 + 1, x.2.2.2.1, x.2.2.2.2.1, e0, [], [insL q i x2.toInt64]) := by rw [List.getElem?_set, if_pos rfl, if_pos hsl]
  have w4 : u2.1 x.1 4 = x.2.2.2.1 := by
    obtain ⟨_, _, _, _, _, _, _, _, _, _, _, _, _, _, _, hG⟩ := r5
    obtain ⟨_, _, hV4, -⟩ := hG.v a2
    exact hV4.1.2.2.2.2.2.1
  have hw2 : WRD u2 nm := (w.k0.sto ty (Ch.tr ty (by decide) (c1.va (by decide) (by decide)) (c2.va (by decide) (by decide))) (by decide) (by decide) o2 p2).1.2.2.1.1
  refine kjZ_y rfl rfl 8 _ _ _ _ ty2 ?_
  refine (And.intro (by assumption) (And.intro (ty2.k (by decide) rfl) (And.intro (Nat.le_of_ble_eq_true rfl) (And.intro (Or.inl ⟨(Nat.le_of_ble_eq_true rfl), (ty2.k (by decide) rfl)⟩) (And.intro (Nat.le_of_ble_eq_true rfl) (And.intro (Nat.le_of_ble_eq_true rfl) (kjY_mono ty2 (fun q_ u3 ty3 xu3 h_ => ?_) (k_wlen ty2 hw2 x2))))))))
  obtain ⟨rfl, yl, rfl, ql⟩ := h_
  intro _ _
  have eyl := ql k _ e2 hk
  refine kjZ_y rfl rfl 3 _ _ _ _ ty3 ?_
  refine (And.intro (by assumption) (And.intro (Or.inl rfl) (fun ty3' => ?_)))
  have go : ∀ z x3, kTY z → z = (mjIu u3.1 x.1 4 (u3.1 x.1 4 + ((Int8.ofInt 24).toInt32 + yl)), u3.2) → kjY kPP (kQQ Y) (d + 3) 218 36 [some (.ref 71), some (.ref x.1), some (.int x2), some (.int x3)] [] z (amQ σ0 B u0 ws nm P x Q (skT v x.2.2.2.2.2.2.2.2.2.2 = true) (ptE v)) := by
    intro z x3 tz ez
    refine kjZ_y rfl rfl 2 _ _ _ _ tz ?_
    refine And.intro rfl (And.intro (Or.inr (Or.inl ⟨rfl, Or.inr rfl⟩)) ?_)
    obtain ⟨m1, m2, m3, m4⟩ := r5.wgt ty3 o2 p2 a2 (u3.1 x.1 4 + ((Int8.ofInt 24).toInt32 + yl))
    rw [← ez] at m1 m2 m3 m4
    rw [List.set_set] at m1
    have hne : ¬ (3 : Int32) = 0 := by decide
    have ept : ptE v x.2.2.2.2.2.2.2.2.2.2 = insL x.2.2.2.2.2.2.2.2.2.2 i (v, [], 0) := by rw [hi9]; exact ptE_no hno
    have ewt' : u3.1 x.1 4 + ((Int8.ofInt 24).toInt32 + yl) = nI (wtC (esF (ptE v) x.2.2.2.2.2)) := by
      rw [w4, hwk, eyl, show (Int8.ofInt 24).toInt32 = nI 24 by decide, nI_add, nI_add]
      congr 1
      unfold wtC esF
      rw [hsort, if_neg hne]
      show _ = if (3 : Int32) = 0 then _ else ewS 3 (ptE v x.2.2.2.2.2.2.2.2.2.2)
      rw [if_neg hne, ept, ewS_ins]; rfl
    rw [ewt'] at m1
    obtain ⟨q1, q2⟩ := w.k0.sto ty0 (Ch.tr ty0 (by decide) (Ch.tr ty0 (by decide) (c1.va (by decide) (by decide)) (c2.va (by decide) (by decide))) (m4.va (by decide) (by decide))) (by decide) (by decide) m2 m3
    have kb9 : kbK u0 z := kb_ch ty0 w.2.1.1 (Ch.tr ty0 (by decide) (Ch.tr ty0 (by decide) (c1.va (by decide) (by decide)) (c2.va (by decide) (by decide))) (m4.va (by decide) (by decide))) (by decide) (by decide)
    refine ⟨Or.inr ⟨hno, rfl, q1.cl hV hnd (k := 3) (n := n0 + 1) (e := e0) (t := []) (cs := [insL q i x2.toInt64]) rfl ⟨b1, b2, b3, b4, ?_, ⟨fun z => absurd z (show ¬ (3 : Nat) = 0 by decide), fun _ => ⟨_, rfl, ?_⟩, fun z => absurd z (show ¬ (3 : Nat) = 2 by decide), fun z => absurd z (show ¬ (3 : Nat) = 4 by decide)⟩⟩ rfl m1, q2⟩, kb9⟩
    · show n0 + 1 = (ptE v x.2.2.2.2.2.2.2.2.2.2).length; rw [ept, insL_len, b5]
    · show IDL nm _ ((ptE v x.2.2.2.2.2.2.2.2.2.2).map (fun z => z.1))
      rw [ept, map_insL, e2]
      exact hid.ins hk (by rw [List.length_map]; exact hil)
  exact go _ _ ty3' rfl
end KPOT1
