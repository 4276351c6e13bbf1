/-! Orders: a member comes. -/
theorem SP_mp {a b : List AE} (e : a.map (fun z => z.1) = b.map (fun z => z.1)) (h : SP a) : SP b := by
  have h1 : (a.map (fun z => z.1)).Pairwise (fun a b => cmpW a b < 0) := List.pairwise_map.mpr h
  rw [e] at h1
  exact List.pairwise_map.mp h1
theorem insL_perm {α : Type} (q : List α) (i : Nat) (x : α) : (insL q i x).Perm (x :: q) := by
  unfold insL
  refine (List.perm_middle).trans ?_
  rw [List.take_append_drop]
theorem wtC_4 {x : KC} (hsort : x.2.2.2.2.2.2.1 = 4) (g : List AE → List AE) : wtC x.2.2.2.2.2 = ewS 4 x.2.2.2.2.2.2.2.2.2.2 ∧ wtC (esF g x.2.2.2.2.2) = ewS 4 (g x.2.2.2.2.2.2.2.2.2.2) := by
  have hne : ¬ (4 : Int32) = 0 := by decide
  unfold wtC esF
  rw [hsort, if_neg hne]
  refine ⟨rfl, ?_⟩
  show (if (4 : Int32) = 0 then _ else ewS 4 _) = _
  rw [if_neg hne]
section KOINS
variable {Y : Nat → MethodName × ByteArray} {d : Nat} {σ0 σ u : kS} {B ws nm nm' : List (List Int32)} {ks : List KC}
set_option maxHeartbeats 1000000 in
theorem kx_oins (ty : kTY σ) {P Q : List KC} {x : KC} (w : KWd σ0 B σ ws nm (P ++ x :: Q)) (hsort : x.2.2.2.2.2.2.1 = 4) (hwk : wkO x) (hZ : ZP x.2.2.2.2.2.2.2.2.2.2) {k : Nat} {v : List Int32} (hk : nm[k]? = some v) (hno : ¬ nmF v x.2.2.2.2.2.2.2.2.2.2 = true) (hcap : 4 * (2 * x.2.2.2.2.2.2.2.2.2.2.length + 1) + clA (skA (P ++ x :: Q)) ≤ 49152) (sc : Int64) (x2 x3 : Int32) (e2 : x2 = nI (nmC v x.2.2.2.2.2.2.2.2.2.2)) (e3 : x3 = nI k) :
    kjY kPP (kQQ Y) (d + 3) 231 0 (mjL0 6 [.ref 75, .ref x.1, .int x2, .int x3, .long sc]) [] σ (fun r u => r = none ∧ ∃ j, lpP sc v x.2.2.2.2.2.2.2.2.2.2 j ∧ KWd σ0 B u ws nm (P ++ mkK x (esF (fun es => insL es j (v, [], sc)) x.2.2.2.2.2) :: Q) ∧ SCl scA σ u) := by
  obtain ⟨fr, vs, e0, q0, q1, q2, q3, fs, hR, hV, a1, ⟨b3, b4⟩, ⟨c1, c3, c0, c2, hp, hsp⟩, hd, s6, hn6, s4⟩ := w.o4 hsort
  have hms := STO.ms hR hV
  have hnd := hR.nd
  have hw := w.2.2.1.1
  have kv : (σ.2.2.2.1 x.1).1 = 11 := by rw [hd]
  have hcap2 : pts 4 * (2 * x.2.2.2.2.2.2.2.2.2.2.length + 1) + clS vs ≤ 49152 := by rw [hms.2]; exact hcap
  have hsl := (List.getElem?_eq_some_iff.mp a1).1
  have he : ∀ z ∈ fs, B8 z.1 := fun z hz => by
    obtain ⟨i, hi, g⟩ := List.mem_iff_getElem.mp hz
    obtain ⟨k9, -, g2⟩ := c0.2 i z.1 (by rw [List.getElem?_map, List.getElem?_eq_getElem hi, g]; rfl)
    exact hw.b8 ty g2
  have ec : nmC v x.2.2.2.2.2.2.2.2.2.2 = skI v fs := by rw [skI_cnt hsp]; exact (hp.countP_eq _).symm
  have hnt : ¬ skT v fs = true := by
    rw [skT_any hsp (hw.b8 ty hk) he]
    have : nmF v fs = nmF v x.2.2.2.2.2.2.2.2.2.2 := by unfold nmF; exact hp.any_eq
    rw [this]; exact hno
  rw [ec] at e2
  have hil := skI_le v fs
  have hfl := hp.length_eq
  refine kjZ_y rfl rfl 8 _ _ _ _ ty ?_
  refine (And.intro (ty.k (by decide) rfl) (And.intro (by assumption) (And.intro (Nat.le_of_ble_eq_true rfl) (And.intro (Or.inl ⟨(Nat.le_of_ble_eq_true rfl), (ty.k (by decide) rfl)⟩) (And.intro (Nat.le_of_ble_eq_true rfl) (And.intro (Nat.le_of_ble_eq_true rfl) (kjY_mono ty (fun q_ u1 ty1 xu1 h_ => ?_) (k_growCells ty w.2.1.1 w.2.1.2 hR a1 (by decide) (by rfl) hcap2 _ (by rw [s6]; exact nI_1 _)))))))))
  obtain ⟨rfl, r1, ⟨ρ, r2, r3, r4⟩, o1, p1, d1⟩ := h_
  intro _ _
  have kv1 : (u1.2.2.2.1 x.1).1 = 11 := xu1.k ty kv (by decide)
  have hw1 : WRD u1 nm := (w.k0.sto ty d1 (by decide) (by decide) o1 p1).1.2.2.1.1
  refine kjZ_y rfl rfl 7 _ _ _ _ ty1 ?_
  refine (And.intro (Nat.le_of_ble_eq_true rfl) (And.intro (Or.inl ⟨(Nat.le_of_ble_eq_true rfl), (ty1.k (by decide) rfl)⟩) (And.intro (Nat.le_of_ble_eq_true rfl) (And.intro (Nat.le_of_ble_eq_true rfl) (kjY_mono ty1 (fun q_ u2 ty2 xu2 h_ => ?_) (k_linePlace ty1 hw1 r1 a1 (show ¬ (4 : Nat) = 0 by decide) (q1 := q1) (q3 := q3) rfl rfl c1 c3 rfl (by omega) hZ hk sc _ e3))))))
  obtain ⟨rfl, j, rfl, hj⟩ := h_
  intro _ _
  have hjl := hj.1
  refine kjZ_y rfl rfl 3 _ _ _ _ ty2 ?_
  refine (And.intro (Nat.le_of_ble_eq_true rfl) (And.intro (Or.inl ⟨(Nat.le_of_ble_eq_true rfl), (by assumption)⟩) (And.intro (Nat.le_of_ble_eq_true rfl) (And.intro (Nat.le_of_ble_eq_true rfl) (kjY_mono ty2 (fun q_ u3 ty3 xu3 h_ => ?_) (k_insertS ty2 o1 p1 r1 a1 rfl (i := skI v fs) (j := j) (by omega) hjl ⟨r2, r3, r4⟩ _ _ _ _ e2 rfl))))))
  obtain ⟨rfl, r5, o2, p2, d2⟩ := h_
  intro _ _
  have kv3 : (u3.2.2.2.1 x.1).1 = 11 := xu3.k ty2 kv1 (by decide)
  have a2 : (vs.set x.2.2.1 (x.1, 4, x.2.2.2.2.2.2.2.2.2.2.length + 1, x.2.2.2.1, x.2.2.2.2.1, e0, [], [insL q0 (skI v fs) x3.toInt64, insL q1 j x3.toInt64, insL q2 (skI v fs) sc, insL q3 j sc]))[x.2.2.1]? = some (x.1, 4, x.2.2.2.2.2.2.2.2.2.2.length + 1, x.2.2.2.1, x.2.2.2.2.1, e0, [], [insL q0 (skI v fs) x3.toInt64, insL q1 j x3.toInt64, insL q2 (skI v fs) sc, insL q3 j sc]) := by rw [List.getElem?_set, if_pos rfl, if_pos hsl]
  have w4 : u3.1 x.1 4 = x.2.2.2.1 := by
    obtain ⟨_, _, _, _, _, _, _, _, _, _, _, _, _, _, _, hG⟩ := r5
    obtain ⟨_, _, hV4, -⟩ := hG.v a2
    exact hV4.1.2.2.2.2.2.1
  have hw3 : WRD u3 nm := (w.k0.sto ty (Ch.tr ty (by decide) (d1.va (by decide) (by decide)) (d2.va (by decide) (by decide))) (by decide) (by decide) o2 p2).1.2.2.1.1
  refine kjZ_y rfl rfl 8 _ _ _ _ ty3 ?_
  refine (And.intro (by assumption) (And.intro (ty3.k (by decide) rfl) (And.intro (Nat.le_of_ble_eq_true rfl) (And.intro (Or.inl ⟨(Nat.le_of_ble_eq_true rfl), (ty3.k (by decide) rfl)⟩) (And.intro (Nat.le_of_ble_eq_true rfl) (And.intro (Nat.le_of_ble_eq_true rfl) (kjY_mono ty3 (fun q_ u4 ty4 xu4 h_ => ?_) (k_wlen ty3 hw3 x3))))))))
  obtain ⟨rfl, yl, rfl, ql⟩ := h_
  intro _ _
  have eyl := ql k _ e3 hk
  refine kjZ_y rfl rfl 3 _ _ _ _ ty4 ?_
  refine (And.intro (by assumption) (And.intro (Or.inl rfl) (fun ty4' => ?_)))
  have go : ∀ z, kTY z → z = (mjIu u4.1 x.1 4 (u4.1 x.1 4 + ((Int8.ofInt 48).toInt32 + yl)), u4.2) → kjY kPP (kQQ Y) (d + 3) 231 29 [some (.ref 75), some (.ref x.1), some (.int x2), some (.int x3), some (.long sc), none] [] z (fun r u => r = none ∧ ∃ j, lpP sc v x.2.2.2.2.2.2.2.2.2.2 j ∧ KWd σ0 B u ws nm (P ++ mkK x (esF (fun es => insL es j (v, [], sc)) x.2.2.2.2.2) :: Q) ∧ SCl scA σ u) := by
    intro z tz ez
    refine kjZ_y rfl rfl 1 _ _ _ _ tz ?_
    refine And.intro rfl (And.intro rfl ?_)
    obtain ⟨m1, m2, m3, m4⟩ := r5.wgt ty4 o2 p2 a2 (u4.1 x.1 4 + ((Int8.ofInt 48).toInt32 + yl))
    rw [← ez] at m1 m2 m3 m4
    rw [List.set_set] at m1
    obtain ⟨hwt1, hwt2⟩ := wtC_4 hsort (fun es => insL es j (v, [], sc))
    have ewt' : u4.1 x.1 4 + ((Int8.ofInt 48).toInt32 + yl) = nI (wtC (esF (fun es => insL es j (v, [], sc)) x.2.2.2.2.2)) := by
      rw [w4, hwk, eyl, show (Int8.ofInt 48).toInt32 = nI 48 by decide, nI_add, nI_add]
      congr 1
      rw [hwt1, hwt2, ewS_ins]; rfl
    rw [ewt', b3] at m1
    have m6 : RST z ((P ++ x :: Q).map (fun x => x.2.1)) ((P ++ x :: Q).map (fun x => x.2.2.1) ++ fr) (vs.set x.2.2.1 (x.1, 4, (insL x.2.2.2.2.2.2.2.2.2.2 j ((v, [], sc) : AE)).length, nI (wtC (esF (fun es => insL es j (v, [], sc)) x.2.2.2.2.2)), x.2.2.2.2.1, endE x.2.2.2.2.2, [], [insL q0 (skI v fs) x3.toInt64, insL q1 j x3.toInt64, insL q2 (skI v fs) sc, insL q3 j sc])) (cSum (P ++ x :: Q)) (tSum (P ++ x :: Q)) := by
      rw [insL_len]; exact m1
    obtain ⟨k1, k2⟩ := w.k0.sto ty (Ch.tr ty (by decide) (Ch.tr ty (by decide) (d1.va (by decide) (by decide)) (d2.va (by decide) (by decide))) (m4.va (by decide) (by decide))) (by decide) (by decide) m2 m3
    refine ⟨rfl, j, hj, k1.o4 hV hnd hsort b4 (fun es => insL es j (v, [], sc)) (fs := insL fs (skI v fs) (v, [], sc)) ?_ ?_ ?_ ?_ ?_ ?_ m6, k2⟩
    · rw [map_insL, e3]; exact c1.ins hk (by rw [List.length_map]; exact hjl)
    · rw [map_insL, c3]
    · rw [map_insL, e3]; exact c0.ins hk (by rw [List.length_map]; exact hil)
    · rw [map_insL, c2]
    · exact ((insL_perm fs _ _).trans (List.Perm.cons _ hp)).trans (insL_perm _ _ _).symm
    · refine SP_mp ?_ (pt_SP (v := v) hsp)
      rw [ptE_no hnt, map_insL, map_insL]
  exact go _ ty4' rfl
end KOINS
