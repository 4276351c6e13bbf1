/-! LINSERT, LREM. -/
theorem fdE_none (w : List Int32) : ∀ es : List AE, (∀ (t : Nat) (z : AE), es[t]? = some z → ¬ cmpW z.1 w = 0) → fdE w es = none := by
  intro es
  induction es with
  | nil => intro h; rfl
  | cons y r ih =>
    intro h
    show (if cmpW y.1 w = 0 then some 0 else (fdE w r).map (fun i => i + 1)) = none
    rw [if_neg (h 0 y rfl), ih (fun t z hz => h (t + 1) z hz)]; rfl
theorem fdE_some (w : List Int32) : ∀ (es : List AE) (i : Nat) (z : AE), (∀ (t : Nat) (z : AE), t < i → es[t]? = some z → ¬ cmpW z.1 w = 0) → es[i]? = some z → cmpW z.1 w = 0 → fdE w es = some i := by
  intro es
  induction es with
  | nil => intro i z h hz; cases hz
  | cons y r ih =>
    intro i z h hz hc
    show (if cmpW y.1 w = 0 then some 0 else (fdE w r).map (fun i => i + 1)) = some i
    cases i with
    | zero => cases hz; rw [if_pos hc]
    | succ i => rw [if_neg (h 0 y (Nat.succ_pos _) rfl), ih i z (fun t z h1 h2 => h (t + 1) z (by omega) h2) hz hc]; rfl
section KLINS
variable {Y : Nat → MethodName × ByteArray} {d : Nat} {σ0 σ u : kS} {B ws nm nm' : List (List Int32)} {ks : List KC}
theorem WRD.inj (hw : WRD σ nm) {a b : Nat} {v w : List Int32} (ha : nm[a]? = some v) (hb : nm[b]? = some w) : nI a = nI b ↔ v = w := by
  obtain ⟨rb, NB, rs, NS, rc, -, ⟨-, -, -, -, h5, -⟩, h1, -, -, -, -, a6, -⟩ := hw
  have la := (List.getElem?_eq_some_iff.mp ha)
  have lb := (List.getElem?_eq_some_iff.mp hb)
  obtain ⟨la, ea⟩ := la
  obtain ⟨lb, eb⟩ := lb
  rw [nI_eq (by omega) (by omega)]
  constructor
  · intro z; subst z; rw [ha] at hb; cases hb; rfl
  · intro z; subst z
    exact (List.getElem?_inj la a6).mp (ha.trans hb.symm)
theorem WRD.cmp (ty : kTY σ) (hw : WRD σ nm) {a b : Nat} {v w : List Int32} (ha : nm[a]? = some v) (hb : nm[b]? = some w) : cmpW v w = 0 ↔ v = w := ⟨fun z => cmpW_eq _ _ (hw.b8 ty ha) (hw.b8 ty hb) z, fun z => by rw [z]; exact cmpW_self w⟩
theorem KWd.wat {P Q : List KC} {x : KC} (w : KWd σ0 B σ ws nm (P ++ x :: Q)) (hs : x.2.2.2.2.2.2.1 = 1 ∨ x.2.2.2.2.2.2.1 = 3) {i : Nat} {z : AE} (hz : x.2.2.2.2.2.2.2.2.2.2[i]? = some z) : ∃ km : Nat, nm[km]? = some z.1 := by
  obtain ⟨fr, vs, k, n, e, t, cs, hR, -, a1, hav, hd, -, h6, hn, -⟩ := w.op_
  obtain ⟨b1, b2, b3, b4, b5, b6⟩ := hav
  have b1 : x.2.2.2.2.2.2.1 = nI k := b1
  have b2 : k ≤ 4 := b2
  have hk : k = 1 ∨ k = 3 := by
    rcases hs with z | z
    · exact Or.inl ((nI_eq (a := 1) (by decide) (by omega)).mp (z.symm.trans b1)).symm
    · exact Or.inr ((nI_eq (a := 3) (by decide) (by omega)).mp (z.symm.trans b1)).symm
  obtain ⟨q0, hq0, hid⟩ := b6.2.1 hk
  obtain ⟨km, g1, g2⟩ := hid.2 i z.1 (by show (x.2.2.2.2.2.2.2.2.2.2.map (fun z => z.1))[i]? = _; rw [List.getElem?_map, hz]; rfl)
  exact ⟨km, g2⟩
theorem k_lins_l (K : kK) (tu : kTY u) {P Q : List KC} {y : KC} (wu : KWd σ0 B u ws nm (P ++ y :: Q)) (hs : y.2.2.2.2.2.2.1 = 1) {kw : Nat} {piv : List Int32} (hp : nm[kw]? = some piv) (x1 x2 x4 : Int32) (e4 : x4 = nI kw)
    (hK : ∀ i x5, x5 = nI i → i ≤ y.2.2.2.2.2.2.2.2.2.2.length → fdE piv y.2.2.2.2.2.2.2.2.2.2 = (if i < y.2.2.2.2.2.2.2.2.2.2.length then some i else none) → kjY kPP (kQQ Y) (d + 6) 197 63 [some (.ref 70), some (.int x1), some (.int x2), some (.ref y.1), some (.int x4), some (.int x5)] [] u K) :
    ∀ (f i : Nat) (x5 : Int32), i + f = y.2.2.2.2.2.2.2.2.2.2.length → x5 = nI i → (∀ t z, t < i → y.2.2.2.2.2.2.2.2.2.2[t]? = some z → ¬ cmpW z.1 piv = 0) →
    kjY kPP (kQQ Y) (d + 6) 197 52 [some (.ref 70), some (.int x1), some (.int x2), some (.ref y.1), some (.int x4), some (.int x5)] [] u K := by
  obtain ⟨z1, z2, kv⟩ := wu.sz (by rw [hs]; decide)
  intro f
  induction f with
  | zero =>
    intro i x5 hi e5 hno
    refine kjZ_y rfl rfl 4 _ _ _ _ tu ?_
    refine (And.intro (by assumption) (And.intro (fun c => ?_) (fun c => ?_)))
    rotate_left
    · refine absurd (show u.1 y.1 6 ≤ x5 from ?_) c
      rw [z1, e5, nle (by omega) (by omega)]; omega
    refine hK i x5 e5 (by omega) ?_
    rw [if_neg (by omega)]
    exact fdE_none _ _ (fun t z hz => hno t z (by have := (List.getElem?_eq_some_iff.mp hz).1; omega) hz)
  | succ f ih =>
    intro i x5 hi e5 hno
    refine kjZ_y rfl rfl 4 _ _ _ _ tu ?_
    refine (And.intro (by assumption) (And.intro (fun c => ?_) (fun c => ?_)))
    · refine absurd (show u.1 y.1 6 ≤ x5 from c) ?_
      rw [z1, e5, nle (by omega) (by omega)]; omega
    have hz : y.2.2.2.2.2.2.2.2.2.2[i]? = some y.2.2.2.2.2.2.2.2.2.2[i] := List.getElem?_eq_getElem (by omega)
    generalize y.2.2.2.2.2.2.2.2.2.2[i] = z at hz
    refine kjZ_y rfl rfl 3 _ _ _ _ tu ?_
    refine (And.intro (Nat.le_of_ble_eq_true rfl) (And.intro (Or.inl ⟨(Nat.le_of_ble_eq_true rfl), (by assumption)⟩) (And.intro (Nat.le_of_ble_eq_true rfl) (And.intro (Nat.le_of_ble_eq_true rfl) (kjY_mono tu (fun q_ u1 ty1 xu1 h_ => ?_) (kx_vat tu wu _))))))
    obtain ⟨rfl, ya, rfl, qa⟩ := h_
    intro _ _
    obtain ⟨km, ea, ga⟩ := qa (Or.inl hs) i z e5 hz
    have hcm := wu.2.2.1.1.cmp ty1 ga hp
    have hin := wu.2.2.1.1.inj ga hp
    refine kjZ_y rfl rfl 2 _ _ _ _ ty1 ?_
    refine And.intro (fun c2 => ?_) (fun c2 => ?_)
    · have c2 : ya = x4 := c2
      rw [ea, e4] at c2
      refine hK i x5 e5 (by omega) ?_
      rw [if_pos (by omega)]
      exact fdE_some _ _ i z hno hz (hcm.mpr (hin.mp c2))
    · have c2 : ¬ ya = x4 := c2
      rw [ea, e4] at c2
      refine kjZ_y rfl rfl 2 _ _ _ _ ty1 ?_
      refine ih (i + 1) _ (by omega) (by rw [e5]; exact nI_1 i) (fun t zt ht hzt => ?_)
      by_cases ti : t = i
      · rw [ti, hz] at hzt; cases hzt; exact fun y => c2 (hin.mpr (hcm.mp y))
      · exact hno t zt (by omega) hzt
theorem kx_insB (ty : kTY σ) (w : KWd σ0 B σ ws nm ks) (hr : RSD ks) (hB : BOK B ws) {j : Nat} (hj : CMD σ j) {v a2 piv a4 : List Int32} (hv : ws[1]? = some v) (h2 : ws[2]? = some a2) (h3 : ws[3]? = some piv) (h4 : ws[4]? = some a4) (hcl : 3 * (clA (skA ks) + ws.length) ≤ 49000) {o : Option (List AK)} (ho0 : ¬ a2.map up = tb 148 → ¬ a2.map up = tb 149 → o = none) (ho2 : rfZ (σ.1 59 17) ks j v 1 → o = none) (ho3 : a2.map up = tb 148 ∨ a2.map up = tb 149 → ¬ rfZ (σ.1 59 17) ks j v 1 → o = liF (skA ks) v a2 piv a4) :
    kjY kPP (kQQ Y) (d + 7) 197 0 (mjL0 6 [.ref 70]) [] σ (cdP σ0 B σ ws nm ks o) := by
  have hlen := (List.getElem?_eq_some_iff.mp h4).1
  have s19 : ∀ (bh : Bool) (x1 : Int32), x1 = (if bh = true then 1 else 0) → (bh = true → a2.map up = tb 148) → (bh = false → a2.map up = tb 149) → kjY kPP (kQQ Y) (d + 7) 197 19 [some (.ref 70), some (.int x1), none, none, none, none] [] σ (cdP σ0 B σ ws nm ks o) := by
    intro bh x1 ex1 hb1 hb0
    have hbf : bfI a2 = if bh = true then 0 else 1 := by
      unfold bfI isF
      cases bh with
      | true => rw [hb1 rfl, if_neg (by decide)]; rfl
      | false => rw [hb0 rfl, if_pos (by decide)]; rfl
    have hor : a2.map up = tb 148 ∨ a2.map up = tb 149 := by
      cases bh with
      | true => exact Or.inl (hb1 rfl)
      | false => exact Or.inr (hb0 rfl)
    refine kjZ_y rfl rfl 6 _ _ _ _ ty ?_
    refine (And.intro (ty.k (by decide) rfl) (And.intro (Nat.le_of_ble_eq_true rfl) (And.intro (Or.inl ⟨(Nat.le_of_ble_eq_true rfl), (ty.k (by decide) rfl)⟩) (And.intro (Nat.le_of_ble_eq_true rfl) (And.intro (Nat.le_of_ble_eq_true rfl) (kjY_mono ty (fun q_ u1 ty1 xu1 h_ => ?_) (kx_refuses ty w hB hj (a := 1) (b := 1) (by omega) (by omega) (s := 1) (by decide) _ _ _ rfl rfl rfl)))))))
    obtain ⟨nm1, p1, w1, s1, q⟩ := h_
    intro _ _
    rw [rf1 w hv] at q
    rcases q with ⟨rfl, q⟩ | ⟨rfl, q⟩
    · refine kjZ_y rfl rfl 1 _ _ _ _ ty1 ?_
      refine And.intro (fun c => ?_) (fun c => ?_)
      · exact absurd (show (1 : Int32) = 0 from c) (by decide)
      refine kjZ_y rfl rfl 1 _ _ _ _ ty1 ?_
      refine And.intro rfl (And.intro rfl ?_)
      exact cd_no p1 w1 hr s1.h (ho2 q)
    have ho := ho3 hor q
    have hso := fun z => q (Or.inr z)
    refine kjZ_y rfl rfl 1 _ _ _ _ ty1 ?_
    refine And.intro (fun c => ?_) (fun c => ?_)
    rotate_left
    · exact absurd rfl c
    refine kjZ_y rfl rfl 4 _ _ _ _ ty1 ?_
    refine (And.intro (ty1.k (by decide) rfl) (And.intro (Nat.le_of_ble_eq_true rfl) (And.intro (Or.inl ⟨(Nat.le_of_ble_eq_true rfl), (ty1.k (by decide) rfl)⟩) (And.intro (Nat.le_of_ble_eq_true rfl) (And.intro (Nat.le_of_ble_eq_true rfl) (kjY_mono ty1 (fun q_ u2 ty2 xu2 h_ => ?_) (kx_id ty1 w1 hB hv _ rfl)))))))
    obtain ⟨k, nm2, rfl, p2, p3, w2, s2⟩ := h_
    intro _ _
    refine kjZ_y rfl rfl 5 _ _ _ _ ty2 ?_
    refine (And.intro (Nat.le_of_ble_eq_true rfl) (And.intro (ty2.k (by decide) rfl) (And.intro (Nat.le_of_ble_eq_true rfl) (And.intro (Or.inl ⟨(Nat.le_of_ble_eq_true rfl), (ty2.k (by decide) rfl)⟩) (And.intro (Nat.le_of_ble_eq_true rfl) (And.intro (Nat.le_of_ble_eq_true rfl) (kjY_mono ty2 (fun q_ u3 ty3 xu3 h_ => ?_) (kx_find ty2 w2 p2 _ rfl))))))))
    obtain ⟨rfl, q3⟩ := h_
    intro _ _
    have sA := s1.tr s2
    rcases q3 with ⟨rfl, q3⟩ | ⟨P, y, Q, rfl, f0, f1, f2⟩
    · obtain ⟨b, hb, eb⟩ := w2.2.2.2.2.2.2.1
      have kb := ob_k ty3 (ANn_b b (ANb_n b hb)).1
      refine kjZ_y rfl rfl 3 _ _ _ _ ty3 ?_
      refine (And.intro (Nat.le_of_ble_eq_true rfl) ?_)
      refine kjZ_y rfl rfl 5 _ _ _ _ ty3 ?_
      refine (And.intro (ty3.k (by decide) rfl) (And.intro (ty3.k (by decide) rfl) (Exists.intro _ (And.intro eb (And.intro (Nat.le_of_ble_eq_true rfl) (And.intro (Or.inl ⟨(Nat.le_of_ble_eq_true rfl), (by assumption)⟩) (And.intro (Nat.le_of_ble_eq_true rfl) (And.intro (Nat.le_of_ble_eq_true rfl) (kjY_mono ty3 (fun q_ u4 ty4 xu4 h_ => ?_) (kx_number ty3 w2 hb _))))))))))
      obtain ⟨rfl, w4, s4⟩ := h_
      intro _ _
      refine kjZ_y rfl rfl 1 _ _ _ _ ty4 ?_
      refine And.intro rfl (And.intro rfl ?_)
      refine cd_no (p1.tr p3) w4 hr (sA.tr s4).h ?_
      rw [ho]; unfold liF; rw [q3]
    subst f0
    have hs1 : y.2.2.2.2.2.2.1 = 1 := so_1 f2 hso
    obtain ⟨r1, r2⟩ := hr.two
    have hs0 : ¬ y.2.2.2.2.2.2.1 = 0 := by rw [hs1]; decide
    obtain ⟨z1, z2, kv⟩ := w2.sz hs0
    have hcl0 := clA_at P Q y
    rw [hs1, show ptI 1 = 1 from rfl, Nat.one_mul] at hcl0
    refine kjZ_y rfl rfl 3 _ _ _ _ ty3 ?_
    refine (And.intro (Nat.le_of_ble_eq_true rfl) ?_)
    refine kjZ_y rfl rfl 4 _ _ _ _ ty3 ?_
    refine (And.intro (ty3.k (by decide) rfl) (And.intro (Nat.le_of_ble_eq_true rfl) (And.intro (Or.inl ⟨(Nat.le_of_ble_eq_true rfl), (ty3.k (by decide) rfl)⟩) (And.intro (Nat.le_of_ble_eq_true rfl) (And.intro (Nat.le_of_ble_eq_true rfl) (kjY_mono ty3 (fun q_ u4 ty4 xu4 h_ => ?_) (kx_id ty3 w2 hB h3 _ rfl)))))))
    obtain ⟨kp, nm4, rfl, p4, p5, w4, s4⟩ := h_
    intro _ _
    have kv4 : (u4.2.2.2.1 y.1).1 = 11 := (w4.sz hs0).2.2
    refine kjZ_y rfl rfl 3 _ _ _ _ ty4 ?_
    refine (And.intro (Nat.le_of_ble_eq_true rfl) (And.intro (Nat.le_of_ble_eq_true rfl) ?_))
    refine k_lins_l (d := d + 1) _ ty4 w4 hs1 p4 x1 _ _ rfl ?_ y.2.2.2.2.2.2.2.2.2.2.length 0 _ (by omega) rfl (fun t z ht => by omega)
    intro i x5 e5 hi hfd
    obtain ⟨z3, z4, kv4'⟩ := w4.sz hs0
    have eo : o = (match fdE piv y.2.2.2.2.2.2.2.2.2.2 with | none => none | some i => some (upA (skA (P ++ y :: Q)) P.length (esF (inE (if bfI a2 = 0 then i + 1 else i) a4)))) := by
      rw [ho]; unfold liF; rw [f2]
      show (match (skA (P ++ y :: Q))[P.length]? with | none => none | some a => _) = _
      rw [skA_at]; rfl
    rw [hfd] at eo
    refine kjZ_y rfl rfl 4 _ _ _ _ ty4 ?_
    refine (And.intro (by assumption) (And.intro (fun c => ?_) (fun c => ?_)))
    rotate_left
    · have c : x5 = u4.1 y.1 6 := Decidable.of_not_not (fun z => c z)
      rw [e5, z3, nI_eq (by omega) (by omega)] at c
      rw [if_neg (by omega)] at eo
      obtain ⟨b, hb, eb⟩ := w4.2.2.2.2.2.2.1
      have kb := ob_k ty4 (ANn_b b (ANb_n b hb)).1
      refine kjZ_y rfl rfl 5 _ _ _ _ ty4 ?_
      refine (And.intro (ty4.k (by decide) rfl) (And.intro (ty4.k (by decide) rfl) (Exists.intro _ (And.intro eb (And.intro (Nat.le_of_ble_eq_true rfl) (And.intro (Or.inl ⟨(Nat.le_of_ble_eq_true rfl), (by assumption)⟩) (And.intro (Nat.le_of_ble_eq_true rfl) (And.intro (Nat.le_of_ble_eq_true rfl) (kjY_mono ty4 (fun q_ u5 ty5 xu5 h_ => ?_) (kx_number ty4 w4 hb _))))))))))
      obtain ⟨rfl, w5, s5⟩ := h_
      intro _ _
      refine kjZ_y rfl rfl 1 _ _ _ _ ty5 ?_
      refine And.intro rfl (And.intro rfl ?_)
      exact cd_no ((p1.tr p3).tr p5) w5 hr ((sA.tr s4).tr s5).h eo
    have c : ¬ x5 = u4.1 y.1 6 := c
    rw [e5, z3, nI_eq (by omega) (by omega)] at c
    rw [if_pos (by omega)] at eo
    have go : ∀ (i2 : Nat) (xi : Int32), xi = nI i2 → i2 = (if bfI a2 = 0 then i + 1 else i) → kjY kPP (kQQ Y) (d + 7) 197 82 [some (.ref 70), some (.int x1), some (.int (nI k)), some (.ref y.1), some (.int (nI kp)), some (.int x5)] [.int xi, .ref y.1, .ref 70] u4 (cdP σ0 B σ ws nm (P ++ y :: Q) o) := by
      intro i2 xi exi hi2
      have hil : i2 ≤ y.2.2.2.2.2.2.2.2.2.2.length := by rw [hi2]; split <;> omega
      refine kjZ_y rfl rfl 4 _ _ _ _ ty4 ?_
      refine (And.intro (ty4.k (by decide) rfl) (And.intro (Nat.le_of_ble_eq_true rfl) (And.intro (Or.inl ⟨(Nat.le_of_ble_eq_true rfl), (ty4.k (by decide) rfl)⟩) (And.intro (Nat.le_of_ble_eq_true rfl) (And.intro (Nat.le_of_ble_eq_true rfl) (kjY_mono ty4 (fun q_ u5 ty5 xu5 h_ => ?_) (kx_id ty4 w4 hB h4 _ rfl)))))))
      obtain ⟨kz, nm5, rfl, p6, p7, w5, s5⟩ := h_
      intro _ _
      have kv5 : (u5.2.2.2.1 y.1).1 = 11 := (w5.sz hs0).2.2
      refine kjZ_y rfl rfl 1 _ _ _ _ ty5 ?_
      refine (And.intro (Nat.le_of_ble_eq_true rfl) (And.intro (Or.inl ⟨(Nat.le_of_ble_eq_true rfl), (ty5.k (by decide) rfl)⟩) (And.intro (Nat.le_of_ble_eq_true rfl) (And.intro (Nat.le_of_ble_eq_true rfl) (kjY_mono ty5 (fun q_ u6 ty6 xu6 h_ => ?_) (kx_ladd ty5 w5 hs1 r2.1 hil p6 (by omega) _ _ exi rfl))))))
      obtain ⟨rfl, w6, s6⟩ := h_
      intro _ _
      have kv6 : (u6.2.2.2.1 y.1).1 = 11 := xu6.k ty5 kv5 (by decide)
      refine kjZ_y rfl rfl 5 _ _ _ _ ty6 ?_
      refine (And.intro (ty6.k (by decide) rfl) (And.intro (Nat.le_of_ble_eq_true rfl) (And.intro (Or.inl ⟨(Nat.le_of_ble_eq_true rfl), (ty6.k (by decide) rfl)⟩) (And.intro (Nat.le_of_ble_eq_true rfl) (And.intro (Nat.le_of_ble_eq_true rfl) (kjY_mono ty6 (fun q_ u9 ty9 xu9 h_ => ?_) (kx_settle (x := mkK y (esF (fun es => insL es i2 (a4, [], 0)) y.2.2.2.2.2)) ty6 w6 (k := k) (by show nm5[k]? = some y.2.2.2.2.2.1; rw [f1]; exact p7.get (p5.get p2)) _ rfl)))))))
      obtain ⟨q9, q9b⟩ := h_
      intro _ _
      have kv9 : (u9.2.2.2.1 y.1).1 = 11 := xu9.k ty6 kv6 (by decide)
      have hne : ¬ emB (mkK y (esF (fun es => insL es i2 (a4, [], 0)) y.2.2.2.2.2)) := by
        intro z
        have z2 : insL y.2.2.2.2.2.2.2.2.2.2 i2 (a4, [], 0) = [] := z.2
        have z3 := congrArg List.length z2
        rw [insL_len, List.length_nil] at z3; omega
      obtain ⟨rfl, nmA, ksA, pA, wA, rA, eA, cA, sA2⟩ := cd_se (σ := σ) (((p1.tr p3).tr p5).tr p7) (((sA.tr s4).tr (s5.tr s6)).g) ⟨q9, q9b⟩ (wkO_mk _ _) r1 (fun z => absurd z hne) (fun _ => rfl)
      obtain ⟨b, hb, eb⟩ := wA.2.2.2.2.2.2.1
      have kb := ob_k ty9 (ANn_b b (ANb_n b hb)).1
      refine kjZ_y rfl rfl 7 _ _ _ _ ty9 ?_
      refine (And.intro (ty9.k (by decide) rfl) (And.intro (ty9.k (by decide) rfl) (Exists.intro _ (And.intro eb (And.intro (by assumption) (And.intro (Nat.le_of_ble_eq_true rfl) (And.intro (Or.inl ⟨(Nat.le_of_ble_eq_true rfl), (by assumption)⟩) (And.intro (Nat.le_of_ble_eq_true rfl) (And.intro (Nat.le_of_ble_eq_true rfl) (kjY_mono ty9 (fun q_ u10 ty10 xu10 h_ => ?_) (kx_number ty9 wA hb _)))))))))))
      obtain ⟨rfl, w10, s10⟩ := h_
      intro _ _
      refine kjZ_y rfl rfl 1 _ _ _ _ ty10 ?_
      refine And.intro rfl (And.intro rfl ?_)
      refine cd_ok pA w10 rA eA ((s10 (59, 18) (by decide)).1.trans cA) (sA2.tr s10.g) ?_
      rw [eo, skA_app, skA_app, skA_cons, skA_cons, ← skA_len P]
      show some (upA _ _ (esF (inE (if bfI a2 = 0 then i + 1 else i) a4))) = _
      rw [← hi2, upA_at]; rfl
    refine kjZ_y rfl rfl 4 _ _ _ _ ty4 ?_
    refine And.intro (fun c3 => ?_) (fun c3 => ?_)
    · have hbh : bh = false := by
        cases bh with
        | false => rfl
        | true => exact absurd ((show x1 = 1 from ex1).symm.trans c3) (by decide)
      refine kjZ_y rfl rfl 1 _ _ _ _ ty4 ?_
      exact go i _ e5 (by rw [hbf, hbh]; rfl)
    · have hbh : bh = true := by
        cases bh with
        | true => rfl
        | false => exact absurd (show x1 = 0 from ex1) c3
      refine kjZ_y rfl rfl 4 _ _ _ _ ty4 ?_
      exact go (i + 1) _ (by rw [e5]; exact nI_1 i) (by rw [hbf, hbh]; rfl)
  refine kjZ_y rfl rfl 5 _ _ _ _ ty ?_
  refine (And.intro (ty.k (by decide) rfl) (And.intro rfl (And.intro (Nat.le_of_ble_eq_true rfl) (And.intro (Or.inl ⟨(Nat.le_of_ble_eq_true rfl), (ty.k (by decide) rfl)⟩) (And.intro (Nat.le_of_ble_eq_true rfl) (And.intro (Nat.le_of_ble_eq_true rfl) (kjY_mono ty (fun q_ u1 ty1 xu1 h_ => ?_) (kx_is ty w (by decide) 2 (by decide) _ rfl))))))))
  obtain ⟨rfl, q1⟩ := h_
  intro _ _
  rcases q1 with ⟨rfl, v1, g1, g2⟩ | ⟨rfl, g1⟩
  · rw [h2] at g1; cases g1
    refine kjZ_y rfl rfl 3 _ _ _ _ ty1 ?_
    refine (And.intro (Nat.le_of_ble_eq_true rfl) (And.intro (fun c => ?_) (fun c => ?_)))
    rotate_left
    · exact absurd (show ¬ (1 : Int32) = 0 by decide) c
    exact s19 true 1 rfl (fun _ => g2) (fun z => by cases z)
  · have g1 := g1 a2 h2
    refine kjZ_y rfl rfl 3 _ _ _ _ ty1 ?_
    refine (And.intro (Nat.le_of_ble_eq_true rfl) (And.intro (fun c => ?_) (fun c => ?_)))
    · exact absurd rfl c
    refine kjZ_y rfl rfl 5 _ _ _ _ ty1 ?_
    refine (And.intro (ty1.k (by decide) rfl) (And.intro rfl (And.intro (Nat.le_of_ble_eq_true rfl) (And.intro (Or.inl ⟨(Nat.le_of_ble_eq_true rfl), (ty1.k (by decide) rfl)⟩) (And.intro (Nat.le_of_ble_eq_true rfl) (And.intro (Nat.le_of_ble_eq_true rfl) (kjY_mono ty1 (fun q_ u2 ty2 xu2 h_ => ?_) (kx_is ty1 w (by decide) 2 (by decide) _ rfl))))))))
    obtain ⟨rfl, q2⟩ := h_
    intro _ _
    rcases q2 with ⟨rfl, v1, g2, g3⟩ | ⟨rfl, g2⟩
    · rw [h2] at g2; cases g2
      refine kjZ_y rfl rfl 1 _ _ _ _ ty2 ?_
      refine And.intro (fun c => ?_) (fun c => ?_)
      rotate_left
      · exact absurd (show ¬ (1 : Int32) = 0 by decide) c
      exact s19 false 0 rfl (fun z => by cases z) (fun _ => g3)
    · have g2 := g2 a2 h2
      refine kjZ_y rfl rfl 1 _ _ _ _ ty2 ?_
      refine And.intro (fun c => ?_) (fun c => ?_)
      · exact absurd rfl c
      refine kjZ_y rfl rfl 4 _ _ _ _ ty2 ?_
      refine (And.intro (ty2.k (by decide) rfl) (And.intro rfl (And.intro (Nat.le_of_ble_eq_true rfl) (And.intro (Or.inl ⟨(Nat.le_of_ble_eq_true rfl), (ty2.k (by decide) rfl)⟩) (And.intro (Nat.le_of_ble_eq_true rfl) (And.intro (Nat.le_of_ble_eq_true rfl) (kjY_mono ty2 (fun q_ u3 ty3 xu3 h_ => ?_) (kx_refuse ty2 w (by decide)))))))))
      obtain ⟨rfl, w3, s3⟩ := h_
      intro _ _
      refine kjZ_y rfl rfl 1 _ _ _ _ ty3 ?_
      refine And.intro rfl (And.intro rfl ?_)
      exact cd_no PRE.rf w3 hr s3.h (ho0 g1 g2)
end KLINS
