/-! Bytes: four more; a refusal is told. -/
section KFOUR
variable {Y : Nat → MethodName × ByteArray} {d : Nat} {σ0 σ : kS} {B ws nm : List (List Int32)} {ks : List KC}
theorem k_four_l (K : kK) {b : Nat} (hb : b ∈ OWb) {r N : Nat} {l : List Int32} (h0 : BR σ b r N l) (hN : l.length + 4 ≤ N) (ty0 : kTY σ) (x1 : Int32)
    (hK : ∀ u x2 w, kTY u → Wi b r σ u → BR u b r N l → w.length = 4 → wd (u.1 r) 0 (l.length + 4) = l ++ w → kjY kPP (kQQ Y) d 43 26 [some (.ref b), some (.int x1), some (.int x2)] [] u K) :
    ∀ (f k : Nat) (x2 : Int32) (w : List Int32) (u : kS), k + f = 4 → x2 = nI k → kTY u → Wi b r σ u → BR u b r N l → w.length = k → wd (u.1 r) 0 (l.length + k) = l ++ w →
    kjY kPP (kQQ Y) d 43 6 [some (.ref b), some (.int x1), some (.int x2)] [] u K := by
  have hbr := br_ne ty0 hb h0
  intro f
  induction f with
  | zero =>
    intro k x2 w u hk e2 tu hw hB hl hwd
    have k4 : k = 4 := by omega
    subst k4
    have kb := ob_k tu hb
    refine kjZ_y rfl rfl 3 _ _ _ _ tu ?_
    refine And.intro (fun c => ?_) (fun c => ?_)
    rotate_left
    · refine absurd (show nI 4 ≤ x2 from ?_) c
      rw [e2]; exact Int32.le_refl _
    exact hK u x2 w tu hw hB hl hwd
  | succ f ih =>
    intro k x2 w u hk e2 tu hw hB hl hwd
    have kb := ob_k tu hb
    have hB' := hB
    obtain ⟨b1, b2, b3, b4, b5, b6, b7⟩ := hB
    refine kjZ_y rfl rfl 3 _ _ _ _ tu ?_
    refine And.intro (fun c => ?_) (fun c => ?_)
    · refine absurd (show nI 4 ≤ x2 from c) ?_
      rw [e2, nle (by decide) (by omega)]; omega
    have ei : u.1 b 2 + x2 = nI (l.length + k) := by rw [b5, e2, nI_add]
    have vi : vp_in (u.1 b 2 + x2) N := by rw [ei]; exact vp_in_nI (by omega) (by omega)
    have ci : (u.1 b 2 + x2).toNatClampNeg = l.length + k := by rw [ei]; exact nI_clamp (by omega)
    refine kjZ_y rfl rfl 17 _ _ _ _ tu ?_
    refine (And.intro (by assumption) (Exists.intro _ (And.intro b1 (And.intro (by assumption) (And.intro ⟨(kdk b2), (b8 _)⟩ (And.intro (kdv b2 vi) (fun tu' => ?_)))))))
    have go : ∀ y z, kTY z → z = (mjIu u.1 r (u.1 b 2 + x2).toNatClampNeg y, u.2) → kjY kPP (kQQ Y) d 43 6 [some (.ref b), some (.int x1), some (.int (x2 + 1))] [] z K := by
      intro y z tz ez
      rw [ci] at ez
      have zI : ∀ h x, z.1 h x = if h = r ∧ x = l.length + k then y else u.1 h x := fun h x => by
        rw [ez]; show mjIu u.1 r _ _ h x = _; rw [mjIu_at]
      have zr : ∀ j, j < l.length + k → z.1 r j = u.1 r j := fun j hj => by rw [zI, if_neg (fun q => by omega)]
      have zb : ∀ x, z.1 b x = u.1 b x := fun x => by rw [zI, if_neg (fun q => hbr q.1)]
      refine ih (k + 1) _ (w ++ [y]) z (by omega) (by rw [e2]; exact nI_1 k) tz ⟨by rw [ez]; exact hw.1, fun h x c1 c2 => ?_⟩ ⟨by rw [ez]; exact b1, by rw [ez]; exact b2, b3, (zb 0).trans b4, (zb 2).trans b5, b6, ?_⟩ (by rw [List.length_append, hl]; rfl) ?_
      · rw [zI, if_neg (fun q => c1 q.1)]; exact hw.2 h x c1 c2
      · refine Eq.trans (wd_congr fun j hj => ?_) b7
        rw [Nat.zero_add]; exact zr j (by omega)
      · have e9 : wd (z.1 r) 0 (l.length + k) = l ++ w := Eq.trans (wd_congr fun j hj => by rw [Nat.zero_add]; exact zr j (by omega)) hwd
        rw [show l.length + (k + 1) = (l.length + k) + 1 by omega, wd_snoc, e9, Nat.zero_add, zI, if_pos ⟨rfl, rfl⟩, List.append_assoc]
    exact go _ _ tu' rfl
theorem k_four (ty : kTY σ) (ow : OWN σ) {b : Nat} (hb : b ∈ OWb) {l : List Int32} (h : kBY σ b l) (x : Int32) (hq : opQ σ b l 4) : kjY kPP (kQQ Y) (d + 4) 43 0 (mjL0 3 [.ref b, .int x]) [] σ (fun v u => ∃ w, w.length = 4 ∧ opP σ b l w v u) := by
  have kb := ob_k ty hb
  obtain ⟨r0, N0, h0⟩ := h
  refine kjZ_y rfl rfl 3 _ _ _ _ ty ?_
  refine (And.intro (Nat.le_of_ble_eq_true rfl) (And.intro (Or.inl ⟨(Nat.le_of_ble_eq_true rfl), (by assumption)⟩) (And.intro (Nat.le_of_ble_eq_true rfl) (And.intro (Nat.le_of_ble_eq_true rfl) (kjY_mono ty (fun q_ u1 ty1 xu1 h_ => ?_) (k_room ty ow hb h0 4 _ rfl (by decide) hq.1 hq.2))))))
  have q := h_
  intro _ _
  have kb1 := ob_k ty1 hb
  rcases q with ⟨rfl, q⟩ | ⟨rfl, a1, a2, a3, a4, a5, r, N, a6, a7⟩
  · refine kjZ_y rfl rfl 1 _ _ _ _ ty1 ?_
    refine And.intro (fun c => ?_) (fun c => ?_)
    rotate_left
    · exact absurd rfl c
    refine kjZ_y rfl rfl 1 _ _ _ _ ty1 ?_
    refine And.intro rfl (And.intro rfl ?_)
    exact ⟨[0, 0, 0, 0], rfl, op_no hb rfl q⟩
  refine kjZ_y rfl rfl 1 _ _ _ _ ty1 ?_
  refine And.intro (fun c => ?_) (fun c => ?_)
  · exact absurd (show (1 : Int32) = 0 from c) (by decide)
  refine kjZ_y rfl rfl 2 _ _ _ _ ty1 ?_
  refine (And.intro (Nat.le_of_ble_eq_true rfl) ?_)
  have hbr := br_ne ty1 hb a6
  refine k_four_l (σ := u1) (d := d + 4) _ hb a6 a7 ty1 x (fun u x2 w tu hw hB hl hwd => ?_) 4 0 _ [] u1 rfl rfl ty1 Wi.rf a6 rfl ?_
  · have kbu := ob_k tu hb
    refine kjZ_y rfl rfl 7 _ _ _ _ tu ?_
    refine (And.intro (by assumption) (And.intro (by assumption) (And.intro (Or.inl rfl) (fun tu' => And.intro rfl (And.intro rfl ?_)))))
    have fin : ∀ z, z = (mjIu u.1 b 2 (u.1 b 2 + Int32.ofInt 4), u.2) → ∃ w, w.length = 4 ∧ opP σ b l w none z := by
      intro z ez
      obtain ⟨b1, b2, b3, b4, b5, b6, b7⟩ := hB
      have zI : ∀ h x, z.1 h x = if h = b ∧ x = 2 then nI (l.length + 4) else u.1 h x := fun h x => by
        rw [ez]; show mjIu u.1 b 2 _ h x = _; rw [mjIu_at, b5, show nI l.length + Int32.ofInt 4 = nI (l.length + 4) from nI_add _ 4]
      have zr : z.1 r = u.1 r := funext fun j => by rw [zI, if_neg (fun q => hbr q.1.symm)]
      refine ⟨w, hl, op_fin ty ty1 hb a3 a4 a5 a6 ⟨by rw [ez]; exact hw.1, fun h x c1 c2 => by rw [zI, if_neg c2]; exact hw.2 h x c1 c2⟩ ⟨by rw [ez]; exact b1, by rw [ez]; exact b2, b3, ?_, ?_, ?_, ?_⟩ hl⟩
      · rw [zI, if_neg (fun q => absurd q.2 (by decide))]; exact b4
      · rw [zI, if_pos ⟨rfl, rfl⟩, List.length_append, hl]
      · rw [List.length_append, hl]; exact a7
      · rw [zr, List.length_append, hl]; exact hwd
    exact fin _ rfl
  · rw [Nat.add_zero, List.append_nil]; exact a6.2.2.2.2.2.2
theorem kx_tellRefusal (ty : kTY σ) (w : KWd σ0 B σ ws nm ks) : kjY kPP (kQQ Y) (d + 7) 99 0 (mjL0 1 [.ref 53]) [] σ (wP σ0 B σ ws nm ks) := by
  obtain ⟨b, hb, eb⟩ := w.2.2.2.2.2.2.1
  have kb := ob_k ty (ANn_b b (ANb_n b hb)).1
  have k53 : (σ.2.2.2.1 53).1 = 3 := ty.k (by decide) rfl
  have hst := ty.2.2.2.2.2.2.2.1 53 7 (by rw [k53]; decide) (by rw [k53]; decide)
  rw [k53] at hst
  have hst : ∀ g, σ.2.2.1 53 7 = some g → kSt g := hst
  cases h7 : σ.2.2.1 53 7 with
  | none =>
    refine kjZ_y rfl rfl 4 _ _ _ _ ty ?_
    refine (And.intro (ty.k (by decide) rfl) (Exists.intro _ (And.intro h7 (And.intro rfl (And.intro rfl ?_)))))
    exact ⟨rfl, w, SCl.rf⟩
  | some t =>
    obtain ⟨i, hi, rfl⟩ := hst t h7
    have kt : kSt (2000000 + i) := ⟨i, hi, rfl⟩
    refine kjZ_y rfl rfl 9 _ _ _ _ ty ?_
    refine (And.intro (ty.k (by decide) rfl) (Exists.intro _ (And.intro h7 (And.intro (ty.k (by decide) rfl) (Exists.intro _ (And.intro eb (And.intro (ty.k (by decide) rfl) (Exists.intro _ (And.intro h7 (And.intro (Nat.le_of_ble_eq_true rfl) (And.intro (Or.inl ⟨(Nat.le_of_ble_eq_true rfl), (by assumption)⟩) (And.intro (Nat.le_of_ble_eq_true rfl) (And.intro (Nat.le_of_ble_eq_true rfl) (kjY_mono ty (fun q_ u1 ty1 xu1 h_ => ?_) (kx_line ty w hb _ hi)))))))))))))))
    obtain ⟨rfl, w1, s1⟩ := h_
    intro _ _
    refine kjZ_y rfl rfl 4 _ _ _ _ ty1 ?_
    refine (And.intro (ty1.k (by decide) rfl) (And.intro (Or.inr rfl) (fun ty1' => And.intro rfl (And.intro rfl ?_))))
    have ch : Ch false [(53, 7)] [] u1 (u1.1, u1.2.1, kFu u1.2.2.1 53 7 none, u1.2.2.2) := Ch_f (os := []) (by rw [ty1.k (h := 53) (c := 3) (by decide) rfl]; decide) (fun z => absurd z (by decide))
    exact ⟨rfl, w1.pf ty1, s1.tr (ch.sc ty1 (fun p hp => ⟨(scA_ok p hp).1, (scA_ok p hp).2.1, fun z => (scA_ok p hp).2.2.2.2.1 (List.mem_singleton.mp z)⟩))⟩
end KFOUR
