/-! Bytes: the writes. -/
section KBO
variable {Y : Nat → MethodName × ByteArray} {d : Nat} {σ : kS}
/-- what a write wants: the room is paid, and stays below its limit -/
def opQ (σ : kS) (b : Nat) (l : List Int32) (k : Nat) : Prop := PO σ b (l.length + k) ∧ (σ.1 b 3 = 0 → l.length + k ≤ kMo b → 64 < l.length + k → l.length + k ≤ kNd b)
theorem k_spellText (ty : kTY σ) {b : Nat} (hb : b ∈ OWb) {i : Nat} (hi : i < 185) {r N : Nat} (l : List Int32) (hN : l.length + (tb i).length ≤ N) : ∀ (f k : Nat) (u : kS) (x2 : Int32), k + f = (tb i).length → x2 = nI k → kTY u → Wi b r σ u → BR u b r N (l ++ (tb i).take k) →
    kjY kPP (kQQ Y) (d + 5) 55 2 [some (.ref b), some (.ref (2000000 + i)), some (.int x2)] [] u (fun v u => v = none ∧ Wi b r σ u ∧ BR u b r N (l ++ tb i)) := by
  have kc : kSt (2000000 + i) := ⟨i, hi, rfl⟩
  have hl := (tb_ok i hi).1
  intro f
  induction f with
  | zero =>
    intro k u x2 hk e2 tu wu hu
    refine kjZ_y rfl rfl 3 _ _ _ _ tu ?_
    refine (And.intro (Nat.le_of_ble_eq_true rfl) (And.intro (Or.inr (Or.inr ⟨rfl, by assumption⟩)) (And.intro (Nat.le_of_ble_eq_true rfl) (And.intro (Nat.le_of_ble_eq_true rfl) (kjY_mono tu (fun q_ u1 ty1 xu h_ => ?_) (k_len tu hi))))))
    obtain ⟨rfl, rfl⟩ := h_
    intro _ _
    refine kjZ_y rfl rfl 1 _ _ _ _ ty1 ?_
    refine And.intro (fun c => ?_) (fun c => ?_)
    · refine kjZ_y rfl rfl 1 _ _ _ _ ty1 ?_
      refine And.intro rfl (And.intro rfl ?_)
      rw [show k = (tb i).length by omega, List.take_length] at hu
      exact ⟨rfl, wu, hu⟩
    · refine absurd (show nI (tb i).length ≤ x2 from ?_) c
      rw [e2]; exact nI_le (by omega) (by omega)
  | succ f ih =>
    intro k u x2 hk e2 tu wu hu
    have kb := ob_k tu hb
    have hbr := br_ne tu hb hu
    have h' := hu
    obtain ⟨h1, h2, ⟨h3, h3'⟩, h4, h5, h6, h7⟩ := hu
    have ll : (l ++ (tb i).take k).length = l.length + k := by rw [List.length_append, List.length_take]; omega
    rw [ll] at h5 h6 h7
    refine kjZ_y rfl rfl 3 _ _ _ _ tu ?_
    refine (And.intro (Nat.le_of_ble_eq_true rfl) (And.intro (Or.inr (Or.inr ⟨rfl, by assumption⟩)) (And.intro (Nat.le_of_ble_eq_true rfl) (And.intro (Nat.le_of_ble_eq_true rfl) (kjY_mono tu (fun q_ u1 ty1 xu h_ => ?_) (k_len tu hi))))))
    obtain ⟨rfl, rfl⟩ := h_
    intro _ _
    refine kjZ_y rfl rfl 1 _ _ _ _ ty1 ?_
    refine And.intro (fun c => ?_) (fun c => ?_)
    · refine absurd (show nI (tb i).length ≤ x2 from c) ?_
      rw [e2]; exact nI_ge (by omega) (by omega)
    · refine kjZ_y rfl rfl 6 _ _ _ _ ty1 ?_
      refine (And.intro (by assumption) (And.intro (by assumption) (Exists.intro _ (And.intro h1 (Or.inl (And.intro (kdq h2) (And.intro (fun c2 => ?_) (fun c2 => ?_))))))))
      · refine absurd (show nI (u1.2.2.2.1 r).2 ≤ u1.1 b 2 from c2) ?_
        rw [h2, h5]; exact nI_ge (by omega) (by omega)
      · refine kjZ_y rfl rfl 7 _ _ _ _ ty1 ?_
        refine (And.intro (by assumption) (Exists.intro _ (And.intro h1 (And.intro (by assumption) (And.intro (Nat.le_of_ble_eq_true rfl) (And.intro (Or.inr (Or.inr ⟨rfl, by assumption⟩)) (And.intro (Nat.le_of_ble_eq_true rfl) (And.intro (Nat.le_of_ble_eq_true rfl) (kjY_mono ty1 (fun q_ u2 ty2 xu2 h_ => ?_) (k_char ty1 hi (k := k) (by omega) x2 e2))))))))))
        obtain ⟨rfl, y, rfl, ey, ey2⟩ := h_
        intro _ _
        have vi : vp_in (u2.1 b 2) N := by rw [h5]; exact vp_in_nI (by omega) (by omega)
        have ci : (u2.1 b 2).toNatClampNeg = l.length + k := by rw [h5]; exact nI_clamp (by omega)
        refine kjZ_y rfl rfl 10 _ _ _ _ ty2 ?_
        refine (And.intro ⟨(kdk h2), (b8 _)⟩ (And.intro (kdv h2 vi) (fun ty2' => (And.intro (by assumption) (And.intro (by assumption) (And.intro (Or.inl rfl) (fun ty2'' => ?_)))))))
        have wi : Wi b r u2 (mjIu (mjIu u2.1 r (u2.1 b 2).toNatClampNeg y.toInt8.toInt32) b 2 (mjIu u2.1 r (u2.1 b 2).toNatClampNeg y.toInt8.toInt32 b 2 + Int32.ofInt 1), u2.2) := ⟨rfl, fun h z p1 p2 => by show mjIu (mjIu u2.1 r _ _) b 2 _ h z = _; rw [mjIu_at, if_neg p2, mjIu_at, if_neg (fun w => p1 w.1)]⟩
        refine ih (k + 1) _ _ (by omega) (by rw [e2]; exact nI_1 k) ty2'' (wu.tr wi) ?_
        have et : (tb i).take (k + 1) = (tb i).take k ++ [(tb i).getD k 0] := by
          rw [List.take_succ, List.getD_eq_getElem?_getD, List.getElem?_eq_getElem (by omega)]; rfl
        rw [et, ← List.append_assoc]
        refine h'.put hbr wi ?_ ?_ (fun j hj => ?_) ?_
        · rw [ll]; show _ + 1 ≤ N; omega
        · show mjIu (mjIu u2.1 r _ _) b 2 _ b 2 = _
          rw [mjIu_at, if_pos ⟨rfl, rfl⟩]
          show mjIu u2.1 r _ _ b 2 + Int32.ofInt 1 = _
          rw [mjIu_at, if_neg (fun w => hbr w.1), h5, ll]; exact nI_1 _
        · show mjIu (mjIu u2.1 r _ _) b 2 _ r j = _
          rw [mjIu_at, if_neg (fun w => hbr w.1.symm), mjIu_at, if_neg (fun w => by rw [ci] at w; rw [ll] at hj; omega)]
        · show wd _ _ 1 = _
          rw [wd_1, ll]
          show [mjIu (mjIu u2.1 r _ _) b 2 _ r (l.length + k)] = _
          rw [mjIu_at, if_neg (fun w => hbr w.1.symm), mjIu_at, if_pos ⟨rfl, ci.symm⟩, ey]
theorem k_spellT (ty : kTY σ) {b : Nat} (hb : b ∈ OWb) {i : Nat} (hi : i < 185) {r N : Nat} {l : List Int32} (h : BR σ b r N l) (hN : l.length + (tb i).length ≤ N) : kjY kPP (kQQ Y) (d + 5) 55 0 (mjL0 3 [.ref b, .ref (2000000 + i)]) [] σ (fun v u => v = none ∧ Wi b r σ u ∧ BR u b r N (l ++ tb i)) := by
  refine kjZ_y rfl rfl 2 _ _ _ _ ty ?_
  refine (And.intro (Nat.le_of_ble_eq_true rfl) ?_)
  exact k_spellText ty hb hi l hN (tb i).length 0 σ _ (by omega) rfl ty Wi.rf (by rw [List.take_zero, List.append_nil]; exact h)
/-- mark, number, end -/
theorem k_head (ty : kTY σ) (ow : OWN σ) {b : Nat} (hb : b ∈ OWb) {l : List Int32} (h : kBY σ b l) (x : Int32) (v : Int64) (hq : opQ σ b l ((dec v).length + 3)) : kjY kPP (kQQ Y) (d + 4) 47 0 (mjL0 5 [.ref b, .int x, .long v]) [] σ (opP σ b l (x.toInt8.toInt32 :: dec v ++ [13, 10])) := by
  have kb := ob_k ty hb
  have hd := dec_len v
  have hw : (x.toInt8.toInt32 :: dec v ++ [13, 10]).length = (dec v).length + 3 := by rw [List.length_append, List.length_cons]; rfl
  obtain ⟨r, N, h⟩ := h
  refine kjZ_y rfl rfl 2 _ _ _ _ ty ?_
  refine (And.intro (Nat.le_of_ble_eq_true rfl) (And.intro (Nat.le_of_ble_eq_true rfl) (And.intro (Nat.le_of_ble_eq_true rfl) (kjY_mono ty (fun q_ u1 ty1 xu h_ => ?_) (k_width ty v)))))
  obtain ⟨rfl, rfl⟩ := h_
  intro _ _
  refine kjZ_y rfl rfl 6 _ _ _ _ ty1 ?_
  refine (And.intro (Nat.le_of_ble_eq_true rfl) (And.intro (Nat.le_of_ble_eq_true rfl) (And.intro (Or.inl ⟨(Nat.le_of_ble_eq_true rfl), (by assumption)⟩) (And.intro (Nat.le_of_ble_eq_true rfl) (And.intro (Nat.le_of_ble_eq_true rfl) (kjY_mono ty1 (fun q_ u2 ty2 xu2 h_ => ?_) (k_room ty1 ow hb h ((dec v).length + 3) _ (nI_add _ 3) (by omega) hq.1 hq.2)))))))
  have q := h_
  intro _ _
  rcases q with ⟨rfl, q⟩ | ⟨rfl, q1, q2, q3, q4, q5, r2, N2, q6, q7⟩
  · refine kjZ_y rfl rfl 1 _ _ _ _ ty2 ?_
    refine And.intro (fun c => ?_) (fun c => ?_)
    · refine kjZ_y rfl rfl 1 _ _ _ _ ty2 ?_
      refine And.intro rfl (And.intro rfl ?_)
      exact op_no hb hw q
    · exact absurd rfl c
  · have kb2 := ob_k ty2 hb
    refine kjZ_y rfl rfl 1 _ _ _ _ ty2 ?_
    refine And.intro (fun c => ?_) (fun c => ?_)
    · exact absurd (show (1 : Int32) = 0 from c) (by decide)
    · refine kjZ_y rfl rfl 3 _ _ _ _ ty2 ?_
      refine (And.intro (Nat.le_of_ble_eq_true rfl) (And.intro (Or.inl ⟨(Nat.le_of_ble_eq_true rfl), (by assumption)⟩) (And.intro (Nat.le_of_ble_eq_true rfl) (And.intro (Nat.le_of_ble_eq_true rfl) (kjY_mono ty2 (fun q_ u3 ty3 xu3 h_ => ?_) (k_mark ty2 hb q6 (by omega) x))))))
      obtain ⟨rfl, w3, b3⟩ := h_
      intro _ _
      have kb3 := ob_k ty3 hb
      refine kjZ_y rfl rfl 4 _ _ _ _ ty3 ?_
      refine (And.intro (Nat.le_of_ble_eq_true rfl) (And.intro (Or.inl ⟨(Nat.le_of_ble_eq_true rfl), (by assumption)⟩) (And.intro (Nat.le_of_ble_eq_true rfl) (And.intro (Nat.le_of_ble_eq_true rfl) (kjY_mono ty3 (fun q_ u4 ty4 xu4 h_ => ?_) (k_spell ty3 hb b3 v (by rw [List.length_append]; show l.length + 1 + _ ≤ _; omega) _ rfl))))))
      obtain ⟨rfl, w4, b4⟩ := h_
      intro _ _
      have kb4 := ob_k ty4 hb
      refine kjZ_y rfl rfl 2 _ _ _ _ ty4 ?_
      refine (And.intro (Nat.le_of_ble_eq_true rfl) (And.intro (Or.inl ⟨(Nat.le_of_ble_eq_true rfl), (by assumption)⟩) (And.intro (Nat.le_of_ble_eq_true rfl) (And.intro (Nat.le_of_ble_eq_true rfl) (kjY_mono ty4 (fun q_ u5 ty5 xu5 h_ => ?_) (k_end ty4 hb b4 (by rw [List.length_append, List.length_append]; show l.length + 1 + _ + 2 ≤ _; omega)))))))
      obtain ⟨rfl, w5, b5⟩ := h_
      intro _ _
      refine kjZ_y rfl rfl 1 _ _ _ _ ty5 ?_
      refine And.intro rfl (And.intro rfl ?_)
      refine op_fin ty1 ty2 hb q3 q4 q5 q6 ((w3.tr w4).tr w5) ?_ hw
      rw [List.append_assoc, List.append_assoc] at b5
      exact b5
end KBO
