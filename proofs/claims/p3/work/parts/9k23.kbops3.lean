/-! Bytes: texts, numbers as words, lines, heads; what is appended. -/
section KBO3
variable {Y : Nat → MethodName × ByteArray} {d : Nat} {σ : kS}
theorem k_text (ty : kTY σ) (ow : OWN σ) {b : Nat} (hb : b ∈ OWb) {l : List Int32} (h : kBY σ b l) {i : Nat} (hi : i < 185) (hq : opQ σ b l (wordL (tb i)).length) :
    kjY kPP (kQQ Y) (d + 6) 51 0 (mjL0 4 [.ref b, .ref (2000000 + i)]) [] σ (opP σ b l (wordL (tb i))) := by
  have kb := ob_k ty hb
  have kc : kSt (2000000 + i) := ⟨i, hi, rfl⟩
  have hl := (tb_ok i hi).1
  have hwl := wL_eq (tb i)
  have hd := dec_len (lN (tb i).length)
  have el : (nI (tb i).length).toInt64 = lN (tb i).length := nI_l (by omega)
  obtain ⟨r, N, h⟩ := h
  refine kjZ_y rfl rfl 2 _ _ _ _ ty ?_
  refine (And.intro (Nat.le_of_ble_eq_true rfl) (And.intro (Or.inr (Or.inr ⟨rfl, by assumption⟩)) (And.intro (Nat.le_of_ble_eq_true rfl) (And.intro (Nat.le_of_ble_eq_true rfl) (kjY_mono ty (fun q_ u0 ty0 xu0 h_ => ?_) (k_len ty hi))))))
  obtain ⟨rfl, rfl⟩ := h_
  intro _ _
  refine kjZ_y rfl rfl 4 _ _ _ _ ty0 ?_
  refine (And.intro (Nat.le_of_ble_eq_true rfl) (And.intro (Nat.le_of_ble_eq_true rfl) (And.intro (Nat.le_of_ble_eq_true rfl) (And.intro (Nat.le_of_ble_eq_true rfl) (kjY_mono ty0 (fun q_ u1 ty1 xu h_ => ?_) (k_width ty0 _))))))
  obtain ⟨rfl, rfl⟩ := h_
  intro _ _
  have er : nI (dec (nI (tb i).length).toInt64).length + nI (tb i).length + Int32.ofInt 5 = nI (wordL (tb i)).length := by
    rw [el, nI_add, show nI ((dec (lN (tb i).length)).length + (tb i).length) + Int32.ofInt 5 = nI ((dec (lN (tb i).length)).length + (tb i).length + 5) from nI_add _ 5, hwl]
  refine kjZ_y rfl rfl 8 _ _ _ _ ty1 ?_
  refine (And.intro (Nat.le_of_ble_eq_true rfl) (And.intro (Nat.le_of_ble_eq_true rfl) (And.intro (Or.inl ⟨(Nat.le_of_ble_eq_true rfl), (by assumption)⟩) (And.intro (Nat.le_of_ble_eq_true rfl) (And.intro (Nat.le_of_ble_eq_true rfl) (kjY_mono ty1 (fun q_ u2 ty2 xu2 h_ => ?_) (k_room ty1 ow hb h (wordL (tb i)).length _ er (by omega) hq.1 hq.2)))))))
  have q := h_
  intro _ _
  rcases q with ⟨rfl, q⟩ | ⟨rfl, q1, q2, q3, q4, q5, r2, N2, q6, q7⟩
  · refine kjZ_y rfl rfl 1 _ _ _ _ ty2 ?_
    refine And.intro (fun c => ?_) (fun c => ?_)
    · refine kjZ_y rfl rfl 1 _ _ _ _ ty2 ?_
      refine And.intro rfl (And.intro rfl ?_)
      exact op_no hb rfl q
    · exact absurd rfl c
  · have kb2 := ob_k ty2 hb
    refine kjZ_y rfl rfl 1 _ _ _ _ ty2 ?_
    refine And.intro (fun c => ?_) (fun c => ?_)
    · exact absurd (show (1 : Int32) = 0 from c) (by decide)
    · refine kjZ_y rfl rfl 3 _ _ _ _ ty2 ?_
      refine (And.intro (Nat.le_of_ble_eq_true rfl) (And.intro (Or.inl ⟨(Nat.le_of_ble_eq_true rfl), (by assumption)⟩) (And.intro (Nat.le_of_ble_eq_true rfl) (And.intro (Nat.le_of_ble_eq_true rfl) (kjY_mono ty2 (fun q_ u3 ty3 xu3 h_ => ?_) (k_mark ty2 hb q6 (by omega) _))))))
      obtain ⟨rfl, w3, b3⟩ := h_
      intro _ _
      have kb3 := ob_k ty3 hb
      have b3 : BR u3 b r2 N2 (l ++ [36]) := b3
      refine kjZ_y rfl rfl 5 _ _ _ _ ty3 ?_
      refine (And.intro (Nat.le_of_ble_eq_true rfl) (And.intro (Or.inl ⟨(Nat.le_of_ble_eq_true rfl), (by assumption)⟩) (And.intro (Nat.le_of_ble_eq_true rfl) (And.intro (Nat.le_of_ble_eq_true rfl) (kjY_mono ty3 (fun q_ u4 ty4 xu4 h_ => ?_) (k_spell ty3 hb b3 _ (by rw [List.length_append, el]; show l.length + 1 + _ ≤ _; omega) _ rfl))))))
      obtain ⟨rfl, w4, b4⟩ := h_
      intro _ _
      rw [el] at b4
      have kb4 := ob_k ty4 hb
      refine kjZ_y rfl rfl 2 _ _ _ _ ty4 ?_
      refine (And.intro (Nat.le_of_ble_eq_true rfl) (And.intro (Or.inl ⟨(Nat.le_of_ble_eq_true rfl), (by assumption)⟩) (And.intro (Nat.le_of_ble_eq_true rfl) (And.intro (Nat.le_of_ble_eq_true rfl) (kjY_mono ty4 (fun q_ u5 ty5 xu5 h_ => ?_) (k_end ty4 hb b4 (by rw [List.length_append, List.length_append]; show l.length + 1 + _ + 2 ≤ _; omega)))))))
      obtain ⟨rfl, w5, b5⟩ := h_
      intro _ _
      have kb5 := ob_k ty5 hb
      have eL : (l ++ [36] ++ dec (lN (tb i).length) ++ [13, 10]).length = l.length + (dec (lN (tb i).length)).length + 3 := by
        rw [List.length_append, List.length_append, List.length_append]; show l.length + 1 + _ + 2 = _; omega
      refine kjZ_y rfl rfl 3 _ _ _ _ ty5 ?_
      refine (And.intro (Nat.le_of_ble_eq_true rfl) (And.intro (Or.inl ⟨(Nat.le_of_ble_eq_true rfl), (by assumption)⟩) (And.intro (Nat.le_of_ble_eq_true rfl) (And.intro (Nat.le_of_ble_eq_true rfl) (kjY_mono ty5 (fun q_ u6 ty6 xu6 h_ => ?_) (k_spellT ty5 hb hi b5 (by rw [eL]; omega)))))))
      obtain ⟨rfl, w6, b6⟩ := h_
      intro _ _
      have kb6 := ob_k ty6 hb
      refine kjZ_y rfl rfl 2 _ _ _ _ ty6 ?_
      refine (And.intro (Nat.le_of_ble_eq_true rfl) (And.intro (Or.inl ⟨(Nat.le_of_ble_eq_true rfl), (by assumption)⟩) (And.intro (Nat.le_of_ble_eq_true rfl) (And.intro (Nat.le_of_ble_eq_true rfl) (kjY_mono ty6 (fun q_ u7 ty7 xu7 h_ => ?_) (k_end ty6 hb b6 (by rw [List.length_append, eL]; omega)))))))
      obtain ⟨rfl, w7, b7⟩ := h_
      intro _ _
      refine kjZ_y rfl rfl 1 _ _ _ _ ty7 ?_
      refine And.intro rfl (And.intro rfl ?_)
      refine op_fin ty1 ty2 hb q3 q4 q5 q6 ((((w3.tr w4).tr w5).tr w6).tr w7) ?_ rfl
      have e9 : l ++ wordL (tb i) = l ++ [36] ++ dec (lN (tb i).length) ++ [13, 10] ++ tb i ++ [13, 10] := by
        unfold wordL
        simp only [List.append_assoc, List.cons_append, List.nil_append]
      rw [e9]; exact b7
theorem k_numberWord (ty : kTY σ) (ow : OWN σ) {b : Nat} (hb : b ∈ OWb) {l : List Int32} (h : kBY σ b l) (v : Int64) (hq : opQ σ b l (wordL (dec v)).length) :
    kjY kPP (kQQ Y) (d + 4) 52 0 (mjL0 5 [.ref b, .long v]) [] σ (opP σ b l (wordL (dec v))) := by
  have kb := ob_k ty hb
  have hl := dec_len v
  have hwl := wL_eq (dec v)
  have hd := dec_len (lN (dec v).length)
  have el : (nI (dec v).length).toInt64 = lN (dec v).length := nI_l (by omega)
  obtain ⟨r, N, h⟩ := h
  refine kjZ_y rfl rfl 2 _ _ _ _ ty ?_
  refine (And.intro (Nat.le_of_ble_eq_true rfl) (And.intro (Nat.le_of_ble_eq_true rfl) (And.intro (Nat.le_of_ble_eq_true rfl) (kjY_mono ty (fun q_ u0 ty0 xu0 h_ => ?_) (k_width ty _)))))
  obtain ⟨rfl, rfl⟩ := h_
  intro _ _
  refine kjZ_y rfl rfl 4 _ _ _ _ ty0 ?_
  refine (And.intro (Nat.le_of_ble_eq_true rfl) (And.intro (Nat.le_of_ble_eq_true rfl) (And.intro (Nat.le_of_ble_eq_true rfl) (And.intro (Nat.le_of_ble_eq_true rfl) (kjY_mono ty0 (fun q_ u1 ty1 xu h_ => ?_) (k_width ty0 _))))))
  obtain ⟨rfl, rfl⟩ := h_
  intro _ _
  have er : nI (dec (nI (dec v).length).toInt64).length + nI (dec v).length + Int32.ofInt 5 = nI (wordL (dec v)).length := by
    rw [el, nI_add, show nI ((dec (lN (dec v).length)).length + (dec v).length) + Int32.ofInt 5 = nI ((dec (lN (dec v).length)).length + (dec v).length + 5) from nI_add _ 5, hwl]
  refine kjZ_y rfl rfl 8 _ _ _ _ ty1 ?_
  refine (And.intro (Nat.le_of_ble_eq_true rfl) (And.intro (Nat.le_of_ble_eq_true rfl) (And.intro (Or.inl ⟨(Nat.le_of_ble_eq_true rfl), (by assumption)⟩) (And.intro (Nat.le_of_ble_eq_true rfl) (And.intro (Nat.le_of_ble_eq_true rfl) (kjY_mono ty1 (fun q_ u2 ty2 xu2 h_ => ?_) (k_room ty1 ow hb h (wordL (dec v)).length _ er (by omega) hq.1 hq.2)))))))
  have q := h_
  intro _ _
  rcases q with ⟨rfl, q⟩ | ⟨rfl, q1, q2, q3, q4, q5, r2, N2, q6, q7⟩
  · refine kjZ_y rfl rfl 1 _ _ _ _ ty2 ?_
    refine And.intro (fun c => ?_) (fun c => ?_)
    · refine kjZ_y rfl rfl 1 _ _ _ _ ty2 ?_
      refine And.intro rfl (And.intro rfl ?_)
      exact op_no hb rfl q
    · exact absurd rfl c
  · have kb2 := ob_k ty2 hb
    refine kjZ_y rfl rfl 1 _ _ _ _ ty2 ?_
    refine And.intro (fun c => ?_) (fun c => ?_)
    · exact absurd (show (1 : Int32) = 0 from c) (by decide)
    · refine kjZ_y rfl rfl 3 _ _ _ _ ty2 ?_
      refine (And.intro (Nat.le_of_ble_eq_true rfl) (And.intro (Or.inl ⟨(Nat.le_of_ble_eq_true rfl), (by assumption)⟩) (And.intro (Nat.le_of_ble_eq_true rfl) (And.intro (Nat.le_of_ble_eq_true rfl) (kjY_mono ty2 (fun q_ u3 ty3 xu3 h_ => ?_) (k_mark ty2 hb q6 (by omega) _))))))
      obtain ⟨rfl, w3, b3⟩ := h_
      intro _ _
      have kb3 := ob_k ty3 hb
      have b3 : BR u3 b r2 N2 (l ++ [36]) := b3
      refine kjZ_y rfl rfl 5 _ _ _ _ ty3 ?_
      refine (And.intro (Nat.le_of_ble_eq_true rfl) (And.intro (Or.inl ⟨(Nat.le_of_ble_eq_true rfl), (by assumption)⟩) (And.intro (Nat.le_of_ble_eq_true rfl) (And.intro (Nat.le_of_ble_eq_true rfl) (kjY_mono ty3 (fun q_ u4 ty4 xu4 h_ => ?_) (k_spell ty3 hb b3 _ (by rw [List.length_append, el]; show l.length + 1 + _ ≤ _; omega) _ rfl))))))
      obtain ⟨rfl, w4, b4⟩ := h_
      intro _ _
      rw [el] at b4
      have kb4 := ob_k ty4 hb
      refine kjZ_y rfl rfl 2 _ _ _ _ ty4 ?_
      refine (And.intro (Nat.le_of_ble_eq_true rfl) (And.intro (Or.inl ⟨(Nat.le_of_ble_eq_true rfl), (by assumption)⟩) (And.intro (Nat.le_of_ble_eq_true rfl) (And.intro (Nat.le_of_ble_eq_true rfl) (kjY_mono ty4 (fun q_ u5 ty5 xu5 h_ => ?_) (k_end ty4 hb b4 (by rw [List.length_append, List.length_append]; show l.length + 1 + _ + 2 ≤ _; omega)))))))
      obtain ⟨rfl, w5, b5⟩ := h_
      intro _ _
      have kb5 := ob_k ty5 hb
      have eL : (l ++ [36] ++ dec (lN (dec v).length) ++ [13, 10]).length = l.length + (dec (lN (dec v).length)).length + 3 := by
        rw [List.length_append, List.length_append, List.length_append]; show l.length + 1 + _ + 2 = _; omega
      refine kjZ_y rfl rfl 4 _ _ _ _ ty5 ?_
      refine (And.intro (Nat.le_of_ble_eq_true rfl) (And.intro (Or.inl ⟨(Nat.le_of_ble_eq_true rfl), (by assumption)⟩) (And.intro (Nat.le_of_ble_eq_true rfl) (And.intro (Nat.le_of_ble_eq_true rfl) (kjY_mono ty5 (fun q_ u6 ty6 xu6 h_ => ?_) (k_spell ty5 hb b5 v (by rw [eL]; omega) _ rfl))))))
      obtain ⟨rfl, w6, b6⟩ := h_
      intro _ _
      have kb6 := ob_k ty6 hb
      refine kjZ_y rfl rfl 2 _ _ _ _ ty6 ?_
      refine (And.intro (Nat.le_of_ble_eq_true rfl) (And.intro (Or.inl ⟨(Nat.le_of_ble_eq_true rfl), (by assumption)⟩) (And.intro (Nat.le_of_ble_eq_true rfl) (And.intro (Nat.le_of_ble_eq_true rfl) (kjY_mono ty6 (fun q_ u7 ty7 xu7 h_ => ?_) (k_end ty6 hb b6 (by rw [List.length_append, eL]; omega)))))))
      obtain ⟨rfl, w7, b7⟩ := h_
      intro _ _
      refine kjZ_y rfl rfl 1 _ _ _ _ ty7 ?_
      refine And.intro rfl (And.intro rfl ?_)
      refine op_fin ty1 ty2 hb q3 q4 q5 q6 ((((w3.tr w4).tr w5).tr w6).tr w7) ?_ rfl
      have e9 : l ++ wordL (dec v) = l ++ [36] ++ dec (lN (dec v).length) ++ [13, 10] ++ dec v ++ [13, 10] := by
        unfold wordL
        simp only [List.append_assoc, List.cons_append, List.nil_append]
      rw [e9]; exact b7
theorem k_line (ty : kTY σ) (ow : OWN σ) {b : Nat} (hb : b ∈ OWb) {l : List Int32} (h : kBY σ b l) (x : Int32) {i : Nat} (hi : i < 185) (hq : opQ σ b l ((tb i).length + 3)) :
    kjY kPP (kQQ Y) (d + 6) 49 0 (mjL0 3 [.ref b, .int x, .ref (2000000 + i)]) [] σ (opP σ b l (x.toInt8.toInt32 :: tb i ++ [13, 10])) := by
  have kb := ob_k ty hb
  have kc : kSt (2000000 + i) := ⟨i, hi, rfl⟩
  have hl := (tb_ok i hi).1
  have hw : (x.toInt8.toInt32 :: tb i ++ [13, 10]).length = (tb i).length + 3 := by rw [List.length_append, List.length_cons]; rfl
  obtain ⟨r, N, h⟩ := h
  refine kjZ_y rfl rfl 3 _ _ _ _ ty ?_
  refine (And.intro (Nat.le_of_ble_eq_true rfl) (And.intro (Or.inr (Or.inr ⟨rfl, by assumption⟩)) (And.intro (Nat.le_of_ble_eq_true rfl) (And.intro (Nat.le_of_ble_eq_true rfl) (kjY_mono ty (fun q_ u1 ty1 xu h_ => ?_) (k_len ty hi))))))
  obtain ⟨rfl, rfl⟩ := h_
  intro _ _
  refine kjZ_y rfl rfl 3 _ _ _ _ ty1 ?_
  refine (And.intro (Nat.le_of_ble_eq_true rfl) (And.intro (Or.inl ⟨(Nat.le_of_ble_eq_true rfl), (by assumption)⟩) (And.intro (Nat.le_of_ble_eq_true rfl) (And.intro (Nat.le_of_ble_eq_true rfl) (kjY_mono ty1 (fun q_ u2 ty2 xu2 h_ => ?_) (k_room ty1 ow hb h ((tb i).length + 3) _ (nI_add _ 3) (by omega) hq.1 hq.2))))))
  have q := h_
  intro _ _
  rcases q with ⟨rfl, q⟩ | ⟨rfl, q1, q2, q3, q4, q5, r2, N2, q6, q7⟩
  · refine kjZ_y rfl rfl 1 _ _ _ _ ty2 ?_
    refine And.intro (fun c => ?_) (fun c => ?_)
    · refine kjZ_y rfl rfl 1 _ _ _ _ ty2 ?_
      refine And.intro rfl (And.intro rfl ?_)
      exact op_no hb hw q
    · exact absurd rfl c
  · have kb2 := ob_k ty2 hb
    refine kjZ_y rfl rfl 1 _ _ _ _ ty2 ?_
    refine And.intro (fun c => ?_) (fun c => ?_)
    · exact absurd (show (1 : Int32) = 0 from c) (by decide)
    · refine kjZ_y rfl rfl 3 _ _ _ _ ty2 ?_
      refine (And.intro (Nat.le_of_ble_eq_true rfl) (And.intro (Or.inl ⟨(Nat.le_of_ble_eq_true rfl), (by assumption)⟩) (And.intro (Nat.le_of_ble_eq_true rfl) (And.intro (Nat.le_of_ble_eq_true rfl) (kjY_mono ty2 (fun q_ u3 ty3 xu3 h_ => ?_) (k_mark ty2 hb q6 (by omega) x))))))
      obtain ⟨rfl, w3, b3⟩ := h_
      intro _ _
      have kb3 := ob_k ty3 hb
      refine kjZ_y rfl rfl 3 _ _ _ _ ty3 ?_
      refine (And.intro (Nat.le_of_ble_eq_true rfl) (And.intro (Or.inl ⟨(Nat.le_of_ble_eq_true rfl), (by assumption)⟩) (And.intro (Nat.le_of_ble_eq_true rfl) (And.intro (Nat.le_of_ble_eq_true rfl) (kjY_mono ty3 (fun q_ u4 ty4 xu4 h_ => ?_) (k_spellT ty3 hb hi b3 (by rw [List.length_append]; show l.length + 1 + _ ≤ _; omega)))))))
      obtain ⟨rfl, w4, b4⟩ := h_
      intro _ _
      have kb4 := ob_k ty4 hb
      refine kjZ_y rfl rfl 2 _ _ _ _ ty4 ?_
      refine (And.intro (Nat.le_of_ble_eq_true rfl) (And.intro (Or.inl ⟨(Nat.le_of_ble_eq_true rfl), (by assumption)⟩) (And.intro (Nat.le_of_ble_eq_true rfl) (And.intro (Nat.le_of_ble_eq_true rfl) (kjY_mono ty4 (fun q_ u5 ty5 xu5 h_ => ?_) (k_end ty4 hb b4 (by rw [List.length_append, List.length_append]; show l.length + 1 + _ + 2 ≤ _; omega)))))))
      obtain ⟨rfl, w5, b5⟩ := h_
      intro _ _
      refine kjZ_y rfl rfl 1 _ _ _ _ ty5 ?_
      refine And.intro rfl (And.intro rfl ?_)
      refine op_fin ty1 ty2 hb q3 q4 q5 q6 ((w3.tr w4).tr w5) ?_ hw
      rw [List.append_assoc, List.append_assoc] at b5
      exact b5
theorem k_rowHead (ty : kTY σ) (ow : OWN σ) {b : Nat} (hb : b ∈ OWb) {l : List Int32} (h : kBY σ b l) (x : Int32) {n : Nat} (ex : x = nI n) (hn : n < 2 ^ 30) (hq : opQ σ b l ((dec (lN n)).length + 3)) : kjY kPP (kQQ Y) (d + 5) 60 0 (mjL0 2 [.ref b, .int x]) [] σ (opP σ b l (42 :: dec (lN n) ++ [13, 10])) := by
  have kb := ob_k ty hb
  have el : x.toInt64 = lN n := by rw [ex]; exact nI_l (by omega)
  rw [← el] at hq ⊢
  refine kjZ_y rfl rfl 5 _ _ _ _ ty ?_
  refine (And.intro (Nat.le_of_ble_eq_true rfl) (And.intro (Or.inl ⟨(Nat.le_of_ble_eq_true rfl), (by assumption)⟩) (And.intro (Nat.le_of_ble_eq_true rfl) (And.intro (Nat.le_of_ble_eq_true rfl) (kjY_mono ty (fun q_ u1 ty1 xu h_ => ?_) (k_head ty ow hb h _ _ hq))))))
  have q := h_
  intro _ _
  have q0 := q.1
  subst q0
  refine kjZ_y rfl rfl 1 _ _ _ _ ty1 ?_
  refine And.intro rfl (And.intro rfl ?_)
  exact q
theorem k_number (ty : kTY σ) (ow : OWN σ) {b : Nat} (hb : b ∈ OWb) {l : List Int32} (h : kBY σ b l) (v : Int64) (hq : opQ σ b l ((dec v).length + 3)) : kjY kPP (kQQ Y) (d + 5) 58 0 (mjL0 3 [.ref b, .long v]) [] σ (opP σ b l (58 :: dec v ++ [13, 10])) := by
  have kb := ob_k ty hb
  refine kjZ_y rfl rfl 4 _ _ _ _ ty ?_
  refine (And.intro (Nat.le_of_ble_eq_true rfl) (And.intro (Or.inl ⟨(Nat.le_of_ble_eq_true rfl), (by assumption)⟩) (And.intro (Nat.le_of_ble_eq_true rfl) (And.intro (Nat.le_of_ble_eq_true rfl) (kjY_mono ty (fun q_ u1 ty1 xu h_ => ?_) (k_head ty ow hb h _ _ hq))))))
  have q := h_
  intro _ _
  have q0 := q.1
  subst q0
  refine kjZ_y rfl rfl 1 _ _ _ _ ty1 ?_
  refine And.intro rfl (And.intro rfl ?_)
  exact q
theorem k_nil (ty : kTY σ) (ow : OWN σ) {b : Nat} (hb : b ∈ OWb) {l : List Int32} (h : kBY σ b l) (hq : opQ σ b l ((dec (-1)).length + 3)) : kjY kPP (kQQ Y) (d + 5) 59 0 (mjL0 1 [.ref b]) [] σ (opP σ b l (36 :: dec (-1) ++ [13, 10])) := by
  have kb := ob_k ty hb
  refine kjZ_y rfl rfl 4 _ _ _ _ ty ?_
  refine (And.intro (Nat.le_of_ble_eq_true rfl) (And.intro (Or.inl ⟨(Nat.le_of_ble_eq_true rfl), (by assumption)⟩) (And.intro (Nat.le_of_ble_eq_true rfl) (And.intro (Nat.le_of_ble_eq_true rfl) (kjY_mono ty (fun q_ u1 ty1 xu h_ => ?_) (k_head ty ow hb h _ _ hq))))))
  have q := h_
  intro _ _
  have q0 := q.1
  subst q0
  refine kjZ_y rfl rfl 1 _ _ _ _ ty1 ?_
  refine And.intro rfl (And.intro rfl ?_)
  exact q
theorem k_nilRow (ty : kTY σ) (ow : OWN σ) {b : Nat} (hb : b ∈ OWb) {l : List Int32} (h : kBY σ b l) (hq : opQ σ b l ((dec (-1)).length + 3)) : kjY kPP (kQQ Y) (d + 5) 61 0 (mjL0 1 [.ref b]) [] σ (opP σ b l (42 :: dec (-1) ++ [13, 10])) := by
  have kb := ob_k ty hb
  refine kjZ_y rfl rfl 4 _ _ _ _ ty ?_
  refine (And.intro (Nat.le_of_ble_eq_true rfl) (And.intro (Or.inl ⟨(Nat.le_of_ble_eq_true rfl), (by assumption)⟩) (And.intro (Nat.le_of_ble_eq_true rfl) (And.intro (Nat.le_of_ble_eq_true rfl) (kjY_mono ty (fun q_ u1 ty1 xu h_ => ?_) (k_head ty ow hb h _ _ hq))))))
  have q := h_
  intro _ _
  have q0 := q.1
  subst q0
  refine kjZ_y rfl rfl 1 _ _ _ _ ty1 ?_
  refine And.intro rfl (And.intro rfl ?_)
  exact q
theorem k_digits (ty : kTY σ) (ow : OWN σ) {b : Nat} (hb : b ∈ OWb) {l : List Int32} (h : kBY σ b l) (v : Int64) (hq : opQ σ b l (dec v).length) : kjY kPP (kQQ Y) (d + 4) 48 0 (mjL0 4 [.ref b, .long v]) [] σ (opP σ b l (dec v)) := by
  have kb := ob_k ty hb
  have hd := dec_len v
  obtain ⟨r, N, h⟩ := h
  refine kjZ_y rfl rfl 2 _ _ _ _ ty ?_
  refine (And.intro (Nat.le_of_ble_eq_true rfl) (And.intro (Nat.le_of_ble_eq_true rfl) (And.intro (Nat.le_of_ble_eq_true rfl) (kjY_mono ty (fun q_ u1 ty1 xu h_ => ?_) (k_width ty v)))))
  obtain ⟨rfl, rfl⟩ := h_
  intro _ _
  refine kjZ_y rfl rfl 4 _ _ _ _ ty1 ?_
  refine (And.intro (Nat.le_of_ble_eq_true rfl) (And.intro (Nat.le_of_ble_eq_true rfl) (And.intro (Or.inl ⟨(Nat.le_of_ble_eq_true rfl), (by assumption)⟩) (And.intro (Nat.le_of_ble_eq_true rfl) (And.intro (Nat.le_of_ble_eq_true rfl) (kjY_mono ty1 (fun q_ u2 ty2 xu2 h_ => ?_) (k_room ty1 ow hb h (dec v).length _ rfl (by omega) hq.1 hq.2)))))))
  have q := h_
  intro _ _
  rcases q with ⟨rfl, q⟩ | ⟨rfl, q1, q2, q3, q4, q5, r2, N2, q6, q7⟩
  · refine kjZ_y rfl rfl 1 _ _ _ _ ty2 ?_
    refine And.intro (fun c => ?_) (fun c => ?_)
    · refine kjZ_y rfl rfl 1 _ _ _ _ ty2 ?_
      refine And.intro rfl (And.intro rfl ?_)
      exact op_no hb rfl q
    · exact absurd rfl c
  · have kb2 := ob_k ty2 hb
    refine kjZ_y rfl rfl 1 _ _ _ _ ty2 ?_
    refine And.intro (fun c => ?_) (fun c => ?_)
    · exact absurd (show (1 : Int32) = 0 from c) (by decide)
    · refine kjZ_y rfl rfl 4 _ _ _ _ ty2 ?_
      refine (And.intro (Nat.le_of_ble_eq_true rfl) (And.intro (Or.inl ⟨(Nat.le_of_ble_eq_true rfl), (by assumption)⟩) (And.intro (Nat.le_of_ble_eq_true rfl) (And.intro (Nat.le_of_ble_eq_true rfl) (kjY_mono ty2 (fun q_ u4 ty4 xu4 h_ => ?_) (k_spell ty2 hb q6 v q7 _ rfl))))))
      obtain ⟨rfl, w4, b4⟩ := h_
      intro _ _
      refine kjZ_y rfl rfl 1 _ _ _ _ ty4 ?_
      refine And.intro rfl (And.intro rfl ?_)
      exact op_fin ty1 ty2 hb q3 q4 q5 q6 w4 b4 rfl
end KBO3
