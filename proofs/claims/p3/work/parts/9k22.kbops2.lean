/-! Bytes: words, texts, numbers, lines. -/
section KBO2
variable {Y : Nat → MethodName × ByteArray} {d : Nat} {σ : kS}
theorem wL_eq (w : List Int32) : (wordL w).length = (dec (lN w.length)).length + w.length + 5 := by
  unfold wordL
  rw [List.length_append, List.length_append, List.length_append, List.length_cons]
  show (dec (lN w.length)).length + 1 + 2 + w.length + 2 = _; omega
/-- a row's bytes are put behind -/
theorem k_word (ty : kTY σ) (ow : OWN σ) {b : Nat} (hb : b ∈ OWb) {l : List Int32} (h : kBY σ b l) {g M a n : Nat} (kg : σ.2.2.2.1 g = (21, M)) (hM : M ≤ 600000) (ha : a + n ≤ M) (hg : ¬ σ.2.2.1 b 1 = some g) (x2 x3 : Int32) (e2 : x2 = nI a) (e3 : x3 = nI n) (hq : opQ σ b l (wordL (wd (σ.1 g) a n)).length) :
    kjY kPP (kQQ Y) (d + 4) 50 0 (mjL0 5 [.ref b, .ref g, .int x2, .int x3]) [] σ (opP σ b l (wordL (wd (σ.1 g) a n))) := by
  have kb := ob_k ty hb
  have hwl := wL_eq (wd (σ.1 g) a n)
  rw [wd_len] at hwl
  have hd := dec_len (lN n)
  have el : x3.toInt64 = lN n := by rw [e3]; exact nI_l (by omega)
  obtain ⟨r, N, h⟩ := h
  have hgr : ¬ g = r := fun z => hg (by rw [z]; exact h.1)
  have hgb : ¬ g = b := fun z => by rw [z] at kg; rw [kg] at kb; exact absurd (show (21 : Nat) = 0 from kb) (by decide)
  refine kjZ_y rfl rfl 2 _ _ _ _ ty ?_
  refine And.intro (fun c => ?_) (fun c => ?_)
  · exact absurd c (by rw [e2]; exact nI_n0 (by omega))
  refine kjZ_y rfl rfl 2 _ _ _ _ ty ?_
  refine And.intro (fun c2 => ?_) (fun c2 => ?_)
  · exact absurd c2 (by rw [e3]; exact nI_n0 (by omega))
  refine kjZ_y rfl rfl 6 _ _ _ _ ty ?_
  refine (Or.inl (And.intro (kdq kg) (And.intro (fun c3 => ?_) (fun c3 => ?_))))
  rotate_left
  · refine absurd (show x3 ≤ nI (σ.2.2.2.1 g).2 - x2 from ?_) c3
    rw [kg, e2, e3, pk_sub (by omega)]; exact nI_le (by omega) (by omega)
  refine kjZ_y rfl rfl 3 _ _ _ _ ty ?_
  refine (And.intro (Nat.le_of_ble_eq_true rfl) (And.intro (Nat.le_of_ble_eq_true rfl) (And.intro (Nat.le_of_ble_eq_true rfl) (kjY_mono ty (fun q_ u1 ty1 xu h_ => ?_) (k_width ty _)))))
  obtain ⟨rfl, rfl⟩ := h_
  intro _ _
  have er : nI (dec x3.toInt64).length + x3 + Int32.ofInt 5 = nI (wordL (wd (u1.1 g) a n)).length := by
    rw [el, e3, nI_add, show nI ((dec (lN n)).length + n) + Int32.ofInt 5 = nI ((dec (lN n)).length + n + 5) from nI_add _ 5, hwl]
  refine kjZ_y rfl rfl 8 _ _ _ _ ty1 ?_
  refine (And.intro (Nat.le_of_ble_eq_true rfl) (And.intro (Nat.le_of_ble_eq_true rfl) (And.intro (Or.inl ⟨(Nat.le_of_ble_eq_true rfl), (by assumption)⟩) (And.intro (Nat.le_of_ble_eq_true rfl) (And.intro (Nat.le_of_ble_eq_true rfl) (kjY_mono ty1 (fun q_ u2 ty2 xu2 h_ => ?_) (k_room ty1 ow hb h (wordL (wd (u1.1 g) a n)).length _ er (by omega) hq.1 hq.2)))))))
  have q := h_
  intro _ _
  rcases q with ⟨rfl, q⟩ | ⟨rfl, q1, q2, q3, q4, q5, r2, N2, q6, q7⟩
  · refine kjZ_y rfl rfl 1 _ _ _ _ ty2 ?_
    refine And.intro (fun c => ?_) (fun c => ?_)
    · refine kjZ_y rfl rfl 1 _ _ _ _ ty2 ?_
      refine And.intro rfl (And.intro rfl ?_)
      exact op_no hb rfl q
    · exact absurd rfl c
  · have kb2 := ob_k ty2 hb
    have hr2 : ¬ g = r2 := fun z => by
      rcases q5.2.2.2 (b, 1) (ow_b hb) r2 q6.1 with y | y | ⟨p, hp, y⟩
      · exact hg (by rw [z]; exact y.symm.trans q6.1)
      · have := ty1.lr kg (by decide); omega
      · rw [List.mem_singleton.mp hp] at y; exact hg (by rw [z]; exact y)
    have hkg2 : u2.2.2.2.1 g = (21, M) := xu2.kl ty1 kg (by show ¬ (21 : Nat) = 99; decide)
    have hIg : u2.1 g = u1.1 g := (q5.2.2.1 g (by rw [kg]; exact (show 20 ≤ 21 by decide)) (by rw [kg]; exact (show 21 ≤ 25 by decide)) (fun p hp y => by rw [List.mem_singleton.mp hp] at y; exact hg y)).1
    refine kjZ_y rfl rfl 1 _ _ _ _ ty2 ?_
    refine And.intro (fun c => ?_) (fun c => ?_)
    · exact absurd (show (1 : Int32) = 0 from c) (by decide)
    · refine kjZ_y rfl rfl 3 _ _ _ _ ty2 ?_
      refine (And.intro (Nat.le_of_ble_eq_true rfl) (And.intro (Or.inl ⟨(Nat.le_of_ble_eq_true rfl), (by assumption)⟩) (And.intro (Nat.le_of_ble_eq_true rfl) (And.intro (Nat.le_of_ble_eq_true rfl) (kjY_mono ty2 (fun q_ u3 ty3 xu3 h_ => ?_) (k_mark ty2 hb q6 (by omega) _))))))
      obtain ⟨rfl, w3, b3⟩ := h_
      intro _ _
      have kb3 := ob_k ty3 hb
      have b3 : BR u3 b r2 N2 (l ++ [36]) := b3
      refine kjZ_y rfl rfl 5 _ _ _ _ ty3 ?_
      refine (And.intro (Nat.le_of_ble_eq_true rfl) (And.intro (Or.inl ⟨(Nat.le_of_ble_eq_true rfl), (by assumption)⟩) (And.intro (Nat.le_of_ble_eq_true rfl) (And.intro (Nat.le_of_ble_eq_true rfl) (kjY_mono ty3 (fun q_ u4 ty4 xu4 h_ => ?_) (k_spell ty3 hb b3 _ (by rw [List.length_append, el]; show l.length + 1 + _ ≤ _; omega) _ rfl))))))
      obtain ⟨rfl, w4, b4⟩ := h_
      intro _ _
      rw [el] at b4
      have kb4 := ob_k ty4 hb
      refine kjZ_y rfl rfl 2 _ _ _ _ ty4 ?_
      refine (And.intro (Nat.le_of_ble_eq_true rfl) (And.intro (Or.inl ⟨(Nat.le_of_ble_eq_true rfl), (by assumption)⟩) (And.intro (Nat.le_of_ble_eq_true rfl) (And.intro (Nat.le_of_ble_eq_true rfl) (kjY_mono ty4 (fun q_ u5 ty5 xu5 h_ => ?_) (k_end ty4 hb b4 (by rw [List.length_append, List.length_append]; show l.length + 1 + _ + 2 ≤ _; omega)))))))
      obtain ⟨rfl, w5, b5⟩ := h_
      intro _ _
      have kb5 := ob_k ty5 hb
      have ws := (w3.tr w4).tr w5
      have hbr := br_ne ty5 hb b5
      have eL : (l ++ [36] ++ dec (lN n) ++ [13, 10]).length = l.length + (dec (lN n)).length + 3 := by
        rw [List.length_append, List.length_append, List.length_append]; show l.length + 1 + _ + 2 = _; omega
      have kg5 : u5.2.2.2.1 g = (21, M) := by rw [show u5.2.2.2.1 = u2.2.2.2.1 from congrArg (fun t => t.2.2.1) ws.1]; exact hkg2
      have gb2 : ¬ (g = b ∧ (2 : Nat) = 2) := fun z => hgb z.1
      have hIg5 : u5.1 g = u1.1 g := by
        funext j
        rw [ws.2 g j hr2 (fun z => hgb z.1), hIg]
      have s5 := b5.2.2.2.2.1
      rw [eL] at s5
      refine kjZ_y rfl rfl 14 _ _ _ _ ty5 ?_
      refine (And.intro (by assumption) (Exists.intro _ (And.intro b5.1 (And.intro (by assumption) (Exists.intro a (Exists.intro (l.length + (dec (lN n)).length + 3) (Exists.intro n (And.intro ⟨e2, s5, e3⟩ (And.intro ⟨by rw [kg5, b5.2.1], by rw [kg5]; exact ha, by rw [b5.2.1]; show _ + _ ≤ N2; omega⟩ (And.intro ⟨(Nat.le_of_ble_eq_true rfl), (Nat.le_of_ble_eq_true rfl)⟩ (Or.inl (And.intro (Or.inr (kdk b5.2.1)) (fun ty5' => (And.intro (by assumption) (And.intro (by assumption) (And.intro (Or.inl rfl) (fun ty5'' => ?_)))))))))))))))))
      have go : ∀ u, kTY u → Wi b r2 u5 u → BR u b r2 N2 (l ++ [36] ++ dec (lN n) ++ [13, 10] ++ wd (u1.1 g) a n) → kjY kPP (kQQ Y) (d + 4) 50 47 [some (.ref b), some (.ref g), some (.int x2), some (.int x3), some (.int (nI (dec x3.toInt64).length))] [] u (opP u1 b l (wordL (wd (u1.1 g) a n))) := by
        intro u tu wu bu
        have kbu := ob_k tu hb
        refine kjZ_y rfl rfl 2 _ _ _ _ tu ?_
        refine (And.intro (Nat.le_of_ble_eq_true rfl) (And.intro (Or.inl ⟨(Nat.le_of_ble_eq_true rfl), (by assumption)⟩) (And.intro (Nat.le_of_ble_eq_true rfl) (And.intro (Nat.le_of_ble_eq_true rfl) (kjY_mono tu (fun q_ u6 ty6 xu6 h_ => ?_) (k_end tu hb bu (by rw [List.length_append, eL, wd_len]; omega)))))))
        obtain ⟨rfl, w6, b6⟩ := h_
        intro _ _
        refine kjZ_y rfl rfl 1 _ _ _ _ ty6 ?_
        refine And.intro rfl (And.intro rfl ?_)
        refine op_fin ty1 ty2 hb q3 q4 q5 q6 ((ws.tr wu).tr w6) ?_ rfl
        have e9 : l ++ wordL (wd (u1.1 g) a n) = l ++ [36] ++ dec (lN n) ++ [13, 10] ++ wd (u1.1 g) a n ++ [13, 10] := by
          unfold wordL; rw [wd_len]
          simp only [List.append_assoc, List.cons_append, List.nil_append]
        rw [e9]; exact b6
      have eI : ∀ h y, mjIu (kUp u5.1 r2 (va_cpy (u5.1 g) (u5.1 r2) a (l.length + (dec (lN n)).length + 3) n)) b 2 (kUp u5.1 r2 (va_cpy (u5.1 g) (u5.1 r2) a (l.length + (dec (lN n)).length + 3) n) b 2 + x3) h y = if h = b ∧ y = 2 then u5.1 b 2 + x3 else if h = r2 then va_cpy (u5.1 g) (u5.1 r2) a (l.length + (dec (lN n)).length + 3) n y else u5.1 h y := by
        intro h y
        rw [mjIu_at]
        by_cases z : h = b ∧ y = 2
        · rw [if_pos z, if_pos z, kUp_n hbr]
        · rw [if_neg z, if_neg z]
          by_cases z2 : h = r2
          · rw [if_pos z2, z2, kUp_s]
          · rw [if_neg z2, kUp_n z2]
      have wu : Wi b r2 u5 (mjIu (kUp u5.1 r2 (va_cpy (u5.1 g) (u5.1 r2) a (l.length + (dec (lN n)).length + 3) n)) b 2 (kUp u5.1 r2 (va_cpy (u5.1 g) (u5.1 r2) a (l.length + (dec (lN n)).length + 3) n) b 2 + x3), u5.2) := ⟨rfl, fun h y p1 p2 => (eI h y).trans (by rw [if_neg p2, if_neg p1])⟩
      refine go _ ty5'' wu (b5.put hbr wu ?_ ?_ (fun j hj => ?_) ?_)
      · rw [eL, wd_len]; omega
      · refine (eI b 2).trans ?_
        rw [if_pos ⟨rfl, rfl⟩, s5, e3, nI_add, eL, wd_len]
      · refine (eI r2 j).trans ?_
        rw [eL] at hj
        rw [if_neg (fun z => hbr z.1.symm), if_pos rfl, pk_cpy_out (Or.inl (by omega))]
      · rw [wd_len, eL]
        refine wd_congr fun j hj => (eI r2 _).trans ?_
        rw [if_neg (fun z => hbr z.1.symm), if_pos rfl, pk_cpy_in (by omega) (by omega), hIg5]
        exact congrArg (u1.1 g) (by omega)
end KBO2
