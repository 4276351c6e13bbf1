/-! Orders: a flag's word; a line is told. -/
section KOFLAG
variable {Y : Nat → MethodName × ByteArray} {d : Nat} {σ0 σ u : kS} {B ws nm nm' : List (List Int32)} {ks : List KC}
def flgC (v : List Int32) : Int32 := if isJ 154 v then 1 else if isJ 155 v then 2 else if isJ 156 v then 4 else if isJ 157 v then 8 else if isJ 158 v then 16 else if isJ 159 v then 32 else 0
theorem kx_flagOf (ty : kTY σ) (w : KWd σ0 B σ ws nm ks) {i : Nat} (hi : i < 2 ^ 30) {v : List Int32} (hv : ws[i]? = some v) (x1 : Int32) (e1 : x1 = nI i) : kjY kPP (kQQ Y) (d + 7) 235 0 (mjL0 2 [.ref 75, .int x1]) [] σ (fun r u => u = σ ∧ r = some (.int (flgC v))) := by
  have isX : ∀ (n k : Nat) (v : List Int32) {r : Option Value}, ws[k]? = some v → ((r = some (.int 1) ∧ ∃ v, ws[k]? = some v ∧ v.map up = tb n) ∨ (r = some (.int 0) ∧ ∀ v, ws[k]? = some v → ¬ v.map up = tb n)) → (r = some (.int 1) ∧ isJ n v) ∨ (r = some (.int 0) ∧ ¬ isJ n v) := by
    intro n k v r hv q
    rcases q with ⟨q1, v', q2, q3⟩ | ⟨q1, q2⟩
    · rw [hv] at q2; cases q2; exact Or.inl ⟨q1, q3⟩
    · exact Or.inr ⟨q1, q2 v hv⟩
  unfold flgC
  refine kjZ_y rfl rfl 5 _ _ _ _ ty ?_
  refine (And.intro (ty.k (by decide) rfl) (And.intro rfl (And.intro (Nat.le_of_ble_eq_true rfl) (And.intro (Or.inl ⟨(Nat.le_of_ble_eq_true rfl), (ty.k (by decide) rfl)⟩) (And.intro (Nat.le_of_ble_eq_true rfl) (And.intro (Nat.le_of_ble_eq_true rfl) (kjY_mono ty (fun q_ u1 ty1 xu1 h_ => ?_) (kx_is ty w (i := 154) (by decide) i hi _ e1))))))))
  obtain ⟨rfl, q1⟩ := h_
  intro _ _
  rcases isX 154 i v hv q1 with ⟨rfl, c1⟩ | ⟨rfl, c1⟩
  · refine kjZ_y rfl rfl 1 _ _ _ _ ty1 ?_
    refine And.intro (fun c => ?_) (fun c => ?_)
    · exact absurd (show (1 : Int32) = 0 from c) (by decide)
    refine kjZ_y rfl rfl 3 _ _ _ _ ty1 ?_
    refine And.intro rfl (And.intro (Or.inl rfl) ?_)
    refine ⟨rfl, ?_⟩
    rw [if_pos c1]; rfl
  refine kjZ_y rfl rfl 1 _ _ _ _ ty1 ?_
  refine And.intro (fun c => ?_) (fun c => ?_)
  rotate_left
  · exact absurd rfl c
  refine kjZ_y rfl rfl 5 _ _ _ _ ty1 ?_
  refine (And.intro (ty1.k (by decide) rfl) (And.intro rfl (And.intro (Nat.le_of_ble_eq_true rfl) (And.intro (Or.inl ⟨(Nat.le_of_ble_eq_true rfl), (ty1.k (by decide) rfl)⟩) (And.intro (Nat.le_of_ble_eq_true rfl) (And.intro (Nat.le_of_ble_eq_true rfl) (kjY_mono ty1 (fun q_ u2 ty2 xu2 h_ => ?_) (kx_is ty1 w (i := 155) (by decide) i hi _ e1))))))))
  obtain ⟨rfl, q2⟩ := h_
  intro _ _
  rcases isX 155 i v hv q2 with ⟨rfl, c2⟩ | ⟨rfl, c2⟩
  · refine kjZ_y rfl rfl 1 _ _ _ _ ty2 ?_
    refine And.intro (fun c => ?_) (fun c => ?_)
    · exact absurd (show (1 : Int32) = 0 from c) (by decide)
    refine kjZ_y rfl rfl 3 _ _ _ _ ty2 ?_
    refine And.intro rfl (And.intro (Or.inl rfl) ?_)
    refine ⟨rfl, ?_⟩
    rw [if_neg c1, if_pos c2]; rfl
  refine kjZ_y rfl rfl 1 _ _ _ _ ty2 ?_
  refine And.intro (fun c => ?_) (fun c => ?_)
  rotate_left
  · exact absurd rfl c
  refine kjZ_y rfl rfl 5 _ _ _ _ ty2 ?_
  refine (And.intro (ty2.k (by decide) rfl) (And.intro rfl (And.intro (Nat.le_of_ble_eq_true rfl) (And.intro (Or.inl ⟨(Nat.le_of_ble_eq_true rfl), (ty2.k (by decide) rfl)⟩) (And.intro (Nat.le_of_ble_eq_true rfl) (And.intro (Nat.le_of_ble_eq_true rfl) (kjY_mono ty2 (fun q_ u3 ty3 xu3 h_ => ?_) (kx_is ty2 w (i := 156) (by decide) i hi _ e1))))))))
  obtain ⟨rfl, q3⟩ := h_
  intro _ _
  rcases isX 156 i v hv q3 with ⟨rfl, c3⟩ | ⟨rfl, c3⟩
  · refine kjZ_y rfl rfl 1 _ _ _ _ ty3 ?_
    refine And.intro (fun c => ?_) (fun c => ?_)
    · exact absurd (show (1 : Int32) = 0 from c) (by decide)
    refine kjZ_y rfl rfl 3 _ _ _ _ ty3 ?_
    refine And.intro rfl (And.intro (Or.inl rfl) ?_)
    refine ⟨rfl, ?_⟩
    rw [if_neg c1, if_neg c2, if_pos c3]; rfl
  refine kjZ_y rfl rfl 1 _ _ _ _ ty3 ?_
  refine And.intro (fun c => ?_) (fun c => ?_)
  rotate_left
  · exact absurd rfl c
  refine kjZ_y rfl rfl 5 _ _ _ _ ty3 ?_
  refine (And.intro (ty3.k (by decide) rfl) (And.intro rfl (And.intro (Nat.le_of_ble_eq_true rfl) (And.intro (Or.inl ⟨(Nat.le_of_ble_eq_true rfl), (ty3.k (by decide) rfl)⟩) (And.intro (Nat.le_of_ble_eq_true rfl) (And.intro (Nat.le_of_ble_eq_true rfl) (kjY_mono ty3 (fun q_ u4 ty4 xu4 h_ => ?_) (kx_is ty3 w (i := 157) (by decide) i hi _ e1))))))))
  obtain ⟨rfl, q4⟩ := h_
  intro _ _
  rcases isX 157 i v hv q4 with ⟨rfl, c4⟩ | ⟨rfl, c4⟩
  · refine kjZ_y rfl rfl 1 _ _ _ _ ty4 ?_
    refine And.intro (fun c => ?_) (fun c => ?_)
    · exact absurd (show (1 : Int32) = 0 from c) (by decide)
    refine kjZ_y rfl rfl 3 _ _ _ _ ty4 ?_
    refine And.intro rfl (And.intro (Or.inl rfl) ?_)
    refine ⟨rfl, ?_⟩
    rw [if_neg c1, if_neg c2, if_neg c3, if_pos c4]; rfl
  refine kjZ_y rfl rfl 1 _ _ _ _ ty4 ?_
  refine And.intro (fun c => ?_) (fun c => ?_)
  rotate_left
  · exact absurd rfl c
  refine kjZ_y rfl rfl 5 _ _ _ _ ty4 ?_
  refine (And.intro (ty4.k (by decide) rfl) (And.intro rfl (And.intro (Nat.le_of_ble_eq_true rfl) (And.intro (Or.inl ⟨(Nat.le_of_ble_eq_true rfl), (ty4.k (by decide) rfl)⟩) (And.intro (Nat.le_of_ble_eq_true rfl) (And.intro (Nat.le_of_ble_eq_true rfl) (kjY_mono ty4 (fun q_ u5 ty5 xu5 h_ => ?_) (kx_is ty4 w (i := 158) (by decide) i hi _ e1))))))))
  obtain ⟨rfl, q5⟩ := h_
  intro _ _
  rcases isX 158 i v hv q5 with ⟨rfl, c5⟩ | ⟨rfl, c5⟩
  · refine kjZ_y rfl rfl 1 _ _ _ _ ty5 ?_
    refine And.intro (fun c => ?_) (fun c => ?_)
    · exact absurd (show (1 : Int32) = 0 from c) (by decide)
    refine kjZ_y rfl rfl 3 _ _ _ _ ty5 ?_
    refine And.intro rfl (And.intro (Or.inl rfl) ?_)
    refine ⟨rfl, ?_⟩
    rw [if_neg c1, if_neg c2, if_neg c3, if_neg c4, if_pos c5]; rfl
  refine kjZ_y rfl rfl 1 _ _ _ _ ty5 ?_
  refine And.intro (fun c => ?_) (fun c => ?_)
  rotate_left
  · exact absurd rfl c
  refine kjZ_y rfl rfl 5 _ _ _ _ ty5 ?_
  refine (And.intro (ty5.k (by decide) rfl) (And.intro rfl (And.intro (Nat.le_of_ble_eq_true rfl) (And.intro (Or.inl ⟨(Nat.le_of_ble_eq_true rfl), (ty5.k (by decide) rfl)⟩) (And.intro (Nat.le_of_ble_eq_true rfl) (And.intro (Nat.le_of_ble_eq_true rfl) (kjY_mono ty5 (fun q_ u6 ty6 xu6 h_ => ?_) (kx_is ty5 w (i := 159) (by decide) i hi _ e1))))))))
  obtain ⟨rfl, q6⟩ := h_
  intro _ _
  rcases isX 159 i v hv q6 with ⟨rfl, c6⟩ | ⟨rfl, c6⟩
  · refine kjZ_y rfl rfl 1 _ _ _ _ ty6 ?_
    refine And.intro (fun c => ?_) (fun c => ?_)
    · exact absurd (show (1 : Int32) = 0 from c) (by decide)
    refine kjZ_y rfl rfl 3 _ _ _ _ ty6 ?_
    refine And.intro rfl (And.intro (Or.inl rfl) ?_)
    refine ⟨rfl, ?_⟩
    rw [if_neg c1, if_neg c2, if_neg c3, if_neg c4, if_neg c5, if_pos c6]; rfl
  refine kjZ_y rfl rfl 1 _ _ _ _ ty6 ?_
  refine And.intro (fun c => ?_) (fun c => ?_)
  rotate_left
  · exact absurd rfl c
  refine kjZ_y rfl rfl 2 _ _ _ _ ty6 ?_
  refine And.intro rfl (And.intro (Or.inl rfl) ?_)
  refine ⟨rfl, ?_⟩
  rw [if_neg c1, if_neg c2, if_neg c3, if_neg c4, if_neg c5, if_neg c6]; rfl
theorem kx_tellLine0 (ty : kTY σ) (w : KWd σ0 B σ ws nm ks) (x2 x3 x4 : Int32) : kjY kPP (kQQ Y) (d + 7) 246 0 (mjL0 7 [.ref 75, .null, .int x2, .int x3, .int x4]) [] σ (wP σ0 B σ ws nm ks) := by
  obtain ⟨b, hb, eb⟩ := w.2.2.2.2.2.2.1
  have kb := ob_k ty (ANn_b b (ANb_n b hb)).1
  have go : ∀ x : Int32, kjY kPP (kQQ Y) (d + 7) 246 11 [some (.ref 75), some .null, some (.int x2), some (.int x3), some (.int x4), none, none] [.int x, .ref b] σ (wP σ0 B σ ws nm ks) := by
    intro x
    refine kjZ_y rfl rfl 1 _ _ _ _ ty ?_
    refine (And.intro (Nat.le_of_ble_eq_true rfl) (And.intro (Or.inl ⟨(Nat.le_of_ble_eq_true rfl), (by assumption)⟩) (And.intro (Nat.le_of_ble_eq_true rfl) (And.intro (Nat.le_of_ble_eq_true rfl) (kjY_mono ty (fun q_ u1 ty1 xu1 h_ => ?_) (kx_rowHead ty w hb _))))))
    obtain ⟨rfl, w1, s1⟩ := h_
    intro _ _
    refine kjZ_y rfl rfl 2 _ _ _ _ ty1 ?_
    refine (And.intro (Nat.le_of_ble_eq_true rfl) ?_)
    refine kjZ_y rfl rfl 3 _ _ _ _ ty1 ?_
    refine And.intro (fun c => ?_) (fun c => ?_)
    · refine kjZ_y rfl rfl 1 _ _ _ _ ty1 ?_
      refine And.intro rfl (And.intro rfl ?_)
      exact ⟨rfl, w1, s1⟩
    · refine kjZ_y rfl rfl 3 _ _ _ _ ty1 ?_
      refine And.intro rfl (And.intro rfl ?_)
      exact ⟨rfl, w1, s1⟩
  refine kjZ_y rfl rfl 6 _ _ _ _ ty ?_
  refine (And.intro (ty.k (by decide) rfl) (And.intro (ty.k (by decide) rfl) (Exists.intro _ (And.intro eb (And.intro (ty.k (by decide) rfl) (And.intro (fun c => ?_) (fun c => ?_)))))))
  · refine kjZ_y rfl rfl 1 _ _ _ _ ty ?_
    exact go _
  · refine kjZ_y rfl rfl 4 _ _ _ _ ty ?_
    exact go _
theorem k_tline_l {P Q : List KC} {x : KC} (hs : ¬ x.2.2.2.2.2.2.1 = 0) {n : Nat} (hn : n < 2 ^ 30) (x2 x3 x4 : Int32) (e3 : x3 = nI n) :
    ∀ (f i : Nat) (x5 : Int32) (o6 : Option Value) (u : kS), i + f = n → x5 = nI i → kTY u → KWd σ0 B u ws nm (P ++ x :: Q) → SCl scA σ u →
    kjY kPP (kQQ Y) (d + 7) 246 14 [some (.ref 75), some (.ref x.1), some (.int x2), some (.int x3), some (.int x4), some (.int x5), o6] [] u (wP σ0 B σ ws nm (P ++ x :: Q)) := by
  intro f
  induction f with
  | zero =>
    intro i x5 o6 u hi e5 tu wu su
    have kv := (wu.sz hs).2.2
    refine kjZ_y rfl rfl 3 _ _ _ _ tu ?_
    refine And.intro (fun c => ?_) (fun c => ?_)
    rotate_left
    · refine absurd (show x3 ≤ x5 from ?_) c
      rw [e3, e5, nle (by omega) (by omega)]; omega
    refine kjZ_y rfl rfl 1 _ _ _ _ tu ?_
    refine And.intro rfl (And.intro rfl ?_)
    exact ⟨rfl, wu, su⟩
  | succ f ih =>
    intro i x5 o6 u hi e5 tu wu su
    have kv := (wu.sz hs).2.2
    refine kjZ_y rfl rfl 3 _ _ _ _ tu ?_
    refine And.intro (fun c => ?_) (fun c => ?_)
    · refine absurd (show x3 ≤ x5 from c) ?_
      rw [e3, e5, nle (by omega) (by omega)]; omega
    have s28 : ∀ y : Int32, kjY kPP (kQQ Y) (d + 7) 246 28 [some (.ref 75), some (.ref x.1), some (.int x2), some (.int x3), some (.int x4), some (.int x5), o6] [.int y] u (wP σ0 B σ ws nm (P ++ x :: Q)) := by
      intro y
      obtain ⟨b, hb, eb⟩ := wu.2.2.2.2.2.2.1
      have kb := ob_k tu (ANn_b b (ANb_n b hb)).1
      refine kjZ_y rfl rfl 6 _ _ _ _ tu ?_
      refine (And.intro (Nat.le_of_ble_eq_true rfl) (And.intro (tu.k (by decide) rfl) (And.intro (Nat.le_of_ble_eq_true rfl) (And.intro (Or.inl ⟨(Nat.le_of_ble_eq_true rfl), (by assumption)⟩) (And.intro (Nat.le_of_ble_eq_true rfl) (And.intro (Nat.le_of_ble_eq_true rfl) (kjY_mono tu (fun q_ u1 ty1 xu1 h_ => ?_) (kx_voS tu wu _))))))))
      obtain ⟨rfl, yo, rfl⟩ := h_
      intro _ _
      refine kjZ_y rfl rfl 4 _ _ _ _ ty1 ?_
      refine (And.intro (ty1.k (by decide) rfl) (And.intro (ty1.k (by decide) rfl) (Exists.intro _ (And.intro eb (And.intro (Nat.le_of_ble_eq_true rfl) (And.intro (Or.inl ⟨(Nat.le_of_ble_eq_true rfl), (ty1.k (by decide) rfl)⟩) (And.intro (Nat.le_of_ble_eq_true rfl) (And.intro (Nat.le_of_ble_eq_true rfl) (kjY_mono ty1 (fun q_ u2 ty2 xu2 h_ => ?_) (kx_copyWord ty1 wu hb _))))))))))
      obtain ⟨rfl, w2, s2⟩ := h_
      intro _ _
      have kv2 := (w2.sz hs).2.2
      have nx : ∀ u, kTY u → KWd σ0 B u ws nm (P ++ x :: Q) → SCl scA σ u → kjY kPP (kQQ Y) (d + 7) 246 48 [some (.ref 75), some (.ref x.1), some (.int x2), some (.int x3), some (.int x4), some (.int x5), some (.int y)] [] u (wP σ0 B σ ws nm (P ++ x :: Q)) := by
        intro u tu wu su
        have kv := (wu.sz hs).2.2
        refine kjZ_y rfl rfl 2 _ _ _ _ tu ?_
        exact ih (i + 1) _ _ u (by omega) (by rw [e5]; exact nI_1 i) tu wu su
      refine kjZ_y rfl rfl 3 _ _ _ _ ty2 ?_
      refine (And.intro (ty2.k (by decide) rfl) (And.intro (fun c2 => ?_) (fun c2 => ?_)))
      · exact nx u2 ty2 w2 (su.tr s2)
      obtain ⟨b', hb', eb'⟩ := w2.2.2.2.2.2.2.1
      have kb' := ob_k ty2 (ANn_b b' (ANb_n b' hb')).1
      obtain ⟨fr, vs, k9, n9, e9, t9, cs9, hR, -, a1, -⟩ := w2.op_
      refine kjZ_y rfl rfl 6 _ _ _ _ ty2 ?_
      refine (And.intro (ty2.k (by decide) rfl) (And.intro (ty2.k (by decide) rfl) (Exists.intro _ (And.intro eb' (And.intro (Nat.le_of_ble_eq_true rfl) (And.intro (Or.inl ⟨(Nat.le_of_ble_eq_true rfl), (by assumption)⟩) (And.intro (Nat.le_of_ble_eq_true rfl) (And.intro (Nat.le_of_ble_eq_true rfl) (kjY_mono ty2 (fun q_ u3 ty3 xu3 h_ => ?_) (k_vls ty2 hR a1 _))))))))))
      obtain ⟨rfl, ys, rfl, -⟩ := h_
      intro _ _
      refine kjZ_y rfl rfl 1 _ _ _ _ ty3 ?_
      refine (And.intro (Nat.le_of_ble_eq_true rfl) (And.intro (Or.inl ⟨(Nat.le_of_ble_eq_true rfl), (by assumption)⟩) (And.intro (Nat.le_of_ble_eq_true rfl) (And.intro (Nat.le_of_ble_eq_true rfl) (kjY_mono ty3 (fun q_ u4 ty4 xu4 h_ => ?_) (kx_numberWord ty3 w2 hb' _))))))
      obtain ⟨rfl, w4, s4⟩ := h_
      intro _ _
      exact nx u4 ty4 w4 ((su.tr s2).tr s4)
    refine kjZ_y rfl rfl 2 _ _ _ _ tu ?_
    refine kjZ_y rfl rfl 2 _ _ _ _ tu ?_
    refine And.intro (fun c2 => ?_) (fun c2 => ?_)
    · refine kjZ_y rfl rfl 3 _ _ _ _ tu ?_
      exact s28 _
    · refine kjZ_y rfl rfl 4 _ _ _ _ tu ?_
      exact s28 _
theorem kx_tellLine (ty : kTY σ) {P Q : List KC} {x : KC} (w : KWd σ0 B σ ws nm (P ++ x :: Q)) (hs : ¬ x.2.2.2.2.2.2.1 = 0) {n : Nat} (hn : n < 2 ^ 30) (x2 x3 x4 : Int32) (e3 : x3 = nI n) : kjY kPP (kQQ Y) (d + 7) 246 0 (mjL0 7 [.ref 75, .ref x.1, .int x2, .int x3, .int x4]) [] σ (wP σ0 B σ ws nm (P ++ x :: Q)) := by
  obtain ⟨b, hb, eb⟩ := w.2.2.2.2.2.2.1
  have kb := ob_k ty (ANn_b b (ANb_n b hb)).1
  have kv := (w.sz hs).2.2
  have go : ∀ y : Int32, kjY kPP (kQQ Y) (d + 7) 246 11 [some (.ref 75), some (.ref x.1), some (.int x2), some (.int x3), some (.int x4), none, none] [.int y, .ref b] σ (wP σ0 B σ ws nm (P ++ x :: Q)) := by
    intro y
    refine kjZ_y rfl rfl 1 _ _ _ _ ty ?_
    refine (And.intro (Nat.le_of_ble_eq_true rfl) (And.intro (Or.inl ⟨(Nat.le_of_ble_eq_true rfl), (by assumption)⟩) (And.intro (Nat.le_of_ble_eq_true rfl) (And.intro (Nat.le_of_ble_eq_true rfl) (kjY_mono ty (fun q_ u1 ty1 xu1 h_ => ?_) (kx_rowHead ty w hb _))))))
    obtain ⟨rfl, w1, s1⟩ := h_
    intro _ _
    have kv1 := (w1.sz hs).2.2
    refine kjZ_y rfl rfl 2 _ _ _ _ ty1 ?_
    refine (And.intro (Nat.le_of_ble_eq_true rfl) ?_)
    exact k_tline_l hs hn x2 x3 x4 e3 n 0 _ _ u1 (Nat.zero_add _) rfl ty1 w1 s1
  refine kjZ_y rfl rfl 6 _ _ _ _ ty ?_
  refine (And.intro (ty.k (by decide) rfl) (And.intro (ty.k (by decide) rfl) (Exists.intro _ (And.intro eb (And.intro (ty.k (by decide) rfl) (And.intro (fun c => ?_) (fun c => ?_)))))))
  · refine kjZ_y rfl rfl 1 _ _ _ _ ty ?_
    exact go _
  · refine kjZ_y rfl rfl 4 _ _ _ _ ty ?_
    exact go _
end KOFLAG
