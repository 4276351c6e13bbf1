/-! SET, its end. -/
section KSET96
variable {Y : Nat → MethodName × ByteArray} {d : Nat} {σ0 σ u : kS} {B ws nm nm' : List (List Int32)} {ks : List KC}
theorem kx_set960 (ty : kTY σ) (w : KWd σ0 B σ ws nm ks) (hr : RSD ks) (hB : BOK B ws) {v a : List Int32} (hv : ws[1]? = some v) (ha : ws[2]? = some a) (hal : a.length ≤ 16384) (hk1 : (ks).length + 1 ≤ 2600) (hcap : xtA (skA (ks)) + 16384 ≤ 98304) {f : F4} {o : Option (Nat × List Int32)} (hO : OSI σ ws f o) (x1 x2 x4 : Int32) (hx4 : x4 = 0 ∨ x4 = 1) :
    kjY kPP (kQQ Y) (d + 8) 172 96 [some (.ref 67), some (.int x1), some (.int x2), some .null, none, none] [.int x4] σ (fun r u => (x4 = 0 ∧ cdN σ0 B σ ws nm ks r u) ∨ (x4 = 1 ∧ puP σ0 B σ ws nm ks v a (nI 2) f.2.2.2 (σ.2.1 53 16) r u)) := by
  obtain ⟨o1, o2, o3⟩ := hO
  have s114 : ∀ z, kTY z → KWd σ0 B z ws nm ks → SCl scA σ z → kjY kPP (kQQ Y) (d + 8) 172 114 [some (.ref 67), some (.int x1), some (.int x2), some .null, some (.int x4), none] [] z (fun r u => (x4 = 0 ∧ cdN σ0 B σ ws nm ks r u) ∨ (x4 = 1 ∧ puP σ0 B σ ws nm ks v a (nI 2) f.2.2.2 (σ.2.1 53 16) r u)) := by
    intro z tz wz sz
    refine kjZ_y rfl rfl 2 _ _ _ _ tz ?_
    refine And.intro (fun c => ?_) (fun c => ?_)
    · refine kjZ_y rfl rfl 1 _ _ _ _ tz ?_
      refine And.intro rfl (And.intro rfl ?_)
      exact Or.inl ⟨c, cd_N PRE.rf wz (sz.sub scUA)⟩
    have hx1 : x4 = 1 := hx4.elim (fun y => absurd y c) id
    have s136 : ∀ (x5 : Int32) (t : Int64), x5 = f.2.2.2 → (x5 = 0 ∨ x5 = 1) → t = (σ.2.1 53 16) → kjY kPP (kQQ Y) (d + 8) 172 136 [some (.ref 67), some (.int x1), some (.int x2), some .null, some (.int x4), some (.int x5)] [.long t, .int (Int32.ofInt 2), .ref 67] z (fun r u => (x4 = 0 ∧ cdN σ0 B σ ws nm ks r u) ∨ (x4 = 1 ∧ puP σ0 B σ ws nm ks v a (nI 2) f.2.2.2 (σ.2.1 53 16) r u)) := by
      intro x5 t e5 h5 et
      refine kjZ_y rfl rfl 2 _ _ _ _ tz ?_
      refine (And.intro (Nat.le_of_ble_eq_true rfl) (And.intro (Or.inl ⟨(Nat.le_of_ble_eq_true rfl), (tz.k (by decide) rfl)⟩) (And.intro (Nat.le_of_ble_eq_true rfl) (And.intro (Nat.le_of_ble_eq_true rfl) (kjY_mono tz (fun q_ u5 ty5 xu5 h_ => ?_) (kx_put tz wz hr hB hv ha hal hk1 hcap t (nI 2) x5 rfl h5))))))
      have q5 := h_
      intro _ _
      obtain ⟨rfl, nm9, ks9, w9, h9⟩ := q5.nx
      refine kjZ_y rfl rfl 1 _ _ _ _ ty5 ?_
      refine And.intro rfl (And.intro rfl ?_)
      rw [e5, et] at h9
      exact Or.inr ⟨hx1, (h9 u5 w9 SCl.rf).tr sz.q PRE.rf⟩
    have s123 : ∀ x5 : Int32, x5 = f.2.2.2 → (x5 = 0 ∨ x5 = 1) → kjY kPP (kQQ Y) (d + 8) 172 123 [some (.ref 67), some (.int x1), some (.int x2), some .null, some (.int x4), none] [.int x5] z (fun r u => (x4 = 0 ∧ cdN σ0 B σ ws nm ks r u) ∨ (x4 = 1 ∧ puP σ0 B σ ws nm ks v a (nI 2) f.2.2.2 (σ.2.1 53 16) r u)) := by
      intro x5 e5 h5
      have et := (sz (53, 16) (by decide)).2.1
      refine kjZ_y rfl rfl 5 _ _ _ _ tz ?_
      refine (And.intro (Nat.le_of_ble_eq_true rfl) (And.intro (fun c2 => ?_) (fun c2 => ?_)))
      · have c2 : x5 = 0 := c2
        refine kjZ_y rfl rfl 3 _ _ _ _ tz ?_
        refine (And.intro (tz.k (by decide) rfl) (And.intro (tz.k (by decide) rfl) ?_))
        refine s136 x5 (z.2.1 53 16) e5 h5 ?_
        exact et
      · have c2 : ¬ x5 = 0 := c2
        have h51 : x5 = 1 := h5.elim (fun y => absurd y c2) id
        refine kjZ_y rfl rfl 5 _ _ _ _ tz ?_
        refine (And.intro (tz.k (by decide) rfl) (And.intro (tz.k (by decide) rfl) ?_))
        exact s136 x5 (z.2.1 53 16) e5 h5 et
    refine kjZ_y rfl rfl 4 _ _ _ _ tz ?_
    refine (And.intro (tz.k (by decide) rfl) (And.intro (fun c2 => ?_) (fun c2 => ?_)))
    · have c2 : ¬ z.1 67 5 = nI 1 := c2
      rw [(sz (67, 5) (by decide)).1] at c2
      refine kjZ_y rfl rfl 1 _ _ _ _ tz ?_
      refine s123 _ ?_ (Or.inl rfl)
      rcases o3 with h | h | h
      · rw [h.1]; rfl
      · exact absurd h.2.2.1 c2
      · rw [h.1]; rfl
    · have c2 : z.1 67 5 = nI 1 := Decidable.of_not_not (fun y => c2 y)
      rw [(sz (67, 5) (by decide)).1] at c2
      refine kjZ_y rfl rfl 2 _ _ _ _ tz ?_
      refine s123 _ ?_ (Or.inr rfl)
      rcases o3 with h | h | h
      · rw [h.2.2.1] at c2; exact absurd c2 (by decide)
      · rw [h.1]; rfl
      · obtain ⟨-, m, t, k, -, h1, h2, -⟩ := h
        rw [h2] at c2
        exact absurd ((nI_eq (by omega) (by decide)).mp c2) (by omega)
  refine kjZ_y rfl rfl 4 _ _ _ _ ty ?_
  refine (And.intro (Nat.le_of_ble_eq_true rfl) (And.intro (ty.k (by decide) rfl) (And.intro (fun c => ?_) (fun c => ?_))))
  · refine kjZ_y rfl rfl 2 _ _ _ _ ty ?_
    refine And.intro (fun c2 => ?_) (fun c2 => ?_)
    · obtain ⟨b, hb, eb⟩ := w.2.2.2.2.2.2.1
      have kb := ob_k ty (ANn_b b (ANb_n b hb)).1
      refine kjZ_y rfl rfl 4 _ _ _ _ ty ?_
      refine (And.intro (ty.k (by decide) rfl) (And.intro (ty.k (by decide) rfl) (Exists.intro _ (And.intro eb (And.intro (Nat.le_of_ble_eq_true rfl) (And.intro (Or.inl ⟨(Nat.le_of_ble_eq_true rfl), (by assumption)⟩) (And.intro (Nat.le_of_ble_eq_true rfl) (And.intro (Nat.le_of_ble_eq_true rfl) (kjY_mono ty (fun q_ u1 ty1 xu1 h_ => ?_) (kx_nil ty w hb))))))))))
      obtain ⟨rfl, w1, s1⟩ := h_
      intro _ _
      exact s114 u1 ty1 w1 s1
    · refine kjZ_y rfl rfl 3 _ _ _ _ ty ?_
      refine (And.intro (ty.k (by decide) rfl) (And.intro (Nat.le_of_ble_eq_true rfl) (And.intro (Or.inl ⟨(Nat.le_of_ble_eq_true rfl), (ty.k (by decide) rfl)⟩) (And.intro (Nat.le_of_ble_eq_true rfl) (And.intro (Nat.le_of_ble_eq_true rfl) (kjY_mono ty (fun q_ u1 ty1 xu1 h_ => ?_) (kx_accept ty w)))))))
      obtain ⟨rfl, w1, s1⟩ := h_
      intro _ _
      refine kjZ_y rfl rfl 1 _ _ _ _ ty1 ?_
      exact s114 u1 ty1 w1 s1
  · refine kjZ_y rfl rfl 3 _ _ _ _ ty ?_
    refine (And.intro (Nat.le_of_ble_eq_true rfl) (And.intro (Or.inl ⟨(Nat.le_of_ble_eq_true rfl), (ty.k (by decide) rfl)⟩) (And.intro (Nat.le_of_ble_eq_true rfl) (And.intro (Nat.le_of_ble_eq_true rfl) (kjY_mono ty (fun q_ u1 ty1 xu1 h_ => ?_) (kx_tell0 ty w))))))
    obtain ⟨rfl, w1, s1⟩ := h_
    intro _ _
    refine kjZ_y rfl rfl 1 _ _ _ _ ty1 ?_
    exact s114 u1 ty1 w1 s1
theorem kx_set96 (ty : kTY σ) {P Q : List KC} {y : KC} (w : KWd σ0 B σ ws nm (P ++ y :: Q)) (hr : RSD (P ++ y :: Q)) (hB : BOK B ws) {v a : List Int32} (hv : ws[1]? = some v) (ha : ws[2]? = some a) (hal : a.length ≤ 16384) (hk1 : ((P ++ y :: Q)).length + 1 ≤ 2600) (hcap : xtA (skA ((P ++ y :: Q))) + 16384 ≤ 98304) {f : F4} {o : Option (Nat × List Int32)} (hO : OSI σ ws f o) (x1 x2 x4 : Int32) (hx4 : x4 = 0 ∨ x4 = 1) :
    kjY kPP (kQQ Y) (d + 8) 172 96 [some (.ref 67), some (.int x1), some (.int x2), some (.ref y.1), none, none] [.int x4] σ (fun r u => (x4 = 0 ∧ cdN σ0 B σ ws nm (P ++ y :: Q) r u) ∨ (x4 = 1 ∧ puP σ0 B σ ws nm (P ++ y :: Q) v a (nI 2) f.2.2.2 (if f.2.2.2 = 1 then endE y.2.2.2.2.2 else σ.2.1 53 16) r u)) := by
  obtain ⟨o1, o2, o3⟩ := hO
  have kv : (σ.2.2.2.1 y.1).1 = 11 := by
    obtain ⟨k2, -, -, hd, -⟩ := w.val rfl
    rw [hd]
  have s114 : ∀ z, kTY z → KWd σ0 B z ws nm (P ++ y :: Q) → SCl scA σ z → kjY kPP (kQQ Y) (d + 8) 172 114 [some (.ref 67), some (.int x1), some (.int x2), some (.ref y.1), some (.int x4), none] [] z (fun r u => (x4 = 0 ∧ cdN σ0 B σ ws nm (P ++ y :: Q) r u) ∨ (x4 = 1 ∧ puP σ0 B σ ws nm (P ++ y :: Q) v a (nI 2) f.2.2.2 (if f.2.2.2 = 1 then endE y.2.2.2.2.2 else σ.2.1 53 16) r u)) := by
    intro z tz wz sz
    have kvz : (z.2.2.2.1 y.1).1 = 11 := by
      obtain ⟨k2, -, -, hd, -⟩ := wz.val rfl
      rw [hd]
    refine kjZ_y rfl rfl 2 _ _ _ _ tz ?_
    refine And.intro (fun c => ?_) (fun c => ?_)
    · refine kjZ_y rfl rfl 1 _ _ _ _ tz ?_
      refine And.intro rfl (And.intro rfl ?_)
      exact Or.inl ⟨c, cd_N PRE.rf wz (sz.sub scUA)⟩
    have hx1 : x4 = 1 := hx4.elim (fun y => absurd y c) id
    have s136 : ∀ (x5 : Int32) (t : Int64), x5 = f.2.2.2 → (x5 = 0 ∨ x5 = 1) → t = (if f.2.2.2 = 1 then endE y.2.2.2.2.2 else σ.2.1 53 16) → kjY kPP (kQQ Y) (d + 8) 172 136 [some (.ref 67), some (.int x1), some (.int x2), some (.ref y.1), some (.int x4), some (.int x5)] [.long t, .int (Int32.ofInt 2), .ref 67] z (fun r u => (x4 = 0 ∧ cdN σ0 B σ ws nm (P ++ y :: Q) r u) ∨ (x4 = 1 ∧ puP σ0 B σ ws nm (P ++ y :: Q) v a (nI 2) f.2.2.2 (if f.2.2.2 = 1 then endE y.2.2.2.2.2 else σ.2.1 53 16) r u)) := by
      intro x5 t e5 h5 et
      refine kjZ_y rfl rfl 2 _ _ _ _ tz ?_
      refine (And.intro (Nat.le_of_ble_eq_true rfl) (And.intro (Or.inl ⟨(Nat.le_of_ble_eq_true rfl), (tz.k (by decide) rfl)⟩) (And.intro (Nat.le_of_ble_eq_true rfl) (And.intro (Nat.le_of_ble_eq_true rfl) (kjY_mono tz (fun q_ u5 ty5 xu5 h_ => ?_) (kx_put tz wz hr hB hv ha hal hk1 hcap t (nI 2) x5 rfl h5))))))
      have q5 := h_
      intro _ _
      obtain ⟨rfl, nm9, ks9, w9, h9⟩ := q5.nx
      refine kjZ_y rfl rfl 1 _ _ _ _ ty5 ?_
      refine And.intro rfl (And.intro rfl ?_)
      rw [e5, et] at h9
      exact Or.inr ⟨hx1, (h9 u5 w9 SCl.rf).tr sz.q PRE.rf⟩
    have s123 : ∀ x5 : Int32, x5 = f.2.2.2 → (x5 = 0 ∨ x5 = 1) → kjY kPP (kQQ Y) (d + 8) 172 123 [some (.ref 67), some (.int x1), some (.int x2), some (.ref y.1), some (.int x4), none] [.int x5] z (fun r u => (x4 = 0 ∧ cdN σ0 B σ ws nm (P ++ y :: Q) r u) ∨ (x4 = 1 ∧ puP σ0 B σ ws nm (P ++ y :: Q) v a (nI 2) f.2.2.2 (if f.2.2.2 = 1 then endE y.2.2.2.2.2 else σ.2.1 53 16) r u)) := by
      intro x5 e5 h5
      have et := (sz (53, 16) (by decide)).2.1
      refine kjZ_y rfl rfl 5 _ _ _ _ tz ?_
      refine (And.intro (Nat.le_of_ble_eq_true rfl) (And.intro (fun c2 => ?_) (fun c2 => ?_)))
      · have c2 : x5 = 0 := c2
        refine kjZ_y rfl rfl 3 _ _ _ _ tz ?_
        refine (And.intro (tz.k (by decide) rfl) (And.intro (tz.k (by decide) rfl) ?_))
        refine s136 x5 (z.2.1 53 16) e5 h5 ?_
        rw [if_neg (by rw [← e5, c2]; decide)]; exact et
      · have c2 : ¬ x5 = 0 := c2
        have h51 : x5 = 1 := h5.elim (fun y => absurd y c2) id
        refine kjZ_y rfl rfl 5 _ _ _ _ tz ?_
        refine (And.intro (by assumption) ?_)
        exact s136 x5 (z.2.1 y.1 3) e5 h5 (by rw [if_pos (by rw [← e5, h51]), wz.en])
    refine kjZ_y rfl rfl 4 _ _ _ _ tz ?_
    refine (And.intro (tz.k (by decide) rfl) (And.intro (fun c2 => ?_) (fun c2 => ?_)))
    · have c2 : ¬ z.1 67 5 = nI 1 := c2
      rw [(sz (67, 5) (by decide)).1] at c2
      refine kjZ_y rfl rfl 1 _ _ _ _ tz ?_
      refine s123 _ ?_ (Or.inl rfl)
      rcases o3 with h | h | h
      · rw [h.1]; rfl
      · exact absurd h.2.2.1 c2
      · rw [h.1]; rfl
    · have c2 : z.1 67 5 = nI 1 := Decidable.of_not_not (fun y => c2 y)
      rw [(sz (67, 5) (by decide)).1] at c2
      refine kjZ_y rfl rfl 2 _ _ _ _ tz ?_
      refine s123 _ ?_ (Or.inr rfl)
      rcases o3 with h | h | h
      · rw [h.2.2.1] at c2; exact absurd c2 (by decide)
      · rw [h.1]; rfl
      · obtain ⟨-, m, t, k, -, h1, h2, -⟩ := h
        rw [h2] at c2
        exact absurd ((nI_eq (by omega) (by decide)).mp c2) (by omega)
  refine kjZ_y rfl rfl 4 _ _ _ _ ty ?_
  refine (And.intro (Nat.le_of_ble_eq_true rfl) (And.intro (ty.k (by decide) rfl) (And.intro (fun c => ?_) (fun c => ?_))))
  · refine kjZ_y rfl rfl 2 _ _ _ _ ty ?_
    refine And.intro (fun c2 => ?_) (fun c2 => ?_)
    · obtain ⟨b, hb, eb⟩ := w.2.2.2.2.2.2.1
      have kb := ob_k ty (ANn_b b (ANb_n b hb)).1
      refine kjZ_y rfl rfl 4 _ _ _ _ ty ?_
      refine (And.intro (ty.k (by decide) rfl) (And.intro (ty.k (by decide) rfl) (Exists.intro _ (And.intro eb (And.intro (Nat.le_of_ble_eq_true rfl) (And.intro (Or.inl ⟨(Nat.le_of_ble_eq_true rfl), (by assumption)⟩) (And.intro (Nat.le_of_ble_eq_true rfl) (And.intro (Nat.le_of_ble_eq_true rfl) (kjY_mono ty (fun q_ u1 ty1 xu1 h_ => ?_) (kx_nil ty w hb))))))))))
      obtain ⟨rfl, w1, s1⟩ := h_
      intro _ _
      exact s114 u1 ty1 w1 s1
    · refine kjZ_y rfl rfl 3 _ _ _ _ ty ?_
      refine (And.intro (ty.k (by decide) rfl) (And.intro (Nat.le_of_ble_eq_true rfl) (And.intro (Or.inl ⟨(Nat.le_of_ble_eq_true rfl), (ty.k (by decide) rfl)⟩) (And.intro (Nat.le_of_ble_eq_true rfl) (And.intro (Nat.le_of_ble_eq_true rfl) (kjY_mono ty (fun q_ u1 ty1 xu1 h_ => ?_) (kx_accept ty w)))))))
      obtain ⟨rfl, w1, s1⟩ := h_
      intro _ _
      refine kjZ_y rfl rfl 1 _ _ _ _ ty1 ?_
      exact s114 u1 ty1 w1 s1
  · refine kjZ_y rfl rfl 3 _ _ _ _ ty ?_
    refine (And.intro (Nat.le_of_ble_eq_true rfl) (And.intro (Or.inl ⟨(Nat.le_of_ble_eq_true rfl), (ty.k (by decide) rfl)⟩) (And.intro (Nat.le_of_ble_eq_true rfl) (And.intro (Nat.le_of_ble_eq_true rfl) (kjY_mono ty (fun q_ u1 ty1 xu1 h_ => ?_) (kx_tell ty w))))))
    obtain ⟨rfl, w1, s1⟩ := h_
    intro _ _
    refine kjZ_y rfl rfl 1 _ _ _ _ ty1 ?_
    exact s114 u1 ty1 w1 s1
end KSET96
