/-! Orders: a stretch of the line goes. -/
theorem cutL_cut {α : Type} (q : List α) (a f : Nat) (h : a ≤ q.length) : cutL (cutL q a 1) a f = cutL q a (f + 1) := by
  unfold cutL
  have e : (q.take a).length = a := by rw [List.length_take]; omega
  rw [List.take_append_of_le_length (by omega), List.take_of_length_le (Nat.le_of_eq e)]
  congr 1
  rw [List.drop_append, List.drop_eq_nil_of_le (by omega), List.nil_append, e, List.drop_drop]
  congr 1; omega
theorem ZP_inj {es : List AE} (h : ZP es) {i j : Nat} {a b : AE} (hi : es[i]? = some a) (hj : es[j]? = some b) (e : a.1 = b.1) : i = j := by
  obtain ⟨h1, g1⟩ := List.getElem?_eq_some_iff.mp hi
  obtain ⟨h2, g2⟩ := List.getElem?_eq_some_iff.mp hj
  rcases Nat.lt_trichotomy i j with k | k | k
  · have := (List.pairwise_iff_getElem.mp h i j h1 h2 k).2
    rw [g1, g2, e, cmpW_self] at this; exact absurd rfl this
  · exact k
  · have := (List.pairwise_iff_getElem.mp h j i h2 h1 k).2
    rw [g1, g2, e, cmpW_self] at this; exact absurd rfl this
section KORL
variable {Y : Nat → MethodName × ByteArray} {d : Nat} {σ0 σ u : kS} {B ws nm nm' : List (List Int32)} {ks : List KC}
theorem k_rline_l (K : kK) {P Q : List KC} {a b : Nat} (hb : b < 2 ^ 30) (x1 x3 x4 : Int32) (e3 : x3 = nI a) (e4 : x4 = nI b) (v0 : Nat) (y0 : KC)
    (hK : ∀ u x5, kTY u → KWd σ0 B u ws nm (P ++ y0 :: Q) → SCl scA σ u → kjY kPP (kQQ Y) (d + 4) 254 23 [some (.ref 75), some (.int x1), some (.ref v0), some (.int x3), some (.int x4), some (.int x5)] [] u K) :
    ∀ (f i : Nat) (x5 : Int32) (x : KC) (u : kS), i + f = b → x5 = nI i → kTY u → KWd σ0 B u ws nm (P ++ x :: Q) → SCl scA σ u → x.2.2.2.2.2.2.1 = 4 → wkO x → ZP x.2.2.2.2.2.2.2.2.2.2 → x.1 = v0 → a + f ≤ x.2.2.2.2.2.2.2.2.2.2.length → mkK x (esF (fun es => cutL es a f) x.2.2.2.2.2) = y0 →
    kjY kPP (kQQ Y) (d + 4) 254 8 [some (.ref 75), some (.int x1), some (.ref v0), some (.int x3), some (.int x4), some (.int x5)] [] u K := by
  intro f
  induction f with
  | zero =>
    intro i x5 x u hi e5 tu wu su hso hwk hZ hx hl hy
    have kv := (wu.sz (by rw [hso]; decide)).2.2
    rw [hx] at kv
    refine kjZ_y rfl rfl 3 _ _ _ _ tu ?_
    refine And.intro (fun c => ?_) (fun c => ?_)
    rotate_left
    · refine absurd (show x4 ≤ x5 from ?_) c
      rw [e4, e5, nle (by omega) (by omega)]; omega
    refine hK u x5 tu ?_ su
    rw [← hy]
    have : mkK x (esF (fun es => cutL es a 0) x.2.2.2.2.2) = x := by
      show mkK x (_, _, _, _, _, cutL _ _ _) = _
      rw [cutL_0]; exact mkK_self hwk
    rw [this]; exact wu
  | succ f ih =>
    intro i x5 x u hi e5 tu wu su hso hwk hZ hx hl hy
    have kv := (wu.sz (by rw [hso]; decide)).2.2
    subst hx
    obtain ⟨fr, vs, e0, q0, q1, q2, q3, fs, hR, hV, a1, -, ⟨c1, -⟩, -, -, hn6, -⟩ := wu.o4 hso
    have hal : a < x.2.2.2.2.2.2.2.2.2.2.length := by omega
    have hz := List.getElem?_eq_getElem hal
    generalize x.2.2.2.2.2.2.2.2.2.2[a] = z at hz
    obtain ⟨km, g1, g2⟩ := c1.2 a z.1 (by rw [List.getElem?_map, hz]; rfl)
    refine kjZ_y rfl rfl 3 _ _ _ _ tu ?_
    refine And.intro (fun c => ?_) (fun c => ?_)
    · refine absurd (show x4 ≤ x5 from c) ?_
      rw [e4, e5, nle (by omega) (by omega)]; omega
    refine kjZ_y rfl rfl 8 _ _ _ _ tu ?_
    refine (And.intro (tu.k (by decide) rfl) (And.intro (Nat.le_of_ble_eq_true rfl) (And.intro (Or.inl ⟨(Nat.le_of_ble_eq_true rfl), (by assumption)⟩) (And.intro (Nat.le_of_ble_eq_true rfl) (And.intro (Nat.le_of_ble_eq_true rfl) (kjY_mono tu (fun q_ u1 ty1 xu1 h_ => ?_) (k_voth tu hR a1 x3)))))))
    obtain ⟨rfl, yo, rfl, qo⟩ := h_
    intro _ _
    have eyo : yo = nI km := by rw [qo a q1 _ e3 hal (show ¬ (4 : Nat) = 0 by decide) rfl g1]; exact i64_32 km
    refine kjZ_y rfl rfl 1 _ _ _ _ ty1 ?_
    refine (And.intro (Nat.le_of_ble_eq_true rfl) (And.intro (Or.inl ⟨(Nat.le_of_ble_eq_true rfl), (ty1.k (by decide) rfl)⟩) (And.intro (Nat.le_of_ble_eq_true rfl) (And.intro (Nat.le_of_ble_eq_true rfl) (kjY_mono ty1 (fun q_ u2 ty2 xu2 h_ => ?_) (kx_plO ty1 wu hso g2 _ eyo))))))
    obtain ⟨rfl, rfl⟩ := h_
    intro _ _
    have hf : nmF z.1 x.2.2.2.2.2.2.2.2.2.2 = true := by unfold nmF; rw [List.any_eq_true]; exact ⟨z, List.mem_of_getElem? hz, decide_eq_true rfl⟩
    rw [if_pos hf]
    obtain ⟨x6, e6⟩ : ∃ x6, x6 = nI (nmC z.1 x.2.2.2.2.2.2.2.2.2.2) := ⟨_, rfl⟩
    rw [← e6]
    refine kjZ_y rfl rfl 1 _ _ _ _ ty2 ?_
    refine (And.intro (Nat.le_of_ble_eq_true rfl) (And.intro (Or.inl ⟨(Nat.le_of_ble_eq_true rfl), (ty2.k (by decide) rfl)⟩) (And.intro (Nat.le_of_ble_eq_true rfl) (And.intro (Nat.le_of_ble_eq_true rfl) (kjY_mono ty2 (fun q_ u3 ty3 xu3 h_ => ?_) (kx_orem ty2 wu hso hwk hZ g2 hf _ e6))))))
    obtain ⟨rfl, jj, t, ht1, ht2, w3, s3⟩ := h_
    intro _ _
    have ej : jj = a := ZP_inj hZ ht1 hz ht2
    subst ej
    have kv3 : (u3.2.2.2.1 x.1).1 = 11 := xu3.k ty2 kv (by decide)
    refine kjZ_y rfl rfl 2 _ _ _ _ ty3 ?_
    refine ih (i + 1) _ (mkK x (esF (fun es => cutL es jj 1) x.2.2.2.2.2)) u3 (by omega) (by rw [e5]; exact nI_1 i) ty3 w3 (su.tr s3) hso (wkO_mk _ _) (ZP_cut hZ _ _) rfl ?_ ?_
    · show jj + f ≤ (cutL x.2.2.2.2.2.2.2.2.2.2 jj 1).length
      rw [cutL_len (by omega)]; omega
    · rw [← hy]
      show mkK x (_, _, _, _, _, cutL (cutL _ _ _) _ _) = mkK x (_, _, _, _, _, cutL _ _ _)
      rw [cutL_cut _ _ _ (by omega)]; rfl
end KORL
