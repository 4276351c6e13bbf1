/-! APPEND, SETRANGE: an arg comes over a text. -/
theorem stT_pad (m : Nat) (t : List Int32) : stT (max t.length m) t = padT t m := by
  unfold stT padT
  rw [List.take_of_length_le (by omega)]
  congr 2; omega
theorem ovwT_eq (t : List Int32) (p : Nat) (v : List Int32) : ovT p v (stT (max t.length (p + v.length)) t) = ovwT t p v := by
  rw [stT_pad]; rfl
theorem xtA_at (P Q : List KC) (x : KC) : xtA (skA (P ++ x :: Q)) = xtA (skA P) + (if x.2.2.2.2.2.2.1 = 0 then x.2.2.2.2.2.2.2.2.2.1.length else 0) + xtA (skA Q) := by
  unfold xtA; rw [skA_app, skA_cons, List.map_append, List.map_cons, List.sum_append, List.sum_cons]; omega
theorem xtA_app (P Q : List KC) : xtA (skA (P ++ Q)) = xtA (skA P) + xtA (skA Q) := by
  unfold xtA; rw [skA_app, List.map_append, List.sum_append]
section KWARG
variable {Y : Nat → MethodName × ByteArray} {d : Nat} {σ0 σ u : kS} {B ws nm nm' : List (List Int32)} {ks : List KC}
theorem KWd.tz {P Q : List KC} {y : KC} (w : KWd σ0 B σ ws nm (P ++ y :: Q)) (h : y.2.2.2.2.2.2.1 = 0) : σ.1 y.1 6 = nI y.2.2.2.2.2.2.2.2.2.1.length ∧ y.2.2.2.2.2.2.2.2.2.1.length ≤ 131072 ∧ (σ.2.2.2.1 y.1).1 = 11 := by
  obtain ⟨fr, vs, k, n, e, t, cs, -, -, -, hav, hd, -, h6, hn, -⟩ := w.op_
  have b1 : y.2.2.2.2.2.2.1 = nI k := hav.1
  have b2 : k ≤ 4 := hav.2.1
  have hk : k = 0 := (nI_eq (b := 0) (by omega) (by decide)).mp (b1.symm.trans h)
  have b5 : n = if k = 0 then y.2.2.2.2.2.2.2.2.2.1.length else y.2.2.2.2.2.2.2.2.2.2.length := hav.2.2.2.2.1
  rw [if_pos hk] at b5
  rw [← b5]; exact ⟨h6, hn, by rw [hd]⟩
theorem emB_tx {x : KC} (h : x.2.2.2.2.2.2.1 = 0) (g : List Int32 → List Int32) : ¬ emB (mkK x (txG g x.2.2.2.2.2)) := fun z => z.1 h
theorem kx_writeArg_m (ty : kTY σ) {P Q : List KC} {x : KC} (w : KWd σ0 B σ ws nm (P ++ x :: Q)) (hs : x.2.2.2.2.2.2.1 = 0) (hwk : wkO x) {k i p : Nat} {a : List Int32} (hk : nm[k]? = some x.2.2.2.2.2.1) (hr : RSD (P ++ Q)) (ha : ws[i]? = some a) (hm : x.2.2.2.2.2.2.2.2.2.1.length ≤ 16384) (hpa : p + a.length ≤ 16384) (hcap : xtA (skA (P ++ x :: Q)) + 16384 ≤ 98304) (l2 : Option Value) (x1 x3 x4 : Int32) (e1 : x1 = nI k) (e3 : x3 = nI p) (e4 : x4 = nI i) :
    kjY kPP (kQQ Y) (d + 6) 178 10 [some (.ref 67), some (.int x1), l2, some (.int x3), some (.int x4), some (.ref x.1)] [] σ (fun r z => r = none ∧ cdS σ0 B σ ws nm (skA (P ++ mkK x (txG (fun t => ovwT t p a) x.2.2.2.2.2) :: Q)) z) := by
  obtain ⟨z1, z2, kv⟩ := w.tz hs
  refine kjZ_y rfl rfl 9 _ _ _ _ ty ?_
  refine (And.intro (by assumption) (And.intro (ty.k (by decide) rfl) (And.intro (Nat.le_of_ble_eq_true rfl) (And.intro (Or.inl ⟨(Nat.le_of_ble_eq_true rfl), (ty.k (by decide) rfl)⟩) (And.intro (Nat.le_of_ble_eq_true rfl) (And.intro (Nat.le_of_ble_eq_true rfl) (kjY_mono ty (fun q_ u1 ty1 xu1 h_ => ?_) (kx_lengthOf ty w ha _ e4))))))))
  obtain ⟨rfl, rfl⟩ := h_
  intro _ _
  refine kjZ_y rfl rfl 2 _ _ _ _ ty1 ?_
  refine (And.intro (Nat.le_of_ble_eq_true rfl) (And.intro (Nat.le_of_ble_eq_true rfl) (And.intro (Nat.le_of_ble_eq_true rfl) (kjY_mono ty1 (fun q_ u2 ty2 xu2 h_ => ?_) (k_max ty1 _ _)))))
  obtain ⟨rfl, rfl⟩ := h_
  intro _ _
  have em : (if u2.1 x.1 6 < x3 + nI a.length then x3 + nI a.length else u2.1 x.1 6) = nI (max x.2.2.2.2.2.2.2.2.2.1.length (p + a.length)) := by
    rw [z1, e3, nI_add]
    by_cases c : x.2.2.2.2.2.2.2.2.2.1.length < p + a.length
    · rw [if_pos ((nlt (by omega) (by omega)).mpr c), Nat.max_eq_right (by omega)]
    · rw [if_neg (fun z => c ((nlt (by omega) (by omega)).mp z)), Nat.max_eq_left (by omega)]
  refine kjZ_y rfl rfl 1 _ _ _ _ ty2 ?_
  refine (And.intro (Nat.le_of_ble_eq_true rfl) (And.intro (Or.inl ⟨(Nat.le_of_ble_eq_true rfl), (ty2.k (by decide) rfl)⟩) (And.intro (Nat.le_of_ble_eq_true rfl) (And.intro (Nat.le_of_ble_eq_true rfl) (kjY_mono ty2 (fun q_ u3 ty3 xu3 h_ => ?_) (kx_stretch ty2 w hs (m := max x.2.2.2.2.2.2.2.2.2.1.length (p + a.length)) (Nat.max_le.mpr ⟨hm, hpa⟩) hcap _ em))))))
  obtain ⟨rfl, w3, s3⟩ := h_
  intro _ _
  have kv3 : (u3.2.2.2.1 x.1).1 = 11 := xu3.k ty2 kv (by decide)
  refine kjZ_y rfl rfl 5 _ _ _ _ ty3 ?_
  refine (And.intro (Nat.le_of_ble_eq_true rfl) (And.intro (Or.inl ⟨(Nat.le_of_ble_eq_true rfl), (ty3.k (by decide) rfl)⟩) (And.intro (Nat.le_of_ble_eq_true rfl) (And.intro (Nat.le_of_ble_eq_true rfl) (kjY_mono ty3 (fun q_ u4 ty4 xu4 h_ => ?_) (kx_overlayA (y := mkK x (txG (stT (max x.2.2.2.2.2.2.2.2.2.1.length (p + a.length))) x.2.2.2.2.2)) ty3 w3 hs (wkO_mk _ _) ha (by show p + a.length ≤ (stT _ _).length; rw [stT_len]; exact Nat.le_max_right _ _) _ _ e3 e4))))))
  obtain ⟨rfl, w4, s4⟩ := h_
  intro _ _
  have kv4 : (u4.2.2.2.1 x.1).1 = 11 := xu4.k ty3 kv3 (by decide)
  have ek : mkK (mkK x (txG (stT (max x.2.2.2.2.2.2.2.2.2.1.length (p + a.length))) x.2.2.2.2.2)) (txG (ovT p a) (mkK x (txG (stT (max x.2.2.2.2.2.2.2.2.2.1.length (p + a.length))) x.2.2.2.2.2)).2.2.2.2.2) = mkK x (txG (fun t => ovwT t p a) x.2.2.2.2.2) := by
    show mkK x (_, _, _, _, ovT p a (stT (max x.2.2.2.2.2.2.2.2.2.1.length (p + a.length)) x.2.2.2.2.2.2.2.2.2.1), _) = _
    rw [ovwT_eq]; rfl
  rw [ek] at w4
  refine kjZ_y rfl rfl 5 _ _ _ _ ty4 ?_
  refine (And.intro (ty4.k (by decide) rfl) (And.intro (Nat.le_of_ble_eq_true rfl) (And.intro (Or.inl ⟨(Nat.le_of_ble_eq_true rfl), (ty4.k (by decide) rfl)⟩) (And.intro (Nat.le_of_ble_eq_true rfl) (And.intro (Nat.le_of_ble_eq_true rfl) (kjY_mono ty4 (fun q_ u5 ty5 xu5 h_ => ?_) (kx_settle (x := mkK x (txG (fun t => ovwT t p a) x.2.2.2.2.2)) ty4 w4 (k := k) hk _ e1)))))))
  obtain ⟨q9, q9b⟩ := h_
  intro _ _
  have kv5 : (u5.2.2.2.1 x.1).1 = 11 := xu5.k ty4 kv4 (by decide)
  obtain ⟨rfl, nmA, ksA, pA, wA, rA, eA, cA, sA⟩ := cd_se (σ := u2) PRE.rf ((s3.tr s4).g) ⟨q9, q9b⟩ (wkO_mk _ _) hr (fun z => absurd z (emB_tx hs _)) (fun _ => rfl)
  obtain ⟨b, hb, eb⟩ := wA.2.2.2.2.2.2.1
  have kb := ob_k ty5 (ANn_b b (ANb_n b hb)).1
  refine kjZ_y rfl rfl 7 _ _ _ _ ty5 ?_
  refine (And.intro (ty5.k (by decide) rfl) (And.intro (ty5.k (by decide) rfl) (Exists.intro _ (And.intro eb (And.intro (by assumption) (And.intro (Nat.le_of_ble_eq_true rfl) (And.intro (Or.inl ⟨(Nat.le_of_ble_eq_true rfl), (by assumption)⟩) (And.intro (Nat.le_of_ble_eq_true rfl) (And.intro (Nat.le_of_ble_eq_true rfl) (kjY_mono ty5 (fun q_ u6 ty6 xu6 h_ => ?_) (kx_number ty5 wA hb _)))))))))))
  obtain ⟨rfl, w6, s6⟩ := h_
  intro _ _
  refine kjZ_y rfl rfl 1 _ _ _ _ ty6 ?_
  refine And.intro rfl (And.intro rfl ?_)
  exact ⟨rfl, nmA, ksA, pA, w6, rA, eA, (s6 (59, 18) (by decide)).1.trans cA, sA.tr s6.g⟩
theorem kx_writeArg (ty : kTY σ) {P Q : List KC} {y : KC} (w : KWd σ0 B σ ws nm (P ++ y :: Q)) (hs : y.2.2.2.2.2.2.1 = 0) (hr : RSD (P ++ y :: Q)) {k i p : Nat} {a v : List Int32} (hk : nm[k]? = some v) (hn : y.2.2.2.2.2.1 = v) (f2 : kyI (skA (P ++ y :: Q)) v = some P.length) (ha : ws[i]? = some a) (hm : y.2.2.2.2.2.2.2.2.2.1.length ≤ 16384) (hpa : p + a.length ≤ 16384) (hcap : xtA (skA (P ++ y :: Q)) + 16384 ≤ 98304) (x1 x3 x4 : Int32) (e1 : x1 = nI k) (e3 : x3 = nI p) (e4 : x4 = nI i) :
    kjY kPP (kQQ Y) (d + 6) 178 0 (mjL0 6 [.ref 67, .int x1, .ref y.1, .int x3, .int x4]) [] σ (fun r z => r = none ∧ cdS σ0 B σ ws nm (putA (skA (P ++ y :: Q)) v (ovwT (txA (skA (P ++ y :: Q)) v) p a)) z) := by
  have kv := (w.tz hs).2.2
  refine kjZ_y rfl rfl 4 _ _ _ _ ty ?_
  refine (And.intro (Nat.le_of_ble_eq_true rfl) ?_)
  have e : putA (skA (P ++ y :: Q)) v (ovwT (txA (skA (P ++ y :: Q)) v) p a) = skA (P ++ mkK y (txG (fun t => ovwT t p a) y.2.2.2.2.2) :: Q) := by
    unfold putA orA txA; rw [f2]
    show upA (skA (P ++ y :: Q)) P.length (fun a_1 => (a_1.1, a_1.2.1, a_1.2.2.1, a_1.2.2.2.1, ovwT (match (skA (P ++ y :: Q))[P.length]? with | some a => a.2.2.2.2.1 | none => []) p a, a_1.2.2.2.2.2)) = _
    rw [skA_at, skA_app, skA_app, skA_cons, skA_cons, ← skA_len P, upA_at]; rfl
  rw [e]
  exact kx_writeArg_m ty w hs hr.two.2.1 (by rw [hn]; exact hk) hr.two.1 ha hm hpa hcap _ x1 x3 x4 e1 e3 e4
theorem kx_writeArg0 (ty : kTY σ) (w : KWd σ0 B σ ws nm ks) (hr : RSD ks) {k i p : Nat} {a v : List Int32} (hk : nm[k]? = some v) (q3 : kyI (skA ks) v = none) (hk1 : ks.length + 1 ≤ 2600) (ha : ws[i]? = some a) (hpa : p + a.length ≤ 16384) (hcap : xtA (skA ks) + 16384 ≤ 98304) (x1 x3 x4 : Int32) (e1 : x1 = nI k) (e3 : x3 = nI p) (e4 : x4 = nI i) :
    kjY kPP (kQQ Y) (d + 6) 178 0 (mjL0 6 [.ref 67, .int x1, .null, .int x3, .int x4]) [] σ (fun r z => r = none ∧ cdS σ0 B σ ws nm (putA (skA ks) v (ovwT (txA (skA ks) v) p a)) z) := by
  refine kjZ_y rfl rfl 7 _ _ _ _ ty ?_
  refine (And.intro (ty.k (by decide) rfl) (And.intro (Nat.le_of_ble_eq_true rfl) (And.intro (Or.inl ⟨(Nat.le_of_ble_eq_true rfl), (ty.k (by decide) rfl)⟩) (And.intro (Nat.le_of_ble_eq_true rfl) (And.intro (Nat.le_of_ble_eq_true rfl) (kjY_mono ty (fun q_ u1 ty1 xu1 h_ => ?_) (kx_fresh ty w hk (s := 0) (by decide) (fun _ => hk1) _ _ e1 rfl)))))))
  obtain ⟨P, x, Q, rfl, w1, s1, g1, g2, g3, g4⟩ := h_
  intro _ _
  rcases g4 with ⟨y, g5, g6, g7, g8⟩ | ⟨g5, g6, g7, g8⟩
  · rw [q3] at g7; cases g7
  have hs : x.2.2.2.2.2.2.1 = 0 := by rw [g2]; rfl
  have kv := (w1.tz hs).2.2
  refine kjZ_y rfl rfl 2 _ _ _ _ ty1 ?_
  refine (And.intro (Nat.le_of_ble_eq_true rfl) ?_)
  have e : putA (skA ks) v (ovwT (txA (skA ks) v) p a) = skA (P ++ mkK x (txG (fun t => ovwT t p a) x.2.2.2.2.2) :: Q) := by
    unfold putA orA txA; rw [q3]
    show upA (inA (skA ks) (plF (anm (skA ks)) v) (v, 0, 0, 0, [], [])) (plF (anm (skA ks)) v) _ = _
    rw [← g7, g5, skA_app]
    unfold inA
    have el : P.length = (skA P).length := (skA_len P).symm
    rw [el, List.take_left, List.drop_left, upA_at, skA_app, skA_cons, g2]; rfl
  refine kjY_mono ty1 (fun r z tz xz hz => ?_) (kx_writeArg_m (d := d) ty1 w1 hs (by unfold wkO; rw [g1, g2]; rfl) (k := k) (p := p) (by rw [g2]; exact hk) (by rw [← g5]; exact hr) ha (by rw [g2]; exact Nat.zero_le _) hpa ?_ _ x1 x3 x4 e1 e3 e4)
  · obtain ⟨hr0, nmA, ksA, pA, wA, rA, eA, cA, sA⟩ := hz
    exact ⟨hr0, nmA, ksA, pA, wA, rA, by rw [e]; exact eA, cA, s1.g.tr sA⟩
  · rw [xtA_at, if_pos hs, g2]; rw [g5, xtA_app] at hcap; show _ + 0 + _ + _ ≤ _; omega
end KWARG
