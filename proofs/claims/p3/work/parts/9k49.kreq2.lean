/-! Request: words against texts; integers, over the world of a command. -/
theorem u8_tb : ∀ i, i < 185 → ∀ x ∈ tb i, u8 x = x.toInt ∧ x.toInt ≤ 127 := by decide +kernel
theorem up_b8 {b : Int32} (h : b.toInt8.toInt32 = b) : (up b).toInt8.toInt32 = up b ∧ u8 (up b) = (if 97 ≤ u8 b ∧ u8 b ≤ 122 then u8 b - 32 else u8 b) := by
  have e : b.toInt8 = Int8.ofNat b.toInt8.toBitVec.toNat := by
    apply Int8.toBitVec_inj.mp
    show _ = BitVec.ofNat 8 _
    rw [BitVec.ofNat_toNat]; simp
  have k : ∀ n, n < 256 → (up (Int8.ofNat n).toInt32).toInt8.toInt32 = up (Int8.ofNat n).toInt32 ∧ u8 (up (Int8.ofNat n).toInt32) = (if 97 ≤ u8 (Int8.ofNat n).toInt32 ∧ u8 (Int8.ofNat n).toInt32 ≤ 122 then u8 (Int8.ofNat n).toInt32 - 32 else u8 (Int8.ofNat n).toInt32) := by decide +kernel
  have := k b.toInt8.toBitVec.toNat b.toInt8.toBitVec.isLt
  rw [← e, h] at this
  exact this
section KREQ2
variable {Y : Nat → MethodName × ByteArray} {d : Nat} {σ0 σ u : kS} {B ws nm : List (List Int32)} {ks : List KC}
theorem k_cmpT_l (ty : kTY σ) {i : Nat} (hi : i < 185) {h M a n : Nat} (kh : σ.2.2.2.1 h = (21, M)) (hM : M ≤ 600000) (ha : a + n ≤ M) (x2 x3 x4 : Int32) (e2 : x2 = nI a) (e3 : x3 = nI n) (e4 : x4 = nI (min (tb i).length n)) : ∀ (f k : Nat) (x5 : Int32) (o6 o7 : Option Value), k + f = min (tb i).length n → x5 = nI k → (tb i).take k = ((wd (σ.1 h) a n).map up).take k →
    kjY kPP (kQQ Y) (d + 5) 91 17 [some (.ref (2000000 + i)), some (.ref h), some (.int x2), some (.int x3), some (.int x4), some (.int x5), o6, o7] [] σ (fun r u => u = σ ∧ ∃ y : Int32, r = some (.int y) ∧ y.toInt = cmpW (tb i) ((wd (σ.1 h) a n).map up)) := by
  have hl40 := (tb_ok i hi).1
  have hst : kSt (2000000 + i) := ⟨i, hi, rfl⟩
  have hlw : ((wd (σ.1 h) a n).map up).length = n := by rw [List.length_map, wd_len]
  have cut : ∀ k, (tb i).take k = ((wd (σ.1 h) a n).map up).take k → cmpW (tb i) ((wd (σ.1 h) a n).map up) = cmpW ((tb i).drop k) (((wd (σ.1 h) a n).map up).drop k) := fun k hk => by
    conv => lhs; rw [← List.take_append_drop k (tb i), ← List.take_append_drop k ((wd (σ.1 h) a n).map up), hk]
    exact cmpW_pre _ _ _
  intro f
  induction f with
  | zero =>
    intro k x5 o6 o7 hk e5 hp
    refine kjZ_y rfl rfl 3 _ _ _ _ ty ?_
    refine And.intro (fun c => ?_) (fun c => ?_)
    rotate_left
    · refine absurd (show x4 ≤ x5 from ?_) c
      rw [e4, e5]; exact nI_le (by omega) (by omega)
    refine kjZ_y rfl rfl 2 _ _ _ _ ty ?_
    refine (And.intro (Nat.le_of_ble_eq_true rfl) (And.intro (Or.inr (Or.inr ⟨rfl, by assumption⟩)) (And.intro (Nat.le_of_ble_eq_true rfl) (And.intro (Nat.le_of_ble_eq_true rfl) (kjY_mono ty (fun q_ u1 ty1 xu1 h_ => ?_) (k_len ty hi))))))
    obtain ⟨rfl, rfl⟩ := h_
    intro _ _
    refine kjZ_y rfl rfl 3 _ _ _ _ ty1 ?_
    refine And.intro rfl (And.intro (Or.inl rfl) ?_)
    refine ⟨rfl, _, rfl, ?_⟩
    rw [e3, nI_sub_toInt (by omega) (by omega), cut k hp]
    by_cases q : (tb i).length ≤ n
    · rw [List.drop_eq_nil_of_le (show (tb i).length ≤ k by omega)]
      show _ = -((List.drop k _).length : Int)
      rw [List.length_drop, hlw]; omega
    · rw [List.drop_eq_nil_of_le (show ((wd (u1.1 h) a n).map up).length ≤ k by rw [hlw]; omega)]
      have hkl : k < (tb i).length := by omega
      rw [List.drop_eq_getElem_cons hkl]
      show _ = ((_ :: _ : List Int32).length : Int)
      rw [List.length_cons, List.length_drop]; omega
  | succ f ih =>
    intro k x5 o6 o7 hk e5 hp
    have hkl : k < (tb i).length := by omega
    have hkn : k < n := by omega
    have v1 : vp_in (x2 + x5) M := by rw [e2, e5, nI_add]; exact vp_in_nI (by omega) (by omega)
    have c1 : (x2 + x5).toNatClampNeg = a + k := by rw [e2, e5, nI_add]; exact nI_clamp (by omega)
    have y1 := ty.2.1 h (a + k) (by rw [kh])
    obtain ⟨up1, up2⟩ := up_b8 y1
    have egt : (tb i).getD k 0 = (tb i)[k] := by rw [List.getD_eq_getElem?_getD, List.getElem?_eq_getElem hkl]; rfl
    have htb := u8_tb i hi (tb i)[k] (List.getElem_mem hkl)
    have hwk : ((wd (σ.1 h) a n).map up)[k]? = some (up (σ.1 h (a + k))) := by rw [List.getElem?_map, wd_get hkn]; rfl
    have hb255 : ∃ j : Nat, j < 256 ∧ σ.1 h (a + k) &&& (Int16.ofInt 255).toInt32 = nI j := pk_andE _ 8 (by decide)
    obtain ⟨j, hj, ej⟩ := hb255
    have eu : u8 (σ.1 h (a + k)) = j := by
      show (σ.1 h (a + k) &&& 255).toInt = j
      rw [show σ.1 h (a + k) &&& 255 = nI j from ej, nI_toInt (by omega)]
    have eu2 : u8 (up (σ.1 h (a + k))) = if 97 ≤ j ∧ j ≤ 122 then (j : Int) - 32 else j := by
      rw [up2, eu]
      by_cases z : 97 ≤ j ∧ j ≤ 122
      · rw [if_pos z, if_pos (by omega)]
      · rw [if_neg z, if_neg (by omega)]
    -- behind the subtraction: y is what the byte is taken for
    have fin : ∀ y6 y : Int32, y.toInt = u8 (up (σ.1 h (a + k))) → kjY kPP (kQQ Y) (d + 5) 91 42 [some (.ref (2000000 + i)), some (.ref h), some (.int x2), some (.int x3), some (.int x4), some (.int x5), some (.int y6), o7] [.int y, .int ((tb i).getD k 0)] σ (fun r u => u = σ ∧ ∃ y : Int32, r = some (.int y) ∧ y.toInt = cmpW (tb i) ((wd (σ.1 h) a n).map up)) := by
      intro y6 y hy
      have hyr : 0 ≤ y.toInt ∧ y.toInt ≤ 255 := by rw [hy]; exact u8_lt _
      have hs : ((tb i).getD k 0 - y).toInt = (tb i)[k].toInt - y.toInt := by
        rw [egt, Int32.toInt_sub]
        have h0 : 0 ≤ (tb i)[k].toInt := by have := u8_lt (tb i)[k]; rw [htb.1] at this; exact this.1
        exact Int.bmod_eq_of_le (by omega) (by omega)
      refine kjZ_y rfl rfl 4 _ _ _ _ ty ?_
      refine (And.intro (Nat.le_of_ble_eq_true rfl) (And.intro (fun c4 => ?_) (fun c4 => ?_)))
      · have c4 : (tb i).getD k 0 - y = 0 := c4
        have c5 := congrArg Int32.toInt c4
        rw [hs] at c5
        have c5 : (tb i)[k].toInt - y.toInt = 0 := c5
        have e6 : (tb i)[k] = up (σ.1 h (a + k)) := u8_inj ((tb_ok i hi).2 _ (List.getElem_mem hkl)).1 up1 (by rw [htb.1]; omega)
        refine kjZ_y rfl rfl 2 _ _ _ _ ty ?_
        refine ih (k + 1) _ _ _ (by omega) (by rw [e5]; exact nI_1 k) ?_
        rw [List.take_succ, List.take_succ, hp, hwk, List.getElem?_eq_getElem hkl, e6]
      · have c4 : ¬ (tb i).getD k 0 - y = 0 := c4
        refine kjZ_y rfl rfl 2 _ _ _ _ ty ?_
        refine And.intro rfl (And.intro (Or.inl rfl) ?_)
        refine ⟨rfl, _, rfl, ?_⟩
        rw [hs, cut k hp, List.drop_eq_getElem_cons hkl, List.drop_eq_getElem_cons (show k < ((wd (σ.1 h) a n).map up).length by rw [hlw]; exact hkn)]
        have ex : ((wd (σ.1 h) a n).map up)[k]'(by rw [hlw]; exact hkn) = up (σ.1 h (a + k)) := by
          have := List.getElem?_eq_getElem (show k < ((wd (σ.1 h) a n).map up).length by rw [hlw]; exact hkn)
          rw [hwk] at this; exact (Option.some.inj this).symm
        rw [ex]
        show _ = if _ then _ else _
        rw [if_neg, htb.1, ← hy]
        intro z
        refine c4 (Int32.toInt_inj.mp ?_)
        rw [hs, ← htb.1, z, ← hy]; exact Int.sub_self _
    refine kjZ_y rfl rfl 3 _ _ _ _ ty ?_
    refine And.intro (fun c => ?_) (fun c => ?_)
    · refine absurd (show x4 ≤ x5 from c) ?_
      rw [e4, e5]; exact nI_ge (by omega) (by omega)
    refine kjZ_y rfl rfl 11 _ _ _ _ ty ?_
    refine (Or.inl (And.intro (kdk kh) (And.intro (kdv kh v1) (And.intro (Nat.le_of_ble_eq_true rfl) (And.intro (Nat.le_of_ble_eq_true rfl) (And.intro (Or.inr (Or.inr ⟨rfl, by assumption⟩)) (And.intro (Nat.le_of_ble_eq_true rfl) (And.intro (Nat.le_of_ble_eq_true rfl) (kjY_mono ty (fun q_ u1 ty1 xu1 h_ => ?_) (k_char ty hi hkl _ e5))))))))))
    obtain ⟨rfl, y, rfl, -, rfl⟩ := h_
    intro _ _
    have e6 : u1.1 h (x2 + x5).toNatClampNeg &&& (Int16.ofInt 255).toInt32 = nI j := by rw [c1]; exact ej
    refine kjZ_y rfl rfl 3 _ _ _ _ ty1 ?_
    refine And.intro (fun c2 => ?_) (fun c2 => ?_)
    · have c2 : u1.1 h (x2 + x5).toNatClampNeg &&& (Int16.ofInt 255).toInt32 < nI 97 := c2
      rw [e6, nlt (by omega) (by omega)] at c2
      refine kjZ_y rfl rfl 1 _ _ _ _ ty1 ?_
      refine fin _ _ ?_
      show (u1.1 h (x2 + x5).toNatClampNeg &&& (Int16.ofInt 255).toInt32).toInt = _
      rw [e6, nI_toInt (by omega), eu2, if_neg (by omega)]
    have c2 : ¬ u1.1 h (x2 + x5).toNatClampNeg &&& (Int16.ofInt 255).toInt32 < nI 97 := c2
    rw [e6, nlt (by omega) (by omega)] at c2
    refine kjZ_y rfl rfl 3 _ _ _ _ ty1 ?_
    refine And.intro (fun c3 => ?_) (fun c3 => ?_)
    · have c3 : nI 122 < u1.1 h (x2 + x5).toNatClampNeg &&& (Int16.ofInt 255).toInt32 := c3
      rw [e6, nlt (by omega) (by omega)] at c3
      refine kjZ_y rfl rfl 1 _ _ _ _ ty1 ?_
      refine fin _ _ ?_
      show (u1.1 h (x2 + x5).toNatClampNeg &&& (Int16.ofInt 255).toInt32).toInt = _
      rw [e6, nI_toInt (by omega), eu2, if_neg (by omega)]
    · have c3 : ¬ nI 122 < u1.1 h (x2 + x5).toNatClampNeg &&& (Int16.ofInt 255).toInt32 := c3
      rw [e6, nlt (by omega) (by omega)] at c3
      refine kjZ_y rfl rfl 4 _ _ _ _ ty1 ?_
      refine fin _ _ ?_
      show ((u1.1 h (x2 + x5).toNatClampNeg &&& (Int16.ofInt 255).toInt32) - (Int8.ofInt 32).toInt32).toInt = _
      rw [e6, show (Int8.ofInt 32).toInt32 = nI 32 by decide, nI_sub_toInt (by omega) (by omega), eu2, if_pos (by omega)]; rfl
theorem k_cmpT (ty : kTY σ) {i : Nat} (hi : i < 185) {h M a n : Nat} (kh : σ.2.2.2.1 h = (21, M)) (hM : M ≤ 600000) (ha : a + n ≤ M) (x2 x3 : Int32) (e2 : x2 = nI a) (e3 : x3 = nI n) :
    kjY kPP (kQQ Y) (d + 5) 91 0 (mjL0 8 [.ref (2000000 + i), .ref h, .int x2, .int x3]) [] σ (fun r u => u = σ ∧ ∃ y : Int32, r = some (.int y) ∧ y.toInt = cmpW (tb i) ((wd (σ.1 h) a n).map up)) := by
  have hl40 := (tb_ok i hi).1
  have hst : kSt (2000000 + i) := ⟨i, hi, rfl⟩
  refine kjZ_y rfl rfl 2 _ _ _ _ ty ?_
  refine And.intro (fun c => ?_) (fun c => ?_)
  · exact absurd (show x2 < 0 from c) (by rw [e2]; exact nI_n0 (by omega))
  refine kjZ_y rfl rfl 6 _ _ _ _ ty ?_
  refine (Or.inl (And.intro (kdq kh) (And.intro (fun c3 => ?_) (fun c3 => ?_))))
  rotate_left
  · refine absurd (show x3 ≤ nI (σ.2.2.2.1 h).2 - x2 from ?_) c3
    rw [kh, e2, e3, pk_sub (by omega), nle (by omega) (by omega)]; omega
  refine kjZ_y rfl rfl 2 _ _ _ _ ty ?_
  refine (And.intro (Nat.le_of_ble_eq_true rfl) (And.intro (Or.inr (Or.inr ⟨rfl, by assumption⟩)) (And.intro (Nat.le_of_ble_eq_true rfl) (And.intro (Nat.le_of_ble_eq_true rfl) (kjY_mono ty (fun q_ u1 ty1 xu1 h_ => ?_) (k_len ty hi))))))
  obtain ⟨rfl, rfl⟩ := h_
  intro _ _
  refine kjZ_y rfl rfl 2 _ _ _ _ ty1 ?_
  refine (And.intro (Nat.le_of_ble_eq_true rfl) (And.intro (Nat.le_of_ble_eq_true rfl) (And.intro (Nat.le_of_ble_eq_true rfl) (kjY_mono ty1 (fun q_ u2 ty2 xu2 h_ => ?_) (k_min ty1 _ _)))))
  obtain ⟨rfl, rfl⟩ := h_
  intro _ _
  refine kjZ_y rfl rfl 3 _ _ _ _ ty2 ?_
  refine (And.intro (Nat.le_of_ble_eq_true rfl) (And.intro (Nat.le_of_ble_eq_true rfl) ?_))
  refine k_cmpT_l ty2 hi kh hM ha x2 x3 _ e2 e3 ?_ (min (tb i).length n) 0 _ none none (by omega) rfl rfl
  rw [e3]
  by_cases q : n < (tb i).length
  · rw [if_pos (nI_lt q (by omega))]; congr 1; omega
  · rw [if_neg (Int32.not_lt.mpr (nI_le (by omega) (by omega)))]; congr 1; omega
theorem cmp0 {i : Nat} (hi : i < 185) {w : List Int32} (hw : ∀ x ∈ w, x.toInt8.toInt32 = x) : cmpW (tb i) (w.map up) = 0 ↔ w.map up = tb i := by
  constructor
  · intro h
    refine (cmpW_eq _ _ (fun x hx => ((tb_ok i hi).2 x hx).1) (fun x hx => ?_) h).symm
    obtain ⟨b, hb, rfl⟩ := List.mem_map.mp hx
    exact (up_b8 (hw b hb)).1
  · intro h; rw [h]; exact cmpW_self _
theorem wd_b8 (ty : kTY σ) {h M a n : Nat} (kh : σ.2.2.2.1 h = (21, M)) : ∀ x ∈ wd (σ.1 h) a n, x.toInt8.toInt32 = x := by
  intro x hx
  unfold wd at hx
  obtain ⟨k, -, rfl⟩ := List.mem_map.mp hx
  exact ty.2.1 h _ (by rw [kh])
theorem KWd.wb (ty : kTY σ) (w : KWd σ0 B σ ws nm ks) {v : List Int32} (hv : v ∈ ws) : ∀ x ∈ v, x.toInt8.toInt32 = x := by
  obtain ⟨i, hi⟩ := List.getElem?_of_mem hv
  obtain ⟨g, M, a, h1, h2, h3, h4, h4', h5, h6, h7, h8⟩ := w.arg hi
  rw [← h8]; exact wd_b8 ty h1.2.1
/-- whether a word of the request is this text -/
theorem kx_is (ty : kTY σ) (w : KWd σ0 B σ ws nm ks) {i : Nat} (hi : i < 185) (k : Nat) (hk : k < 2 ^ 30) (x : Int32) (ex : x = nI k) : kjY kPP (kQQ Y) (d + 6) 105 0 (mjL0 3 [.ref 53, .int x, .ref (2000000 + i)]) [] σ (fun r u => u = σ ∧ ((r = some (.int 1) ∧ ∃ v, ws[k]? = some v ∧ v.map up = tb i) ∨ (r = some (.int 0) ∧ ∀ v, ws[k]? = some v → ¬ v.map up = tb i))) := by
  obtain ⟨g, M, h1, h2, ⟨h3, h4⟩, h5⟩ := w.2.2.2.1
  have hst : kSt (2000000 + i) := ⟨i, hi, rfl⟩
  have no : (∀ v, ws[k]? = some v → ¬ v.map up = tb i) → kjY kPP (kQQ Y) (d + 6) 105 21 [some (.ref 53), some (.int x), some (.ref (2000000 + i))] [] σ (fun r u => u = σ ∧ ((r = some (.int 1) ∧ ∃ v, ws[k]? = some v ∧ v.map up = tb i) ∨ (r = some (.int 0) ∧ ∀ v, ws[k]? = some v → ¬ v.map up = tb i))) := by
    intro q
    refine kjZ_y rfl rfl 2 _ _ _ _ ty ?_
    refine And.intro rfl (And.intro (Or.inr (Or.inl ⟨rfl, Or.inl rfl⟩)) ?_)
    exact ⟨rfl, Or.inr ⟨rfl, q⟩⟩
  refine kjZ_y rfl rfl 2 _ _ _ _ ty ?_
  refine And.intro (fun c => ?_) (fun c => ?_)
  · exact absurd (show x < 0 from c) (by rw [ex]; exact nI_n0 (by omega))
  refine kjZ_y rfl rfl 4 _ _ _ _ ty ?_
  refine (And.intro (ty.k (by decide) rfl) (And.intro (fun c2 => ?_) (fun c2 => ?_)))
  · refine no (fun v hv => ?_)
    have c2 : σ.1 53 4 ≤ x := c2
    rw [h3, ex, nle (by omega) (by omega)] at c2
    have := (List.getElem?_eq_some_iff.mp hv).1; omega
  have c2 : ¬ σ.1 53 4 ≤ x := c2
  rw [h3, ex, nle (by omega) (by omega)] at c2
  have hkw : k < ws.length := by omega
  have hv : ws[k]? = some ws[k] := List.getElem?_eq_getElem hkw
  obtain ⟨a, a1, a2, a3, a4⟩ := h5 k _ hv
  have vx : vp_in x 1024 := by rw [ex]; exact vp_in_nI (by omega) (by decide)
  have cx : x.toNatClampNeg = k := by rw [ex]; exact nI_clamp (by omega)
  refine kjZ_y rfl rfl 12 _ _ _ _ ty ?_
  refine (And.intro (ty.k (by decide) rfl) (Exists.intro _ (And.intro h1.1 (And.intro (ty.k (by decide) rfl) (Or.inl (And.intro (ty.k (by decide) rfl) (And.intro (kdw ty (by decide) rfl vx) (And.intro (ty.k (by decide) rfl) (Or.inl (And.intro (ty.k (by decide) rfl) (And.intro (kdw ty (by decide) rfl vx) (And.intro (Nat.le_of_ble_eq_true rfl) (And.intro (Nat.le_of_ble_eq_true rfl) (And.intro (Nat.le_of_ble_eq_true rfl) (kjY_mono ty (fun q_ u1 ty1 xu1 h_ => ?_) (k_cmpT ty hi h1.2.1 h1.2.2 a3 _ _ (by rw [cx]; exact a1) (by rw [cx]; exact a2)))))))))))))))))
  obtain ⟨rfl, y, rfl, q1⟩ := h_
  intro _ _
  rw [a4] at q1
  have hb := KWd.wb ty1 w (List.mem_of_getElem? hv)
  have h0 := cmp0 hi hb
  refine kjZ_y rfl rfl 1 _ _ _ _ ty1 ?_
  refine And.intro (fun c3 => ?_) (fun c3 => ?_)
  · refine no (fun v hv2 => ?_)
    rw [hv] at hv2; cases hv2
    have c3 : ¬ y = 0 := c3
    exact fun z => c3 (Int32.toInt_inj.mp (by rw [q1, h0.mpr z]; rfl))
  · have c3 : y = 0 := Decidable.not_not.mp c3
    refine kjZ_y rfl rfl 3 _ _ _ _ ty1 ?_
    refine And.intro rfl (And.intro (Or.inr (Or.inl ⟨rfl, Or.inr rfl⟩)) ?_)
    exact ⟨rfl, Or.inl ⟨rfl, _, hv, h0.mp (by rw [← q1, c3]; rfl)⟩⟩
end KREQ2
