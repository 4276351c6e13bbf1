/-! Texts: String.length(), String.charAt(i). -/
/-- the bytes of a text -/
def tb (i : Nat) : List Int32 := (kTx i).2.2.2
theorem tb_ok : ∀ i, i < 185 → (tb i).length ≤ 40 ∧ ∀ x ∈ tb i, x.toInt8.toInt32 = x ∧ (0 : Int32) ≤ x := by decide +kernel
theorem c16 (z : Int32) : ((z.toUInt32 % 65536).toInt32.toUInt32 % 65536).toInt32 = (z.toUInt32 % 65536).toInt32 := Value.int.inj (pk_nc z)
section KSTR
variable {Y : Nat → MethodName × ByteArray} {d : Nat} {σ : kS}
theorem kOf_v {i : Nat} (hi : i < 185) : kOf 1010 (2000000 + i) (.ref (3000000 + i)) := Or.inr ⟨i, hi, rfl, Or.inl ⟨rfl, rfl⟩⟩
theorem kOf_c {i : Nat} (hi : i < 185) : kOf 1011 (2000000 + i) (.int 0) := Or.inr ⟨i, hi, rfl, Or.inr ⟨rfl, rfl⟩⟩
theorem kOr_t {i : Nat} (hi : i < 185) : kOr (3000000 + i) 21 (tb i).length (fun j => .int ((tb i).getD j 0)) := Or.inr (Or.inr ⟨i, hi, rfl, rfl, rfl, rfl⟩)
theorem k_coder (ty : kTY σ) {i : Nat} (hi : i < 185) : kjY kPP (kQQ Y) d 306 0 (mjL0 1 [.ref (2000000 + i)]) [] σ (fun r u => u = σ ∧ r = some (.int 0)) := by
  refine kjZ_y rfl rfl 2 _ _ _ _ ty ?_
  refine And.intro (fun c => ?_) (fun c => ?_)
  · exact absurd c (show ¬ (1 : Int32) = 0 by decide)
  · refine kjZ_y rfl rfl 4 _ _ _ _ ty ?_
    refine (Exists.intro _ (And.intro (kOf_c hi) (And.intro rfl (And.intro (Or.inr (Or.inr (Or.inr ⟨rfl, rfl⟩))) ?_))))
    exact ⟨rfl, rfl⟩
theorem k_latin (ty : kTY σ) {i : Nat} (hi : i < 185) : kjY kPP (kQQ Y) d 307 0 (mjL0 1 [.ref (2000000 + i)]) [] σ (fun r u => u = σ ∧ r = some (.int 1)) := by
  refine kjZ_y rfl rfl 2 _ _ _ _ ty ?_
  refine And.intro (fun c => ?_) (fun c => ?_)
  · exact absurd c (show ¬ (1 : Int32) = 0 by decide)
  · refine kjZ_y rfl rfl 3 _ _ _ _ ty ?_
    refine (Exists.intro _ (And.intro (kOf_c hi) (And.intro (fun c2 => ?_) (fun c2 => ?_))))
    · exact absurd rfl c2
    · refine kjZ_y rfl rfl 3 _ _ _ _ ty ?_
      refine And.intro rfl (And.intro (Or.inr (Or.inl ⟨rfl, Or.inr rfl⟩)) ?_)
      exact ⟨rfl, rfl⟩
theorem k_len (ty : kTY σ) {i : Nat} (hi : i < 185) : kjY kPP (kQQ Y) (d + 1) 304 0 (mjL0 1 [.ref (2000000 + i)]) [] σ (fun r u => u = σ ∧ r = some (.int (nI (tb i).length))) := by
  have kc : kSt (2000000 + i) := ⟨i, hi, rfl⟩
  have hl := (tb_ok i hi).1
  refine kjZ_y rfl rfl 5 _ _ _ _ ty ?_
  refine (Exists.intro _ (And.intro (kOf_v hi) (Or.inr (Exists.intro _ (Exists.intro _ (Exists.intro _ (And.intro (kOr_t hi) (And.intro (Nat.le_of_ble_eq_true rfl) (And.intro (Or.inr (Or.inr ⟨rfl, by assumption⟩)) (And.intro (Nat.le_of_ble_eq_true rfl) (And.intro (Nat.le_of_ble_eq_true rfl) (kjY_mono ty (fun q_ u1 ty1 xu h_ => ?_) (k_coder ty hi)))))))))))))
  obtain ⟨rfl, rfl⟩ := h_
  intro _ _
  refine kjZ_y rfl rfl 2 _ _ _ _ ty1 ?_
  refine And.intro rfl (And.intro (Or.inl rfl) ?_)
  refine ⟨rfl, ?_⟩
  refine congrArg (fun z => some (Value.int z)) ?_
  show nI (tb i).length >>> ((0 : Int32) &&& 31) = _
  have e : ((0 : Int32) &&& 31) = nI 0 := by decide
  rw [e, pk_shrN (by omega) (nI 0) 0 (by decide)]
  rw [Nat.pow_zero, Nat.div_one]
theorem k_l1 (ty : kTY σ) {i k : Nat} (hi : i < 185) (hk : k < (tb i).length) (x : Int32) (ex : x = nI k) : kjY kPP (kQQ Y) (d + 3) 308 0 (mjL0 2 [.ref (3000000 + i), .int x]) [] σ (fun r u => u = σ ∧ r = some (.int (((tb i).getD k 0 &&& (Int16.ofInt 255).toInt32).toUInt32 % 65536).toInt32)) := by
  have hl := (tb_ok i hi).1
  have ck : x.toNatClampNeg = k := by rw [ex]; exact nI_clamp (by omega)
  have e9 : (fun j => Value.int ((tb i).getD j 0)) x.toNatClampNeg = .int ((tb i).getD k 0) := by show Value.int ((tb i).getD x.toNatClampNeg 0) = _; rw [ck]
  refine kjZ_y rfl rfl 11 _ _ _ _ ty ?_
  refine (Or.inr (Exists.intro _ (Exists.intro _ (Exists.intro _ (And.intro (kOr_t hi) (And.intro ⟨(by rw [ex]; exact nI_n0 (by omega)), (by rw [ex]; exact nI_lt hk (by omega)), (Nat.le_of_ble_eq_true rfl), (Nat.le_of_ble_eq_true rfl)⟩ (Or.inr (Exists.intro _ (Exists.intro _ (And.intro (kOr_t hi) (And.intro (by rw [ex]; exact vp_in_nI hk (by omega)) (Exists.intro _ (And.intro e9 (And.intro rfl (And.intro (Or.inr (Or.inr (Or.inl ⟨rfl, c16 _⟩))) ?_)))))))))))))))
  exact ⟨rfl, rfl⟩
theorem k_char (ty : kTY σ) {i k : Nat} (hi : i < 185) (hk : k < (tb i).length) (x : Int32) (ex : x = nI k) : kjY kPP (kQQ Y) (d + 4) 305 0 (mjL0 2 [.ref (2000000 + i), .int x]) [] σ (fun r u => u = σ ∧ ∃ y, r = some (.int y) ∧ y.toInt8.toInt32 = (tb i).getD k 0 ∧ y = (tb i).getD k 0) := by
  have kc : kSt (2000000 + i) := ⟨i, hi, rfl⟩
  have hb := (tb_ok i hi).2 ((tb i).getD k 0) (by rw [List.getD_eq_getElem?_getD, List.getElem?_eq_getElem hk]; exact List.getElem_mem hk)
  have ey : (((tb i).getD k 0 &&& (Int16.ofInt 255).toInt32).toUInt32 % 65536).toInt32 = (tb i).getD k 0 := by
    generalize (tb i).getD k 0 = z at hb
    have h1 : ∀ n, n < 128 → ((nI n &&& (Int16.ofInt 255).toInt32).toUInt32 % 65536).toInt32 = nI n := by decide +kernel
    have h2 := z.toInt8.toInt_lt
    have h3 : z.toInt = z.toInt8.toInt := by rw [← hb.1]; simp
    have h4 := Int32.le_iff_toInt_le.mp hb.2
    have h5 : z = nI z.toInt.toNat := by
      apply Int32.toInt_inj.mp
      have h6 : (0 : Int32).toInt = 0 := by decide
      rw [h6] at h4
      rw [nI_toInt (by omega)]; omega
    have h6 : (0 : Int32).toInt = 0 := by decide
    rw [h6] at h4
    rw [h5]; exact h1 _ (by omega)
  refine kjZ_y rfl rfl 2 _ _ _ _ ty ?_
  refine (And.intro (Nat.le_of_ble_eq_true rfl) (And.intro (Or.inr (Or.inr ⟨rfl, by assumption⟩)) (And.intro (Nat.le_of_ble_eq_true rfl) (And.intro (Nat.le_of_ble_eq_true rfl) (kjY_mono ty (fun q_ u1 ty1 xu h_ => ?_) (k_latin ty hi))))))
  obtain ⟨rfl, rfl⟩ := h_
  intro _ _
  refine kjZ_y rfl rfl 1 _ _ _ _ ty1 ?_
  refine And.intro (fun c => ?_) (fun c => ?_)
  · exact absurd c (show ¬ (1 : Int32) = 0 by decide)
  · refine kjZ_y rfl rfl 4 _ _ _ _ ty1 ?_
    refine (Exists.intro _ (And.intro (kOf_v hi) (And.intro (Nat.le_of_ble_eq_true rfl) (And.intro (Nat.le_of_ble_eq_true rfl) (And.intro (Nat.le_of_ble_eq_true rfl) (kjY_mono ty1 (fun q_ u2 ty2 xu2 h_ => ?_) (k_l1 ty1 hi hk x ex)))))))
    obtain ⟨rfl, rfl⟩ := h_
    intro _ _
    refine kjZ_y rfl rfl 1 _ _ _ _ ty2 ?_
    refine And.intro rfl (And.intro (Or.inr (Or.inr (Or.inl ⟨rfl, c16 _⟩))) ?_)
    exact ⟨rfl, _, rfl, by rw [ey]; exact hb.1, ey⟩
end KSTR
