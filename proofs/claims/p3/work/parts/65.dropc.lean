/-! dropKey as a whole. -/
section DROPC
variable {Y : Nat → MethodName × ByteArray} {d : Nat}
abbrev drH : List Nat := [r_kSort, r_kHead, r_kTail, r_kMany, r_tAt, r_tLen, r_eNext, r_order, r_kFree]
set_option maxRecDepth 100000 in
theorem c_dropKey {σ : mjS} {hs : Nat} {A B : List KR} {x : KR} {fk fe : List Nat} (h : KS σ hs (A ++ x :: B) fk fe) (ty : mjTY σ) : mjY mjPP (mjQQ Y) (d + 2) 15 0 (mjL0 4 [.ref 0, .int (nI x.1)]) [] σ (fun r u => r = none ∧ Fr [f_eFree, f_keys, f_kFrees] drH σ u ∧ KS u hs (A ++ B) (fk ++ [x.1]) ((ids x.2.2.2.2.2.2).reverse ++ fe)) := by
  have hl := ks_len h
  rw [List.length_append, List.length_cons] at hl
  refine mjZ_y rfl rfl 5 _ _ _ _ ty ?_
  refine And.intro (Nat.le_of_ble_eq_true rfl) (And.intro rfl (And.intro (Nat.le_of_ble_eq_true rfl) (And.intro (Nat.le_of_ble_eq_true rfl) (mjY_mono ty (fun v u1 ty1 he => ?_) (c_empty (Y := Y) (d := d) h ty)))))
  obtain ⟨rfl, f1, h1⟩ := he
  intro _
  refine And.intro (Nat.le_of_ble_eq_true rfl) ?_
  have e1 : u1.1 f_keys = nI (A ++ bare x x.2.2.1 :: B).length := h1.2.2.1
  have e2 : u1.1 f_kFrees = nI fk.length := h1.2.2.2.2.2.1
  have hlen : (A ++ bare x x.2.2.1 :: B).length = (A ++ B).length + 1 := by rw [List.length_append, List.length_append, List.length_cons]; omega
  have hAB : (A ++ B).length = A.length + B.length := List.length_append
  refine c_drop_1 (x := bare x x.2.2.1) _ h1 ty1 _ ?_ A.length 0 _ rfl (by omega)
  refine mjZ_y rfl rfl 8 _ _ _ _ ty1 ?_
  refine And.intro rfl (And.intro rfl (And.intro (Or.inl rfl) (fun ty2 => And.intro (Nat.le_of_ble_eq_true rfl) ?_)))
  have go : ∀ u2 : mjS, mjTY u2 → u2 = (upd u1.1 f_keys (u1.1 f_keys - 1), u1.2) → mjY mjPP (mjQQ Y) (d + 2) 15 21 [some (.ref 0), some (.int (nI x.1)), some (.int (nI A.length)), some (.int (nI A.length))] [] u2 (fun r u => r = none ∧ Fr [f_eFree, f_keys, f_kFrees] drH σ u ∧ KS u hs (A ++ B) (fk ++ [x.1]) ((ids x.2.2.2.2.2.2).reverse ++ fe)) := by
    intro u2 ty2 eu
    have f2 : Fr [f_keys, f_kFrees] [r_order, r_kFree] u1 u2 := by rw [eu]; exact Fr.i (by decide)
    have ek : u2.1 f_keys = nI (A ++ B).length := by
      rw [eu]
      show upd u1.1 f_keys (u1.1 f_keys - 1) f_keys = _
      rw [pk_us, e1, hlen, show (1 : Int32) = nI 1 from rfl, pk_sub (by omega)]; rfl
    have eo : u2.2.2.1 r_order = u1.2.2.1 r_order := by rw [eu]
    have ef : u2.2.2.1 r_kFree = u1.2.2.1 r_kFree := by rw [eu]
    refine c_drop_2 _ x.1 A.length (A ++ B).length (by omega) _ (u1.2.2.1 r_order) B.length 0 u2 _ rfl (by omega) ty2 ek (by rw [eo, cpy_0]) (fun u3 l3 ty3 f3 eo3 => ?_)
    have eF : u3.1 f_kFrees = nI fk.length := by rw [f3.1 f_kFrees (by decide), eu]; exact (show upd u1.1 f_keys (u1.1 f_keys - 1) f_kFrees = u1.1 f_kFrees from pk_un (by decide)).trans e2
    have fc : (u3.1 f_kFrees).toNatClampNeg = fk.length := by rw [eF]; exact nI_clamp (by omega)
    refine mjZ_y rfl rfl 13 _ _ _ _ ty3 ?_
    refine And.intro rfl (And.intro rfl (And.intro rfl (And.intro (show vp_in (u3.1 f_kFrees) 4700 by rw [eF]; exact vp_in_nI (by omega) (by decide)) (fun ty4 => ?_))))
    refine And.intro rfl (And.intro rfl (And.intro (Or.inl rfl) (fun ty5 => ?_)))
    have fin : ∀ u : mjS, u = (upd u3.1 f_kFrees (u3.1 f_kFrees + 1), u3.2.1, mjIu u3.2.2.1 r_kFree (u3.1 f_kFrees).toNatClampNeg (nI x.1), u3.2.2.2) → Fr [f_eFree, f_keys, f_kFrees] drH σ u ∧ KS u hs (A ++ B) (fk ++ [x.1]) ((ids x.2.2.2.2.2.2).reverse ++ fe) := by
      intro u eu5
      have f4 : Fr [f_keys, f_kFrees] [r_order, r_kFree] u3 u := by rw [eu5]; exact (Fr.a (h := r_kFree) (by decide)).tr (Fr.i (k := f_kFrees) (by decide))
      have f5 : Fr [f_keys, f_kFrees] [r_order, r_kFree] u1 u := (f2.tr (f3.up (fun _ q => by cases q) (by decide))).tr f4
      refine ⟨(f1.up (by decide) (by decide)).tr (f5.up (by decide) (by decide)), ks_drop (x := bare x x.2.2.1) h1 rfl f5 ?_ ?_ (fun j => ?_) (fun j => ?_)⟩
      · rw [eu5]
        show upd u3.1 f_kFrees (u3.1 f_kFrees + 1) f_keys = _
        rw [pk_un (by decide), f3.1 f_keys (by decide)]; exact ek
      · rw [eu5]
        show upd u3.1 f_kFrees (u3.1 f_kFrees + 1) f_kFrees = _
        rw [pk_us, eF, nI_1]
      · rw [eu5]
        show mjIu u3.2.2.1 r_kFree (u3.1 f_kFrees).toNatClampNeg (nI x.1) r_order j = _
        rw [mjIu_ne (by decide), eo3]
        unfold va_cpy
        by_cases c : A.length ≤ j ∧ j < (A ++ B).length
        · rw [if_pos c, if_pos (by omega)]; exact congrArg (u1.2.2.1 r_order) (by omega)
        · rw [if_neg c, if_neg (by omega)]
      · rw [eu5]
        show mjIu u3.2.2.1 r_kFree (u3.1 f_kFrees).toNatClampNeg (nI x.1) r_kFree j = _
        rw [mjIu_s, fc, (f3.2.2 r_kFree (by decide)).1, ef]; rfl
    refine And.intro rfl (And.intro rfl (And.intro rfl (fin _ rfl)))
  exact go _ ty2 rfl
end DROPC
