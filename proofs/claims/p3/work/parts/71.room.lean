/-! tidy and room, and what writes a word: name, give, keep. -/
section ROOM
variable {Y : Nat → MethodName × ByteArray} {d : Nat}
set_option maxRecDepth 100000 in
theorem c_tidy {σ : mjS} {hs : Nat} {ks : List KR} {fk fe : List Nat} (h : KS σ hs ks fk fe) (ht : tot ks ≤ 200000) (ty : mjTY σ) : mjY mjPP (mjQQ Y) (d + 1) 5 0 (mjL0 5 [.ref 0]) [] σ (fun r u => r = none ∧ Fr [f_heapSize] tyH σ u ∧ KS u (tot ks) ks fk fe) := by
  refine mjZ_y rfl rfl 4 _ _ _ _ ty ?_
  refine And.intro (Nat.le_of_ble_eq_true rfl) (And.intro (Nat.le_of_ble_eq_true rfl) ?_)
  refine c_tidy_out _ h ks [] σ 0 _ _ _ _ rfl rfl rfl ⟨Fr.rf, fun _ _ _ _ => rfl, (fun c hc => by cases hc), rfl, (fun c hc => by cases hc)⟩ (by rw [Nat.zero_add]; exact ht) ty (fun u1 l2 l3 l4 ty1 h1 => ?_)
  have e : 0 + ceN (ceA ks) = tot ks := Nat.zero_add _
  rw [e] at h1 ⊢
  have h1 : TI σ u1 (tot ks) (ceA ks) := h1
  refine mjZ_y rfl rfl 2 _ _ _ _ ty1 ?_
  refine And.intro (Nat.le_of_ble_eq_true rfl) ?_
  refine c_tidy_back _ (tot ks) ht _ _ (u1.2.2.1 r_heap2) (u1.2.2.1 r_heap) (tot ks) 0 u1 _ rfl (by omega) ty1 rfl cpy_0.symm (fun u fu e1 e2 => ?_)
  exact ⟨rfl, (h1.1.up (fun _ q => by cases q) (by decide)).tr (fu.up (by decide) (by decide)), ks_tidy h ht h1 fu e1 e2⟩
set_option maxRecDepth 100000 in
theorem c_room {σ : mjS} {hs : Nat} {ks : List KR} {fk fe : List Nat} (h : KS σ hs ks fk fe) (ht : tot ks ≤ 200000) (n : Nat) (hn : tot ks + n ≤ 300000) (ty : mjTY σ) : mjY mjPP (mjQQ Y) (d + 2) 6 0 (mjL0 2 [.ref 0, .int (nI n)]) [] σ (fun r u => r = none ∧ Fr [f_heapSize] tyH σ u ∧ ∃ hs', KS u hs' ks fk fe ∧ hs' + n ≤ 300000) := by
  have e0 : σ.1 f_heapSize = nI hs := h.1
  have h3 := h.2.1
  refine mjZ_y rfl rfl 6 _ _ _ _ ty ?_
  refine And.intro rfl ?_
  have key : (σ.1 f_heapSize + nI n ≤ Int32.ofInt 300000) ↔ hs + n ≤ 300000 := by
    rw [e0, nI_add]; exact nI_leI (b := 300000) (by omega) (by omega)
  by_cases c : hs + n ≤ 300000
  · refine And.intro (fun _ => ?_) (fun q => absurd (key.mpr c) q)
    refine mjZ_re rfl rfl 1 ty ?_
    exact And.intro rfl (And.intro rfl ⟨rfl, Fr.rf, hs, h, c⟩)
  · refine And.intro (fun q => absurd (key.mp q) c) (fun _ => ?_)
    refine mjZ_re rfl rfl 3 ty ?_
    refine And.intro (Nat.le_of_ble_eq_true rfl) (And.intro rfl (And.intro (Nat.le_of_ble_eq_true rfl) (And.intro (Nat.le_of_ble_eq_true rfl) (mjY_mono ty (fun v u ty1 ht => ?_) (c_tidy (Y := Y) (d := d) h ht ty)))))
    obtain ⟨rfl, f, k⟩ := ht
    intro _
    exact And.intro rfl (And.intro rfl ⟨rfl, f, tot ks, k, hn⟩)
end ROOM
