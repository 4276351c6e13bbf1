section FACE2
variable {Y : Nat → MethodName × ByteArray} {d : Nat} {σ : mjS}
abbrev th : List Nat := [f_thrownCode]
theorem th0 {v : Int32} : Fr th [] σ (upd σ.1 f_thrownCode v, σ.2) := Fr.i (by decide)
/-- the call of isConnection that many begin with, at the fifth instruction -/
theorem nI_mul65536 (c i : Nat) : Int32.ofInt 65536 * nI c + nI i = nI (65536 * c + i) := by
  rw [show Int32.ofInt 65536 = nI 65536 from rfl, pk_mul, nI_add]
set_option maxRecDepth 100000 in
theorem c_out (ty : mjTY σ) (c : Int32) : mjY mjPP (mjQQ Y) (d + 1) 177 0 (mjL0 2 [.ref 0, .int c]) [] σ (fun r u => (∃ z, r = some (.int z)) ∧ Fr th [] σ u) := by
  refine mjZ_y rfl rfl 6 _ _ _ _ ty ?_
  refine And.intro rfl (And.intro (Or.inl rfl) (fun ty1 => ?_))
  refine And.intro (Nat.le_of_ble_eq_true rfl) (And.intro (Nat.le_of_ble_eq_true rfl) (And.intro (Nat.le_of_ble_eq_true rfl) (mjY_mono ty1 (fun v u1 ty2 h1 => ?_) (c_isConnection (Y := Y) (d := d) ty1 c))))
  obtain ⟨rfl, h1⟩ := h1
  rcases h1 with ⟨k, hk, ek, rfl⟩ | ⟨_, rfl⟩
  · intro _
    refine And.intro (fun _ => ?_) (fun q => absurd (show ¬ (1 : Int32) = 0 by decide) q)
    refine mjZ_re rfl rfl 5 ty1 ?_
    exact And.intro rfl (And.intro rfl (And.intro (by rw [ek]; exact vp_in_nI (by show k < 4; exact hk) (by decide)) (And.intro rfl (And.intro (Or.inl rfl) (And.intro ⟨_, rfl⟩ th0)))))
  · intro _
    refine And.intro (fun q => absurd (show (0 : Int32) = 0 from rfl) q) (fun _ => ?_)
    refine mjZ_re rfl rfl 2 ty1 ?_
    exact And.intro rfl (And.intro (Or.inl rfl) (And.intro ⟨_, rfl⟩ th0))
set_option maxRecDepth 100000 in
theorem c_outAt (ty : mjTY σ) (hc : ∀ c, c < 4 → bnd σ r_outSize c 65536) (c i : Int32) : mjY mjPP (mjQQ Y) (d + 1) 178 0 (mjL0 3 [.ref 0, .int c, .int i]) [] σ (fun r u => (∃ z, r = some (.int z)) ∧ Fr th [] σ u) := by
  have bad : ∀ v : Int32, mjTY (upd σ.1 f_thrownCode v, σ.2) → mjY mjPP (mjQQ Y) (d + 1) 178 14 [some (.ref 0), some (.int c), some (.int i)] [] (upd σ.1 f_thrownCode v, σ.2) (fun r u => (∃ z, r = some (.int z)) ∧ Fr th [] σ u) := by
    intro v tv
    refine mjZ_y rfl rfl 5 _ _ _ _ tv ?_
    exact And.intro rfl (And.intro (Or.inl rfl) (fun _ => And.intro rfl (And.intro (Or.inl rfl) (And.intro ⟨_, rfl⟩ (th0.tr (Fr.i (by decide)))))))
  refine mjZ_y rfl rfl 6 _ _ _ _ ty ?_
  refine And.intro rfl (And.intro (Or.inl rfl) (fun ty1 => ?_))
  refine And.intro (Nat.le_of_ble_eq_true rfl) (And.intro (Nat.le_of_ble_eq_true rfl) (And.intro (Nat.le_of_ble_eq_true rfl) (mjY_mono ty1 (fun v u1 ty2 h1 => ?_) (c_isConnection (Y := Y) (d := d) ty1 c))))
  obtain ⟨rfl, h1⟩ := h1
  rcases h1 with ⟨k, hk, ek, rfl⟩ | ⟨_, rfl⟩
  · intro _
    obtain ⟨n, hn, en⟩ := hc k hk
    have vk : vp_in c 4 := by rw [ek]; exact vp_in_nI hk (by decide)
    have ck : c.toNatClampNeg = k := by rw [ek]; exact nI_clamp (by omega)
    refine And.intro (fun q => absurd (show (1 : Int32) = 0 from q) (by decide)) (fun _ => ?_)
    refine mjZ_re rfl rfl 2 ty1 ?_
    refine And.intro (fun _ => bad _ ty1) (fun q => ?_)
    obtain ⟨j, hj, ej⟩ := nI_of (x := i) q
    refine mjZ_re rfl rfl 6 ty1 ?_
    refine And.intro rfl (And.intro rfl (And.intro vk (And.intro (fun g => ?_) (fun _ => bad _ ty1))))
    have g : i < σ.2.2.1 r_outSize c.toNatClampNeg := g
    rw [ck, en, ej] at g
    have g2 : j < n := (nI_ltI hj (by omega)).mp g
    refine mjZ_re rfl rfl 11 ty1 ?_
    refine And.intro rfl (And.intro (Or.inl rfl) (And.intro ?_ (And.intro rfl (And.intro (Or.inl rfl) (And.intro ⟨_, rfl⟩ th0)))))
    rw [ek, ej, nI_mul65536]
    exact vp_in_nI (by show 65536 * k + j < 262144; omega) (by decide)
  · intro _
    exact And.intro (fun _ => bad _ ty1) (fun q => absurd (show (0 : Int32) = 0 from rfl) q)
set_option maxRecDepth 100000 in
theorem c_now (ty : mjTY σ) : mjY mjPP (mjQQ Y) d 182 0 (mjL0 1 [.ref 0]) [] σ (fun r u => (∃ z, r = some (.long z)) ∧ Fr th [] σ u) := by
  refine mjZ_y rfl rfl 6 _ _ _ _ ty ?_
  exact And.intro rfl (And.intro (Or.inl rfl) (fun ty1 => And.intro rfl (And.intro rfl (And.intro rfl (And.intro ⟨_, rfl⟩ th0)))))
set_option maxRecDepth 100000 in
theorem c_fuse (ty : mjTY σ) (b : Int32) : mjY mjPP (mjQQ Y) d 183 0 (mjL0 2 [.ref 0, .int b]) [] σ (fun r u => r = none ∧ Fr [f_thrownCode, f_burning] [] σ u ∧ ∃ z, u.1 f_burning = z ∧ (z = -1 ∨ ¬ z < 0)) := by
  refine mjZ_y rfl rfl 6 _ _ _ _ ty ?_
  refine And.intro rfl (And.intro (Or.inl rfl) (fun ty1 => And.intro (fun q => ?_) (fun q => ?_)))
  · refine mjZ_re rfl rfl 3 ty1 ?_
    refine And.intro rfl (And.intro (Or.inl rfl) (fun ty2 => And.intro rfl (And.intro rfl (And.intro rfl (And.intro ((Fr.i (by decide)).tr (Fr.i (by decide))) ⟨b, ?_, Or.inr ?_⟩)))))
    · show upd (upd σ.1 f_thrownCode (Int32.ofInt 0)) f_burning b f_burning = b
      rw [pk_us]
    · exact Int32.not_lt.mpr q
  · refine mjZ_re rfl rfl 4 ty1 ?_
    refine And.intro rfl (And.intro (Or.inl rfl) (fun ty2 => And.intro rfl (And.intro rfl (And.intro rfl (And.intro ((Fr.i (by decide)).tr (Fr.i (by decide))) ⟨-1, ?_, Or.inl rfl⟩)))))
    show upd (upd σ.1 f_thrownCode (Int32.ofInt 0)) f_burning (Int32.ofInt (-1)) f_burning = -1
    rw [pk_us]; rfl
set_option maxRecDepth 100000 in
theorem c_log (ty : mjTY σ) : mjY mjPP (mjQQ Y) d 192 0 (mjL0 1 [.ref 0]) [] σ (fun r u => (∃ z, r = some (.int z)) ∧ Fr th [] σ u) := by
  refine mjZ_y rfl rfl 6 _ _ _ _ ty ?_
  exact And.intro rfl (And.intro (Or.inl rfl) (fun ty1 => And.intro rfl (And.intro rfl (And.intro (Or.inl rfl) (And.intro ⟨_, rfl⟩ th0)))))
set_option maxRecDepth 100000 in
theorem c_isUp (ty : mjTY σ) : mjY mjPP (mjQQ Y) d 195 0 (mjL0 1 [.ref 0]) [] σ (fun r u => (∃ z, r = some (.int z)) ∧ Fr th [] σ u) := by
  refine mjZ_y rfl rfl 6 _ _ _ _ ty ?_
  exact And.intro rfl (And.intro (Or.inl rfl) (fun ty1 => And.intro rfl (And.intro rfl (And.intro (Or.inr ⟨rfl, ty1.1 f_up rfl⟩) (And.intro ⟨_, rfl⟩ th0)))))
set_option maxRecDepth 100000 in
theorem c_logAt (ty : mjTY σ) {n : Nat} (hn : n ≤ 700000) (en : σ.1 f_diskSize = nI n) (i : Int32) : mjY mjPP (mjQQ Y) d 193 0 (mjL0 2 [.ref 0, .int i]) [] σ (fun r u => (∃ z, r = some (.int z)) ∧ Fr th [] σ u) := by
  have bad : ∀ v : Int32, mjTY (upd σ.1 f_thrownCode v, σ.2) → mjY mjPP (mjQQ Y) d 193 9 [some (.ref 0), some (.int i)] [] (upd σ.1 f_thrownCode v, σ.2) (fun r u => (∃ z, r = some (.int z)) ∧ Fr th [] σ u) := by
    intro v tv
    refine mjZ_y rfl rfl 5 _ _ _ _ tv ?_
    exact And.intro rfl (And.intro (Or.inl rfl) (fun _ => And.intro rfl (And.intro (Or.inl rfl) (And.intro ⟨_, rfl⟩ (th0.tr (Fr.i (by decide)))))))
  have en1 : upd σ.1 f_thrownCode (Int32.ofInt 0) f_diskSize = nI n := by rw [pk_un (by decide)]; exact en
  refine mjZ_y rfl rfl 5 _ _ _ _ ty ?_
  refine And.intro rfl (And.intro (Or.inl rfl) (fun ty1 => And.intro (fun _ => bad _ ty1) (fun q => ?_)))
  obtain ⟨j, hj, ej⟩ := nI_of (x := i) q
  refine mjZ_re rfl rfl 4 ty1 ?_
  refine And.intro rfl (And.intro (fun g => ?_) (fun _ => bad _ ty1))
  have g : i < upd σ.1 f_thrownCode (Int32.ofInt 0) f_diskSize := g
  rw [en1, ej] at g
  have g2 : j < n := (nI_ltI hj (by omega)).mp g
  refine mjZ_re rfl rfl 7 ty1 ?_
  exact And.intro rfl (And.intro (Or.inl rfl) (And.intro (by rw [ej]; exact vp_in_nI (by show j < 700000; omega) (by decide)) (And.intro rfl (And.intro (Or.inl rfl) (And.intro ⟨_, rfl⟩ th0)))))
set_option maxRecDepth 100000 in
theorem c_tear (ty : mjTY σ) {n : Nat} (hn : n ≤ 700000) (en : σ.1 f_diskSize = nI n) (i : Int32) : mjY mjPP (mjQQ Y) d 194 0 (mjL0 2 [.ref 0, .int i]) [] σ (fun r u => (∃ z, r = some (.int z)) ∧ ((Fr th [] σ u ∧ u.1 f_diskSize = nI n) ∨ (σ.1 f_up = 0 ∧ Fr [f_thrownCode, f_diskSize] [] σ u ∧ ∃ k : Nat, k ≤ n ∧ u.1 f_diskSize = nI k))) := by
  have en1 : upd σ.1 f_thrownCode (Int32.ofInt 0) f_diskSize = nI n := by rw [pk_un (by decide)]; exact en
  have bad : mjTY (upd σ.1 f_thrownCode (Int32.ofInt 0), σ.2) → mjY mjPP (mjQQ Y) d 194 12 [some (.ref 0), some (.int i)] [] (upd σ.1 f_thrownCode (Int32.ofInt 0), σ.2) (fun r u => (∃ z, r = some (.int z)) ∧ ((Fr th [] σ u ∧ u.1 f_diskSize = nI n) ∨ (σ.1 f_up = 0 ∧ Fr [f_thrownCode, f_diskSize] [] σ u ∧ ∃ k : Nat, k ≤ n ∧ u.1 f_diskSize = nI k))) := by
    intro tv
    refine mjZ_y rfl rfl 2 _ _ _ _ tv ?_
    exact And.intro rfl (And.intro (Or.inr ⟨rfl, Or.inl rfl⟩) (And.intro ⟨_, rfl⟩ (Or.inl ⟨th0, en1⟩)))
  refine mjZ_y rfl rfl 6 _ _ _ _ ty ?_
  refine And.intro rfl (And.intro (Or.inl rfl) (fun ty1 => And.intro rfl (And.intro (fun _ => bad ty1) (fun qu => ?_))))
  have qu : σ.1 f_up = 0 := by
    have z : upd σ.1 f_thrownCode (Int32.ofInt 0) f_up = 0 := Decidable.of_not_not qu
    rw [pk_un (by decide)] at z; exact z
  refine mjZ_re rfl rfl 2 ty1 ?_
  refine And.intro (fun _ => bad ty1) (fun q => ?_)
  obtain ⟨j, hj, ej⟩ := nI_of (x := i) q
  refine mjZ_re rfl rfl 4 ty1 ?_
  refine And.intro rfl (And.intro (fun g => ?_) (fun _ => bad ty1))
  have g : i ≤ upd σ.1 f_thrownCode (Int32.ofInt 0) f_diskSize := g
  rw [en1, ej] at g
  have g2 : j ≤ n := (nI_leI hj (by omega)).mp g
  refine mjZ_re rfl rfl 5 ty1 ?_
  refine And.intro rfl (And.intro (Or.inl rfl) (fun ty2 => And.intro rfl (And.intro (Or.inr ⟨rfl, Or.inr rfl⟩) (And.intro ⟨_, rfl⟩ (Or.inr ⟨qu, (Fr.i (by decide)).tr (Fr.i (by decide)), j, g2, ?_⟩)))))
  show upd (upd σ.1 f_thrownCode (Int32.ofInt 0)) f_diskSize i f_diskSize = nI j
  rw [pk_us, ej]
end FACE2
