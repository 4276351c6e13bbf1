/-! The reference's connections: what is small about them. -/
section CONN
variable {Y : Nat → MethodName × ByteArray} {d : Nat} {σ : mjS}
def bnd (σ : mjS) (h c m : Nat) : Prop := ∃ n : Nat, n ≤ m ∧ σ.2.2.1 h c = nI n
def CN (σ : mjS) : Prop := ∀ c, c < 4 → bnd σ r_inSize c 65536 ∧ bnd σ r_outSize c 65536 ∧ bnd σ r_queued c 200 ∧ bnd σ r_watches c 64 ∧ bnd σ r_channels c 32
abbrev cRows : List Nat := [r_inSize, r_outSize, r_queued, r_watches, r_channels]
theorem bnd.z {h c m g i : Nat} {v : Int32} (b : bnd σ h c m) (hv : g = h → v = 0) : bnd (σ.1, σ.2.1, mjIu σ.2.2.1 g i v, σ.2.2.2) h c m := by
  obtain ⟨n, h1, h2⟩ := b
  by_cases q : h = g ∧ c = i
  · refine ⟨0, Nat.zero_le _, ?_⟩
    show mjIu σ.2.2.1 g i v h c = nI 0
    rw [mjIu_at, if_pos q, hv q.1.symm]; rfl
  · refine ⟨n, h1, ?_⟩
    show mjIu σ.2.2.1 g i v h c = nI n
    rw [mjIu_at, if_neg q]; exact h2
theorem CN.z {g i : Nat} {v : Int32} (h : CN σ) (hv : g ∈ cRows → v = 0) : CN (σ.1, σ.2.1, mjIu σ.2.2.1 g i v, σ.2.2.2) := fun c hc =>
  ⟨(h c hc).1.z (fun e => hv (by rw [e]; decide)), (h c hc).2.1.z (fun e => hv (by rw [e]; decide)), (h c hc).2.2.1.z (fun e => hv (by rw [e]; decide)), (h c hc).2.2.2.1.z (fun e => hv (by rw [e]; decide)), (h c hc).2.2.2.2.z (fun e => hv (by rw [e]; decide))⟩
theorem CN.fr {fs hs : List Nat} {u : mjS} (h : CN σ) (f : Fr fs hs σ u) (hn : ∀ g ∈ cRows, g ∉ hs) : CN u := by
  intro c hc
  have e : ∀ g ∈ cRows, u.2.2.1 g = σ.2.2.1 g := fun g hg => (f.2.2 g (hn g hg)).1
  unfold bnd
  rw [e r_inSize (by decide), e r_outSize (by decide), e r_queued (by decide), e r_watches (by decide), e r_channels (by decide)]
  exact h c hc
abbrev clH : List Nat := [r_opened, r_inSize, r_blocked, r_spoilt, r_queued, r_watches, r_disturbed, r_channels]
set_option maxRecDepth 100000 in
theorem c_endBlock (ty : mjTY σ) (hc : CN σ) (c : Nat) (h4 : c < 4) : mjY mjPP (mjQQ Y) d 21 0 (mjL0 2 [.ref 0, .int (nI c)]) [] σ (fun r u => r = none ∧ Fr [] clH σ u ∧ CN u) := by
  have vi : vp_in (nI c) 4 := vp_in_nI h4 (by decide)
  refine mjZ_y rfl rfl 26 _ _ _ _ ty ?_
  refine And.intro rfl (And.intro (Or.inr ⟨rfl, Or.inl rfl⟩) (And.intro vi (fun ty1 => ?_)))
  refine And.intro rfl (And.intro (Or.inr ⟨rfl, Or.inl rfl⟩) (And.intro vi (fun ty2 => ?_)))
  refine And.intro rfl (And.intro rfl (And.intro vi (fun ty3 => ?_)))
  refine And.intro rfl (And.intro rfl (And.intro vi (fun ty4 => ?_)))
  refine And.intro rfl (And.intro (Or.inr ⟨rfl, Or.inl rfl⟩) (And.intro vi (fun ty5 => ?_)))
  exact And.intro rfl (And.intro rfl (And.intro rfl (And.intro (((((Fr.a (by decide)).tr (Fr.a (by decide))).tr (Fr.a (by decide))).tr (Fr.a (by decide))).tr (Fr.a (by decide))) (((((hc.z (fun _ => rfl)).z (fun _ => rfl)).z (fun _ => rfl)).z (fun _ => rfl)).z (fun _ => rfl)))))
set_option maxRecDepth 100000 in
theorem c_close (ty : mjTY σ) (hc : CN σ) (c : Nat) (h4 : c < 4) : mjY mjPP (mjQQ Y) (d + 1) 22 0 (mjL0 2 [.ref 0, .int (nI c)]) [] σ (fun r u => r = none ∧ Fr [] clH σ u ∧ CN u) := by
  have vi : vp_in (nI c) 4 := vp_in_nI h4 (by decide)
  refine mjZ_y rfl rfl 19 _ _ _ _ ty ?_
  refine And.intro rfl (And.intro (Or.inr ⟨rfl, Or.inl rfl⟩) (And.intro vi (fun ty1 => ?_)))
  refine And.intro rfl (And.intro rfl (And.intro vi (fun ty2 => ?_)))
  have hc2 := (hc.z (g := r_opened) (i := (nI c).toNatClampNeg) (v := 0) (fun _ => rfl)).z (g := r_inSize) (i := (nI c).toNatClampNeg) (v := 0) (fun _ => rfl)
  refine And.intro (Nat.le_of_ble_eq_true rfl) (And.intro rfl (And.intro (Nat.le_of_ble_eq_true rfl) (And.intro (Nat.le_of_ble_eq_true rfl) (mjY_mono ty2 (fun v u1 ty3 h1 => ?_) (c_endBlock (Y := Y) (d := d) ty2 hc2 c h4)))))
  obtain ⟨rfl, f1, hc3⟩ := h1
  intro _
  refine And.intro rfl (And.intro rfl (And.intro vi (fun ty4 => ?_)))
  exact And.intro rfl (And.intro rfl (And.intro rfl (And.intro ((((Fr.a (by decide)).tr (Fr.a (by decide))).tr f1).tr (Fr.a (by decide))) (hc3.z (fun _ => rfl)))))
set_option maxRecDepth 100000 in
theorem c_isConnection (ty : mjTY σ) (c : Int32) : mjY mjPP (mjQQ Y) d 174 0 (mjL0 1 [.int c]) [] σ (fun r u => u = σ ∧ ((∃ k : Nat, k < 4 ∧ c = nI k ∧ r = some (.int 1)) ∨ ((∀ k : Nat, k < 4 → c ≠ nI k) ∧ r = some (.int 0)))) := by
  refine mjZ_y rfl rfl 2 _ _ _ _ ty ?_
  refine And.intro (fun q => ?_) (fun q => ?_)
  · have q : c < 0 := q
    refine mjZ_re rfl rfl 2 ty ?_
    exact And.intro rfl (And.intro (Or.inr ⟨rfl, Or.inl rfl⟩) (And.intro rfl (Or.inr ⟨fun k hk e => absurd q (by rw [e]; exact nI_pos (by omega)), rfl⟩)))
  · obtain ⟨k, hk, ek⟩ := nI_of (x := c) q
    refine mjZ_re rfl rfl 3 ty ?_
    refine And.intro (fun g => ?_) (fun g => ?_)
    · have g : nI 4 ≤ c := g
      refine mjZ_re rfl rfl 2 ty ?_
      exact And.intro rfl (And.intro (Or.inr ⟨rfl, Or.inl rfl⟩) (And.intro rfl (Or.inr ⟨fun j hj e => absurd g (by rw [e]; exact nI_ge hj (by decide)), rfl⟩)))
    · have g2 : k < 4 := Nat.lt_of_not_le (fun z => g (show nI 4 ≤ c by rw [ek]; exact nI_le z hk))
      refine mjZ_re rfl rfl 3 ty ?_
      exact And.intro rfl (And.intro (Or.inr ⟨rfl, Or.inr rfl⟩) (And.intro rfl (Or.inl ⟨k, g2, ek, rfl⟩)))
set_option maxRecDepth 100000 in
theorem c_isOpen (ty : mjTY σ) (c : Int32) : mjY mjPP (mjQQ Y) (d + 1) 176 0 (mjL0 2 [.ref 0, .int c]) [] σ (fun r u => (∃ z, r = some (.int z)) ∧ Fr [f_thrownCode] [] σ u) := by
  refine mjZ_y rfl rfl 6 _ _ _ _ ty ?_
  refine And.intro rfl (And.intro (Or.inl rfl) (fun ty1 => ?_))
  refine And.intro (Nat.le_of_ble_eq_true rfl) (And.intro (Nat.le_of_ble_eq_true rfl) (And.intro (Nat.le_of_ble_eq_true rfl) (mjY_mono ty1 (fun v u1 ty2 h1 => ?_) (c_isConnection (Y := Y) (d := d) ty1 c))))
  obtain ⟨rfl, h1⟩ := h1
  have fr := Fr.i (fs := [f_thrownCode]) (hs := []) (σ := σ) (k := f_thrownCode) (v := Int32.ofInt 0) (by decide)
  rcases h1 with ⟨k, hk, ek, rfl⟩ | ⟨_, rfl⟩
  · intro _
    refine And.intro (fun q => absurd (show (1 : Int32) = 0 from q) (by decide)) (fun _ => ?_)
    refine mjZ_re rfl rfl 5 ty1 ?_
    refine And.intro rfl (And.intro (Or.inr rfl) (And.intro (by rw [ek]; exact vp_in_nI (by show k < 4; exact hk) (by decide)) (And.intro (fun _ => ?_) (fun _ => ?_))))
    · refine mjZ_re rfl rfl 2 ty1 ?_
      exact And.intro rfl (And.intro (Or.inr ⟨rfl, Or.inl rfl⟩) (And.intro ⟨_, rfl⟩ fr))
    · refine mjZ_re rfl rfl 3 ty1 ?_
      exact And.intro rfl (And.intro (Or.inr ⟨rfl, Or.inr rfl⟩) (And.intro ⟨_, rfl⟩ fr))
  · intro _
    refine And.intro (fun _ => ?_) (fun q => absurd (show (0 : Int32) = 0 from rfl) q)
    refine mjZ_re rfl rfl 2 ty1 ?_
    exact And.intro rfl (And.intro (Or.inr ⟨rfl, Or.inl rfl⟩) (And.intro ⟨_, rfl⟩ fr))
end CONN
