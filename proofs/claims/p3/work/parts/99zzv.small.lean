/-! The small calls, over what stands between two calls. -/
section SMALL
variable {Y : Nat → MethodName × ByteArray} {d : Nat}
abbrev gmF : List Nat := [f_thrownCode, f_tapeSize, f_burning]
theorem nI_inj {a b : Nat} (ha : a < 2 ^ 31) (hb : b < 2 ^ 31) (h : nI a = nI b) : a = b := by
  have := congrArg Int32.toNatClampNeg h
  rw [nI_clamp ha, nI_clamp hb] at this
  exact this
theorem HI.le {σ : mjS} {A : List AK} {P : Nat} (h : HI σ A P) : P ≤ 10240 := by
  obtain ⟨E, -, -, b, -⟩ := h
  have := b.2.2.1; omega
theorem HD.le {σ : mjS} {P : Nat} (h : HD σ P) : P ≤ 10240 := by
  obtain ⟨E, A, b, ns, n, B, -, -, b2, -⟩ := h
  have := b2.2.2.1; omega
theorem GI.t {σ : mjS} {bud : Nat} (h : GI σ bud) : ∃ t, σ.1 f_tapeSize = nI t ∧ bud + t ≤ 10240 := by
  obtain ⟨ws, ks, l, qe, we, ce, I, G, P, t, g1, g2, -, ⟨eT, g3⟩, g4, g5⟩ := h
  refine ⟨t, eT, ?_⟩
  rcases g4 with ⟨-, b⟩ | ⟨-, -, b⟩
  · have := b.le; omega
  · have := b.le; omega
theorem GI.cn {σ : mjS} {bud : Nat} (h : GI σ bud) : ∀ c, c < 4 → bnd σ r_outSize c 65536 := by
  obtain ⟨ws, ks, l, qe, we, ce, I, G, P, t, g1, g2, -⟩ := h
  exact fun c hc => (g2.1 c hc).2.1
theorem GI.dk {σ : mjS} {bud : Nat} (h : GI σ bud) : ∃ n : Nat, n ≤ 700000 ∧ σ.1 f_diskSize = nI n := by
  obtain ⟨ws, ks, l, qe, we, ce, I, G, P, t, g1, g2, -, -, g4, -⟩ := h
  rcases g4 with ⟨-, E, a, -⟩ | ⟨-, -, E, A, b, ns, n, B, a, -⟩
  · exact ⟨_, a.2.1, a.1⟩
  · exact ⟨_, a.2.1, a.1⟩
theorem GI.mv {σ u : mjS} {bud bud' : Nat} (h : GI σ bud) (f : Fr gmF [r_tape] σ u) (hb : BU σ → BU u) (ht : ∀ t, σ.1 f_tapeSize = nI t → bud + t ≤ 10240 → ∃ t', u.1 f_tapeSize = nI t' ∧ bud' + t' ≤ bud + t) : GI u bud' := by
  obtain ⟨ws, ks, l, qe, we, ce, I, G, P, t, g1, g2, ⟨t1, t2, t3, t4, t5, t6⟩, ⟨eT, g3⟩, g4, g5⟩ := h
  have hP : P ≤ 10240 := by
    rcases g4 with ⟨-, b⟩ | ⟨-, -, b⟩
    · exact b.le
    · exact b.le
  obtain ⟨t', e', h'⟩ := ht t eT (by omega)
  refine ⟨ws, ks, l, qe, we, ce, I, G, P, t', g1.fr f (by decide) (by decide), g2.fr f (by decide) (by decide), ⟨t1.fr f (by decide), by rw [f.1 _ (by decide)]; exact t2, by rw [f.1 _ (by decide)]; exact t3, by rw [f.2.1 _ (by decide)]; exact t4, hb t5, t6⟩, ⟨e', by omega⟩, ?_, by omega, by omega, by omega⟩
  rw [f.1 f_up (by decide)]
  rcases g4 with ⟨a, b⟩ | ⟨a, b, c⟩
  · exact Or.inl ⟨a, b.fr f (by decide) (by decide)⟩
  · exact Or.inr ⟨a, b, c.fr f (by decide) (by decide)⟩
theorem GI.th {σ u : mjS} {bud : Nat} (h : GI σ bud) (f : Fr th [] σ u) : GI u bud :=
  h.mv (f.up (by decide) (by decide)) (fun b => b.fr f (by decide)) (fun t e _ => ⟨t, by rw [f.1 _ (by decide)]; exact e, Nat.le_refl _⟩)
theorem GI.less {σ : mjS} {bud bud' : Nat} (h : GI σ bud) (hb : bud' ≤ bud) : GI σ bud' :=
  h.mv Fr.rf (fun b => b) (fun t e _ => ⟨t, e, by omega⟩)
/-- what a call that answers a number leaves -/
def gK (bud : Nat) : mjK := fun r u => (∃ z, r = some (.int z)) ∧ GI u bud
theorem g_feed {σ : mjS} {bud : Nat} (h : GI σ (bud + 20)) (ty : mjTY σ) (a b c e f : Int32) : mjY mjPP (mjQQ Y) d 171 0 (mjL0 8 [.ref 0, .int a, .int b, .int c, .int e, .int f]) [] σ (fun r u => r = some (.int 1) ∧ GI u bud) := by
  obtain ⟨t, eT, ht⟩ := h.t
  refine mjY_mono ty (fun r u _ k => ?_) (c_feed ty t (by omega) eT a b c e f)
  obtain ⟨fu, ⟨-, er, et⟩ | ⟨z, -⟩⟩ := k
  · refine ⟨er, h.mv (fu.up (by decide) (by decide)) (fun b => b.fr fu (by decide)) (fun t2 e2 h2 => ⟨t + 20, et, ?_⟩)⟩
    have := nI_inj (a := t) (b := t2) (by omega) (by omega) (eT.symm.trans e2)
    omega
  · exact absurd (show t + 20 ≤ 65540 by omega) z
theorem g_end {σ : mjS} {bud : Nat} (h : GI σ bud) (ty : mjTY σ) (n : Int32) : mjY mjPP (mjQQ Y) d 172 0 (mjL0 2 [.ref 0, .int n]) [] σ (gK bud) := by
  obtain ⟨t, eT, ht⟩ := h.t
  refine mjY_mono ty (fun r u _ k => ?_) (c_end ty t (by omega) eT n)
  obtain ⟨fu, ⟨k, hk, -, er, et⟩ | ⟨-, er, et⟩⟩ := k
  · refine ⟨⟨_, er⟩, h.mv (fu.up (by decide) (by decide)) (fun b => b.fr fu (by decide)) (fun t2 e2 h2 => ⟨k, et, ?_⟩)⟩
    have := nI_inj (a := t) (b := t2) (by omega) (by omega) (eT.symm.trans e2)
    omega
  · refine ⟨⟨_, er⟩, h.mv (fu.up (by decide) (by decide)) (fun b => b.fr fu (by decide)) (fun t2 e2 h2 => ⟨t, et, ?_⟩)⟩
    have := nI_inj (a := t) (b := t2) (by omega) (by omega) (eT.symm.trans e2)
    omega
theorem g_isOpen {σ : mjS} {bud : Nat} (h : GI σ bud) (ty : mjTY σ) (c : Int32) : mjY mjPP (mjQQ Y) (d + 1) 176 0 (mjL0 2 [.ref 0, .int c]) [] σ (gK bud) :=
  mjY_mono ty (fun _ _ _ k => ⟨k.1, h.th k.2⟩) (c_isOpen ty c)
theorem g_out {σ : mjS} {bud : Nat} (h : GI σ bud) (ty : mjTY σ) (c : Int32) : mjY mjPP (mjQQ Y) (d + 1) 177 0 (mjL0 2 [.ref 0, .int c]) [] σ (gK bud) :=
  mjY_mono ty (fun _ _ _ k => ⟨k.1, h.th k.2⟩) (c_out ty c)
theorem g_outAt {σ : mjS} {bud : Nat} (h : GI σ bud) (ty : mjTY σ) (c i : Int32) : mjY mjPP (mjQQ Y) (d + 1) 178 0 (mjL0 3 [.ref 0, .int c, .int i]) [] σ (gK bud) :=
  mjY_mono ty (fun _ _ _ k => ⟨k.1, h.th k.2⟩) (c_outAt ty h.cn c i)
theorem g_now {σ : mjS} {bud : Nat} (h : GI σ bud) (ty : mjTY σ) : mjY mjPP (mjQQ Y) d 182 0 (mjL0 1 [.ref 0]) [] σ (fun r u => (∃ z, r = some (.long z)) ∧ GI u bud) :=
  mjY_mono ty (fun _ _ _ k => ⟨k.1, h.th k.2⟩) (c_now ty)
theorem g_log {σ : mjS} {bud : Nat} (h : GI σ bud) (ty : mjTY σ) : mjY mjPP (mjQQ Y) d 192 0 (mjL0 1 [.ref 0]) [] σ (gK bud) :=
  mjY_mono ty (fun _ _ _ k => ⟨k.1, h.th k.2⟩) (c_log ty)
theorem g_isUp {σ : mjS} {bud : Nat} (h : GI σ bud) (ty : mjTY σ) : mjY mjPP (mjQQ Y) d 195 0 (mjL0 1 [.ref 0]) [] σ (gK bud) :=
  mjY_mono ty (fun _ _ _ k => ⟨k.1, h.th k.2⟩) (c_isUp ty)
theorem g_logAt {σ : mjS} {bud : Nat} (h : GI σ bud) (ty : mjTY σ) (i : Int32) : mjY mjPP (mjQQ Y) d 193 0 (mjL0 2 [.ref 0, .int i]) [] σ (gK bud) := by
  obtain ⟨n, hn, en⟩ := h.dk
  exact mjY_mono ty (fun _ _ _ k => ⟨k.1, h.th k.2⟩) (c_logAt ty hn en i)
theorem g_fuse {σ : mjS} {bud : Nat} (h : GI σ bud) (ty : mjTY σ) (b : Int32) : mjY mjPP (mjQQ Y) d 183 0 (mjL0 2 [.ref 0, .int b]) [] σ (fun r u => r = none ∧ GI u bud) := by
  refine mjY_mono ty (fun r u _ k => ?_) (c_fuse ty b)
  obtain ⟨er, fu, z, ez, hz⟩ := k
  refine ⟨er, h.mv (fu.up (by decide) (by decide)) (fun _ => ?_) (fun t e _ => ⟨t, by rw [fu.1 _ (by decide)]; exact e, Nat.le_refl _⟩)⟩
  rcases hz with rfl | hz
  · exact Or.inl ez
  · obtain ⟨e1, e2⟩ := i32_nn hz
    exact Or.inr ⟨_, e2, ez.trans e1⟩
theorem DKs_cut {σ u : mjS} {D : List Int32} {k : Nat} (h : DKs σ D) (hk : k ≤ D.length) (e1 : u.1 f_diskSize = nI k) (e2 : u.2.2.1 r_disk = σ.2.2.1 r_disk) : DKs u (D.take k) := by
  have hl : (D.take k).length = k := by rw [List.length_take, Nat.min_eq_left hk]
  refine ⟨by rw [hl]; exact e1, by rw [hl]; have := h.2.1; omega, ?_⟩
  rw [hl, e2]
  exact (wd_take h.2.2 hk).symm
theorem HD_cut {σ u : mjS} {P k n : Nat} (h : HD σ P) (hn : σ.1 f_diskSize = nI n) (hk : k ≤ n) (hn7 : n ≤ 700000) (e1 : u.1 f_diskSize = nI k) (e2 : u.2.2.1 r_disk = σ.2.2.1 r_disk) : HD u P := by
  have hP := h.le
  obtain ⟨E, A, b, ns, m, B, a, g1, g2, g3, g4, g5, g6, g7⟩ := h
  have en : n = (enE E ++ (blkB b ns).take m).length := nI_inj (by omega) (by have := a.2.1; omega) (hn.symm.trans a.1)
  have c := DKs_cut a (by omega) e1 e2
  by_cases z : k ≤ (enE E).length
  · rw [List.take_append_of_le_length z] at c
    obtain ⟨E1, A1, b1, ns1, k1, B1, r1, r2, r3, r4, r5, r6⟩ := LG_cut E [] A 0 k g1 (by show 0 + (0 + 50 * P) ≤ _; omega) z
    rw [r1] at c
    have l1 := LG_LI r2 (LI_nil P hP)
    exact ⟨E1, A1, b1, ns1, k1, B1, c, r2, l1, r3, LC_LI r3 l1, r4, by omega, by omega⟩
  · rw [List.take_append, List.take_of_length_le (by omega), List.take_take] at c
    exact ⟨E, A, b, ns, _, B, c, g1, g2, g3, g4, g5, g6, g7⟩
theorem g_tear {σ : mjS} {bud : Nat} (h : GI σ bud) (ty : mjTY σ) (i : Int32) : mjY mjPP (mjQQ Y) d 194 0 (mjL0 2 [.ref 0, .int i]) [] σ (gK bud) := by
  obtain ⟨n, hn, en⟩ := h.dk
  refine mjY_mono ty (fun r u _ k => ?_) (c_tear ty hn en i)
  obtain ⟨er, ⟨fu, -⟩ | ⟨e0, fu, k, hk, ek⟩⟩ := k
  · exact ⟨er, h.th fu⟩
  · refine ⟨er, ?_⟩
    obtain ⟨ws, ks, l, qe, we, ce, I, G, P, t, g1, g2, ⟨t1, t2, t3, t4, t5, t6⟩, ⟨eT, g3⟩, g4, g5⟩ := h
    refine ⟨ws, ks, l, qe, we, ce, I, G, P, t, g1.fr fu (by decide) (by decide), g2.fr fu (by decide) (by decide), ⟨t1.fr fu (by decide), by rw [fu.1 _ (by decide)]; exact t2, by rw [fu.1 _ (by decide)]; exact t3, by rw [fu.2.1 _ (by decide)]; exact t4, t5.fr fu (by decide), t6⟩, ⟨by rw [fu.1 _ (by decide)]; exact eT, g3⟩, ?_, g5⟩
    rcases g4 with ⟨a, -⟩ | ⟨-, b, c⟩
    · exact absurd e0 a
    · exact Or.inr ⟨by rw [fu.1 _ (by decide)]; exact e0, b, HD_cut c en hk hn ek (fu.2.2 _ (by decide)).1⟩
end SMALL
