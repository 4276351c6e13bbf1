/-! Bytes.room: whether so many bytes more fit. -/
def kNd (b : Nat) : Nat := if b ∈ payB then 100000 else (kcapB b).1
def rmP (σ : kS) (b : Nat) (l : List Int32) (k : Nat) : kK := fun v u =>
  (v = some (.int 0) ∧ ((¬ σ.1 b 3 = 0) ∨ kMo b < l.length + k) ∧ OWN u ∧ POT u ∧ Ch false [(b, 2), (b, 3)] [] σ u ∧ u.2 = σ.2 ∧ (∀ h x, ¬ h = b → u.1 h x = σ.1 h x) ∧ ∃ l', kBY u b l') ∨
  (v = some (.int 1) ∧ σ.1 b 3 = 0 ∧ l.length + k ≤ kMo b ∧ OWN u ∧ PO u b (l.length + k) ∧ Ch false [(b, 1)] [(b, 1)] σ u ∧ ∃ r N, BR u b r N l ∧ l.length + k ≤ N)
section KROOM
variable {Y : Nat → MethodName × ByteArray} {d : Nat} {σ : kS}
theorem BR.ks {b r N : Nat} {l : List Int32} (h : BR σ b r N l) : ksz σ b = l.length := by
  unfold ksz; rw [h.2.2.2.2.1]
  have := h.2.2.1.2; have := h.2.2.2.2.2.1
  exact nI_clamp (by omega)
theorem BR.kn {b r N : Nat} {l : List Int32} (h : BR σ b r N l) : kl σ (b, 1) = N := by
  unfold kl
  rw [h.1]; show (σ.2.2.2.1 r).2 = N; rw [h.2.1]
theorem ob_k (ty : kTY σ) {b : Nat} (hb : b ∈ OWb) : (σ.2.2.2.1 b).1 = 0 := by
  have h : ∀ b ∈ OWb, b < 76 ∧ (kd0 b).1 = 0 := by decide
  exact ty.k (h b hb).1 (h b hb).2
theorem kl_eq {u : kS} (ty : kTY σ) (x : kEx σ u) {p : Nat × Nat} (hp : p ∈ OWs) (e : u.2.2.1 p.1 p.2 = σ.2.2.1 p.1 p.2) : kl u p = kl σ p := by
  obtain ⟨g, h1, -, h3⟩ := ow_some ty hp
  unfold kl
  rw [e, h1]
  show (u.2.2.2.1 g).2 = (σ.2.2.2.1 g).2
  rw [x.2.1 g h3]
theorem ow_b {b : Nat} (hb : b ∈ OWb) : ((b, 1) : Nat × Nat) ∈ OWs := List.mem_append_left _ (List.mem_map.mpr ⟨b, hb, rfl⟩)
theorem nI_2 (N : Nat) : Int32.ofInt 2 * nI N = nI (2 * N) := pk_mul 2 N
set_option maxHeartbeats 1000000 in
theorem k_room (ty : kTY σ) (ow : OWN σ) {b : Nat} (hb : b ∈ OWb) {r N : Nat} {l : List Int32} (h : BR σ b r N l) (k : Nat) (x : Int32) (ex : x = nI k) (hk : k ≤ 100000000) (po : PO σ b (l.length + k)) (hcap : σ.1 b 3 = 0 → l.length + k ≤ kMo b → 64 < l.length + k → l.length + k ≤ kNd b) :
    kjY kPP (kQQ Y) (d + 3) 41 0 (mjL0 3 [.ref b, .int x]) [] σ (rmP σ b l k) := by
  have kb := ob_k ty hb
  have hs := h.ks
  have hkl := h.kn
  obtain ⟨h1, h2, ⟨h3, h3'⟩, h4, h5, h6, h7⟩ := h
  have hmo := kMo_le b
  have hpot : POT σ := POT_PO.mpr (po.same (by rw [hs]; omega) (fun _ _ => rfl) (fun _ _ _ => rfl) rfl ⟨rfl, rfl⟩)
  have h59 : ¬ 59 = b := fun z => by rw [← z] at hb; exact absurd hb (by decide)
  refine kjZ_y rfl rfl 3 _ _ _ _ ty ?_
  refine (And.intro (by assumption) (And.intro (fun c => ?_) (fun c => ?_)))
  rotate_left
  · refine kjZ_y rfl rfl 2 _ _ _ _ ty ?_
    refine And.intro rfl (And.intro (Or.inr (Or.inl ⟨rfl, Or.inl rfl⟩)) ?_)
    exact Or.inl ⟨rfl, Or.inl c, ow, hpot, Ch.rf, rfl, fun _ _ _ => rfl, l, r, N, h1, h2, ⟨h3, h3'⟩, h4, h5, h6, h7⟩
  have c : σ.1 b 3 = 0 := c
  have bad : kMo b < l.length + k → kjY kPP (kQQ Y) (d + 3) 41 14 [some (.ref b), some (.int x), none] [] σ (rmP σ b l k) := by
    intro hgt
    refine kjZ_y rfl rfl 6 _ _ _ _ ty ?_
    refine (And.intro (by assumption) (And.intro (Or.inl rfl) (fun ty' => (And.intro (by assumption) (And.intro (Or.inr ⟨rfl, Or.inr rfl⟩) (fun ty'' => ?_))))))
    have ty2 := ty''
    have go : ∀ u, kTY u → u = (mjIu (mjIu σ.1 b 2 0) b 3 1, σ.2) → kjY kPP (kQQ Y) (d + 3) 41 20 [some (.ref b), some (.int x), none] [] u (rmP σ b l k) := by
      intro u tu eu
      refine kjZ_y rfl rfl 2 _ _ _ _ tu ?_
      refine And.intro rfl (And.intro (Or.inr (Or.inl ⟨rfl, Or.inl rfl⟩)) ?_)
      have e2 : u.2 = σ.2 := by rw [eu]
      have eI : ∀ h y, ¬ (h = b ∧ (y = 2 ∨ y = 3)) → u.1 h y = σ.1 h y := by
        intro h y c2
        rw [eu]
        show mjIu (mjIu σ.1 b 2 0) b 3 1 h y = _
        rw [mjIu_at, if_neg (fun z => c2 ⟨z.1, Or.inr z.2⟩), mjIu_at, if_neg (fun z => c2 ⟨z.1, Or.inl z.2⟩)]
      have e22 : u.1 b 2 = 0 := by
        rw [eu]; show mjIu (mjIu σ.1 b 2 0) b 3 1 b 2 = _
        rw [mjIu_at, if_neg (fun z => absurd z.2 (by decide)), mjIu_at, if_pos ⟨rfl, rfl⟩]
      have hx : kEx σ u := by rw [eu]; exact kEx_i
      have hF : u.2.2.1 = σ.2.2.1 := congrArg (fun t => t.2.1) e2
      have hD : u.2.2.2.1 = σ.2.2.2.1 := congrArg (fun t => t.2.2.1) e2
      have hcz : u.2.2.2.2.2.1 = σ.2.2.2.2.2.1 ∧ u.2.2.2.2.2.2 = σ.2.2.2.2.2.2 := ⟨congrArg (fun t => t.2.2.2.2.1) e2, congrArg (fun t => t.2.2.2.2.2) e2⟩
      refine Or.inl ⟨rfl, Or.inr hgt, ow.same (fun p _ => by rw [hF]), POT_PO.mpr (po.same (b := b) (by unfold ksz; rw [e22]; exact Nat.zero_le _) (fun p hp => kl_eq ty hx hp (by rw [hF])) (fun b' _ c2 => eI b' 2 (fun z => c2 z.1)) (eI 59 6 (fun z => h59 z.1)) hcz), ?_, e2, fun h y c2 => eI h y (fun z => c2 z.1), [], r, N, ?_⟩
      · refine ⟨hx, fun h y g1 g2 g3 => ⟨eI h y (fun z => g3 ?_), by rw [e2], by rw [hF]⟩, fun g g1 g2 g3 => ⟨?_, by rw [e2], by rw [hF]⟩, fun p _ g hg => Or.inl (by rw [hF])⟩
        · rcases z.2 with z2 | z2
          · rw [z.1, z2]; exact List.mem_cons_self
          · rw [z.1, z2]; exact List.mem_cons_of_mem _ List.mem_cons_self
        · funext y; exact eI g y (fun z => by rw [z.1] at g1; omega)
      · refine ⟨by rw [hF]; exact h1, by rw [hD]; exact h2, ⟨h3, h3'⟩, (eI b 0 (fun z => by omega)).trans h4, e22, Nat.zero_le _, rfl⟩
    exact go _ ty2 rfl
  refine kjZ_y rfl rfl 2 _ _ _ _ ty ?_
  refine And.intro (fun c2 => ?_) (fun c2 => ?_)
  · exact absurd c2 (by rw [ex]; exact nI_n0 (by omega))
  have e12 : σ.1 b 0 - σ.1 b 2 = nI (kMo b) - nI l.length := by rw [h4, h5]
  refine kjZ_y rfl rfl 7 _ _ _ _ ty ?_
  refine (And.intro (by assumption) (And.intro (by assumption) (And.intro (fun c3 => ?_) (fun c3 => ?_))))
  rotate_left
  · refine bad ?_
    have c3 : ¬ x ≤ σ.1 b 0 - σ.1 b 2 := c3
    rw [e12, ex] at c3
    have c4 := Int32.not_le.mp c3
    have c5 := Int32.lt_iff_toInt_lt.mp c4
    rw [nI_toInt (by omega), nI_sub_toInt (by omega) (by omega)] at c5
    omega
  have c3 : x ≤ σ.1 b 0 - σ.1 b 2 := c3
  rw [e12, ex] at c3
  have c5 := Int32.le_iff_toInt_le.mp c3
  rw [nI_toInt (by omega), nI_sub_toInt (by omega) (by omega)] at c5
  have hfit : l.length + k ≤ kMo b := by omega
  have en : σ.1 b 2 + x = nI (l.length + k) := by rw [h5, ex, nI_add]
  have elen : nI (σ.2.2.2.1 r).2 = nI N := by rw [h2]
  refine kjZ_y rfl rfl 10 _ _ _ _ ty ?_
  refine (And.intro (by assumption) (And.intro (Nat.le_of_ble_eq_true rfl) (And.intro (by assumption) (Exists.intro _ (And.intro h1 (Or.inl (And.intro (kdq h2) (And.intro (fun c6 => ?_) (fun c6 => ?_)))))))))
  · refine kjZ_y rfl rfl 2 _ _ _ _ ty ?_
    refine And.intro rfl (And.intro (Or.inr (Or.inl ⟨rfl, Or.inr rfl⟩)) ?_)
    have c6 : σ.1 b 2 + x ≤ nI (σ.2.2.2.1 r).2 := c6
    rw [en, elen] at c6
    have c7 := Int32.le_iff_toInt_le.mp c6
    rw [nI_toInt (by omega), nI_toInt (by omega)] at c7
    exact Or.inr ⟨rfl, c, hfit, ow, po, Ch.rf, r, N, ⟨h1, h2, ⟨h3, h3'⟩, h4, h5, h6, h7⟩, by omega⟩
  have c6 : ¬ σ.1 b 2 + x ≤ nI (σ.2.2.2.1 r).2 := c6
  rw [en, elen] at c6
  have c7 := Int32.lt_iff_toInt_lt.mp (Int32.not_le.mp c6)
  rw [nI_toInt (by omega), nI_toInt (by omega)] at c7
  have hNc : N < l.length + k := by omega
  have hcp := hcap c hfit (by omega)
  -- how long the new row is
  have hout : ∀ b ∈ OWb, b ∈ [15, 24, 33, 42] ∨ (2 * kNd b ≤ kMo b ∧ (b ∈ payB ∨ (kcapB b).2 = 2 * (kcapB b).1) ∧ kNd b ≤ 260000) := by decide
  have ho := hout b hb
  have ho2 : ∀ b ∈ [15, 24, 33, 42], kMo b = 65536 ∧ kNd b = 65536 ∧ ¬ b ∈ payB ∧ kcapB b = (65536, 65536) := by decide
  have eM : ∃ M, M = max (l.length + k) (min (kMo b) (2 * N)) := ⟨_, rfl⟩
  obtain ⟨M, eM⟩ := eM
  have hM : l.length + k ≤ M ∧ ((2 * N ≤ M ∧ M ≤ 2 * (l.length + k)) ∨ (M = 65536 ∧ b ∈ [15, 24, 33, 42])) ∧ (b ∈ [15, 24, 33, 42] → M ≤ 65536) := by
    rcases ho with z | ⟨z, -, -⟩
    · obtain ⟨w1, w2, -, -⟩ := ho2 b z
      by_cases q : 2 * N ≤ 65536
      · refine ⟨by omega, Or.inl (by omega), fun _ => by omega⟩
      · refine ⟨by omega, Or.inr ⟨by omega, z⟩, fun _ => by omega⟩
    · refine ⟨by omega, Or.inl (by omega), fun w => ?_⟩
      obtain ⟨w1, w2, -, -⟩ := ho2 b w
      omega
  have hM6 : M ≤ 600000 := by
    rcases ho with z | ⟨-, -, z⟩
    · have := hM.2.2 z; omega
    · rcases hM.2.1 with w | w
      · omega
      · omega
  have po' := po
  have hcapb : b ∈ payB ∨ (l.length + k ≤ (kcapB b).1 ∧ ((kcapB b).2 = 2 * (kcapB b).1 ∨ (b ∈ [15, 24, 33, 42] ∧ M ≤ 65536))) := by
    unfold kNd at hcp
    by_cases q : b ∈ payB
    · exact Or.inl q
    · rw [if_neg q] at hcp
      refine Or.inr ⟨hcp, ?_⟩
      rcases ho with z | ⟨-, z, -⟩
      · exact Or.inr ⟨z, hM.2.2 z⟩
      · exact Or.inl (z.resolve_left q)
  -- it is paid
  have hpay : M ≤ σ.2.2.2.2.2.2 ∧ 1 ≤ σ.2.2.2.2.2.1 := by
    have hsum : phiB b (kl σ (b, 1)) (l.length + k) ≤ potB σ (csU σ b (l.length + k)) := by
      have e := mem_sum (f := fun b' => phiB b' (kl σ (b', 1)) (csU σ b (l.length + k) b')) hb
      have e2 : csU σ b (l.length + k) b = l.length + k := if_pos rfl
      rw [e2] at e; exact e
    have hphi : M ≤ phiB b (kl σ (b, 1)) (l.length + k) := by
      rw [hkl]
      unfold phiB
      by_cases q : b ∈ payB
      · rw [if_pos q]
        rcases hM.2.1 with w | w
        · omega
        · exact absurd q (ho2 b w.2).2.2.1
      · rw [if_neg q]
        rcases hcapb with z | ⟨z, z2⟩
        · exact absurd z q
        · unfold kphi
          rw [if_neg (by omega)]
          rcases z2 with z2 | ⟨z2, z3⟩
          · rcases hM.2.1 with w | w
            · omega
            · rw [(ho2 b w.2).2.2.2] at z2; exact absurd z2 (by decide)
          · rw [(ho2 b z2).2.2.2] at z ⊢; show M ≤ 2 * 65536 + 65536 - 2 * N; omega
    obtain ⟨p1, p2⟩ := po
    have g1 : 1 ≤ gcs σ := gcs_1 (p := (b, 1)) (List.mem_append_left _ (List.mem_map.mpr ⟨b, hb, rfl⟩)) (by rw [hkl]; omega)
    constructor
    · omega
    · omega
  refine kjZ_y rfl rfl 12 _ _ _ _ ty ?_
  refine (And.intro (by assumption) (Exists.intro _ (And.intro h1 (And.intro (by assumption) (And.intro (by assumption) (Exists.intro _ (And.intro h1 (Or.inl (And.intro (kdq h2) (And.intro (Nat.le_of_ble_eq_true rfl) (And.intro (Nat.le_of_ble_eq_true rfl) (And.intro (Nat.le_of_ble_eq_true rfl) (kjY_mono ty (fun q_ u1 ty1 xu1 h_ => ?_) (k_min ty _ _))))))))))))))
  obtain ⟨rfl, rfl⟩ := h_
  intro _ _
  have ey : (if Int32.ofInt 2 * nI (u1.2.2.2.1 r).2 < u1.1 b 0 then Int32.ofInt 2 * nI (u1.2.2.2.1 r).2 else u1.1 b 0) = nI (min (kMo b) (2 * N)) := by
    rw [h2, h4, nI_2]
    by_cases q : 2 * N < kMo b
    · rw [if_pos (nI_lt q (by omega)), show min (kMo b) (2 * N) = 2 * N by omega]
    · rw [if_neg (Int32.not_lt.mpr (nI_le (by omega) (by omega))), show min (kMo b) (2 * N) = kMo b by omega]
  refine kjZ_y rfl rfl 1 _ _ _ _ ty1 ?_
  refine (And.intro (Nat.le_of_ble_eq_true rfl) (And.intro (Nat.le_of_ble_eq_true rfl) (And.intro (Nat.le_of_ble_eq_true rfl) (kjY_mono ty1 (fun q_ u2 ty2 xu2 h_ => ?_) (k_max ty1 _ _)))))
  obtain ⟨rfl, rfl⟩ := h_
  intro _ _
  have ez : (if u2.1 b 2 + x < (if Int32.ofInt 2 * nI (u2.2.2.2.1 r).2 < u2.1 b 0 then Int32.ofInt 2 * nI (u2.2.2.2.1 r).2 else u2.1 b 0) then (if Int32.ofInt 2 * nI (u2.2.2.2.1 r).2 < u2.1 b 0 then Int32.ofInt 2 * nI (u2.2.2.2.1 r).2 else u2.1 b 0) else u2.1 b 2 + x) = nI M := by
    rw [ey, en]
    by_cases q : l.length + k < min (kMo b) (2 * N)
    · rw [if_pos (nI_lt q (by omega)), eM]; congr 1; omega
    · rw [if_neg (Int32.not_lt.mpr (nI_le (by omega) (by omega))), eM]; congr 1; omega
  refine kjZ_y rfl rfl 1 _ _ _ _ ty2 ?_
  refine (And.intro (Nat.le_of_ble_eq_true rfl) (And.intro (Nat.le_of_ble_eq_true rfl) (And.intro (Nat.le_of_ble_eq_true rfl) (kjY_mono ty2 (fun q_ u3 ty3 xu3 h_ => ?_) (k_copyB ty2 r N M h2 _ ez (by omega) (by omega) hpay.2 hpay.1)))))
  obtain ⟨rfl, eu⟩ := h_
  intro _ _
  have kb3 : (u3.2.2.2.1 b).1 = 0 := xu3.k ty2 kb (by decide)
  have kn3 : (u3.2.2.2.1 u2.2.2.2.2.1).1 = 21 := by rw [eu]; show (kUp u2.2.2.2.1 u2.2.2.2.2.1 (21, M) u2.2.2.2.2.1).1 = 21; rw [kUp_s]
  refine kjZ_y rfl rfl 1 _ _ _ _ ty3 ?_
  refine (And.intro (by assumption) (And.intro (Or.inl ⟨rfl, by assumption⟩) (fun ty3' => ?_)))
  have ty4 := ty3'
  have hbn : b < u2.2.2.2.2.1 := ty2.lt (by rw [kb]; decide)
  have hrn : r < u2.2.2.2.2.1 := ty2.lr h2 (by decide)
  have go : ∀ u, kTY u → u = (u3.1, u3.2.1, kFu u3.2.2.1 b 1 (some u2.2.2.2.2.1), u3.2.2.2) → kjY kPP (kQQ Y) (d + 3) 41 47 [some (.ref b), some (.int x), some (.int (u2.1 b 2 + x))] [] u (rmP u2 b l k) := by
    intro u tu e9
    refine kjZ_y rfl rfl 2 _ _ _ _ tu ?_
    refine And.intro rfl (And.intro (Or.inr (Or.inl ⟨rfl, Or.inr rfl⟩)) ?_)
    have eF : ∀ h y, ¬ (h = b ∧ y = 1) → h < u2.2.2.2.2.1 → u.2.2.1 h y = u2.2.2.1 h y := by
      intro h y q1 q2
      rw [e9]; show kFu u3.2.2.1 b 1 (some u2.2.2.2.2.1) h y = _
      rw [kFu_at, if_neg q1, eu]; show kUp u2.2.2.1 u2.2.2.2.2.1 (fun _ => none) h y = _
      rw [kUp_n (by omega)]
    have eF1 : u.2.2.1 b 1 = some u2.2.2.2.2.1 := by rw [e9]; show kFu u3.2.2.1 b 1 (some u2.2.2.2.2.1) b 1 = _; rw [kFu_at, if_pos ⟨rfl, rfl⟩]
    have eI : ∀ h, h < u2.2.2.2.2.1 → u.1 h = u2.1 h := by
      intro h q
      rw [e9]; show u3.1 h = _
      rw [eu]; show kUp (kNew u2 21 M).1 u2.2.2.2.2.1 _ h = _
      rw [kUp_n (by omega)]; show kUp u2.1 u2.2.2.2.2.1 (fun _ => 0) h = _
      rw [kUp_n (by omega)]
    have eL : ∀ h, h < u2.2.2.2.2.1 → u.2.1 h = u2.2.1 h := by
      intro h q
      rw [e9]; show u3.2.1 h = _
      rw [eu]; show kUp u2.2.1 u2.2.2.2.2.1 (fun _ => 0) h = _
      rw [kUp_n (by omega)]
    have eD : ∀ h, h < u2.2.2.2.2.1 → u.2.2.2.1 h = u2.2.2.2.1 h := by
      intro h q
      rw [e9]; show u3.2.2.2.1 h = _
      exact xu3.2.1 h q
    have eDn : u.2.2.2.1 u2.2.2.2.2.1 = (21, M) := by rw [e9]; show u3.2.2.2.1 u2.2.2.2.2.1 = _; rw [eu]; show kUp u2.2.2.2.1 u2.2.2.2.2.1 (21, M) u2.2.2.2.2.1 = _; rw [kUp_s]
    have hx : kEx u2 u := by rw [e9]; exact xu3.tr kEx_f
    have ecz : u.2.2.2.2.2.1 + 1 = u2.2.2.2.2.2.1 ∧ u.2.2.2.2.2.2 + M = u2.2.2.2.2.2.2 := by
      rw [e9]; show u3.2.2.2.2.2.1 + 1 = _ ∧ u3.2.2.2.2.2.2 + M = _
      rw [eu]; show u2.2.2.2.2.2.1 - 1 + 1 = _ ∧ u2.2.2.2.2.2.2 - M + M = _
      omega
    have p76 : ∀ {p : Nat × Nat}, p ∈ OWs → p.1 < u2.2.2.2.2.1 := fun {p} hp => by
      have q : ∀ p ∈ OWs, p.1 < 76 := by decide
      have := q p hp; have := ty2.2.2.2.1; omega
    have eFo : ∀ p ∈ OWs, ¬ p = (b, 1) → u.2.2.1 p.1 p.2 = u2.2.2.1 p.1 p.2 := fun p hp q => eF p.1 p.2 (fun z => q (Prod.ext z.1 z.2)) (p76 hp)
    have t76 := ty2.2.2.2.1
    refine Or.inr ⟨rfl, c, hfit, OWN.new (p0 := (b, 1)) (g0 := u2.2.2.2.2.1) ty2 ow eFo eF1 (Nat.le_refl _), ?_, ?_, u2.2.2.2.2.1, M, ?_, hM.1⟩
    · refine po.grow hb (by rw [hkl]; exact hNc) ⟨hM.1, by omega, by rw [hkl]; exact hM.2.1⟩ hcapb hM6 ?_ (fun p hp q => kl_eq ty2 hx hp (eFo p hp q)) (fun b' hb' _ => by rw [eI b' (p76 (ow_b hb'))]) (by rw [eI 59 (by omega)]) ecz
      unfold kl; rw [eF1]; show (u.2.2.2.1 u2.2.2.2.2.1).2 = M; rw [eDn]
    · refine ⟨hx, fun h y g1 g2 g3 => ?_, fun g g1 g2 g3 => ?_, fun p hp g hg => ?_⟩
      · have hl := ty2.lt (h := h) (by omega)
        refine ⟨by rw [eI h hl], by rw [eL h hl], eF h y (fun z => g3 ?_) hl⟩
        rw [z.1, z.2]; exact List.mem_cons_self
      · have hl := ty2.lt (h := g) (by omega)
        refine ⟨eI g hl, eL g hl, funext fun y => eF g y (fun z => ?_) hl⟩
        rw [z.1] at g1; omega
      · by_cases q : p = (b, 1)
        · rw [q] at hg ⊢
          have hg : u.2.2.1 b 1 = some g := hg
          rw [eF1] at hg; cases hg
          exact Or.inr (Or.inl (Nat.le_refl _))
        · exact Or.inl (eFo p hp q)
    · refine ⟨eF1, eDn, ⟨by omega, hM6⟩, by rw [eI b hbn]; exact h4, by rw [eI b hbn]; exact h5, by omega, ?_⟩
      refine Eq.trans (wd_congr fun j hj => ?_) h7
      rw [e9]; show u3.1 u2.2.2.2.2.1 (0 + j) = _
      rw [eu]; show kUp (kNew u2 21 M).1 u2.2.2.2.2.1 (va_cpy ((kNew u2 21 M).1 r) ((kNew u2 21 M).1 u2.2.2.2.2.1) 0 0 N) u2.2.2.2.2.1 (0 + j) = _
      rw [kUp_s, pk_cpy_in (by omega) (by omega)]
      show kUp u2.1 u2.2.2.2.2.1 (fun _ => 0) r (0 + (0 + j - 0)) = _
      rw [kUp_n (by omega)]; exact congrArg (u2.1 r) (by omega)
  exact go _ ty4 rfl
end KROOM
