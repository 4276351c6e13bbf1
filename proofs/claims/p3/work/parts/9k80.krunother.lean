/-! The other commands run. -/
section KRUNOTHER
variable {Y : Nat → MethodName × ByteArray} {d : Nat} {σ u : kS} {B ws nm nm' : List (List Int32)} {ks ks' : List KC}
theorem kx_runOther0 (ty : kTY σ) (g : KO B σ ws nm ks) (j : Nat) (hj : j < 105) : kjY kPP (kQQ Y) d 36 0 (mjL0 3 [.ref 0, .ref (1000000 + j), .null]) [] σ (otP B σ ws nm ks) := by
  have kj : kCm (1000000 + j) := ⟨j, hj, rfl⟩
  refine kjZ_y rfl rfl 3 _ _ _ _ ty ?_
  refine And.intro rfl (And.intro rfl ?_)
  exact ⟨rfl, nm, PRE.rf, g, SCl.rf, Cq.rf⟩
theorem kx_runOther00 (ty : kTY σ) (j : Nat) (hj : j < 105) : kjY kPP (kQQ Y) d 36 0 (mjL0 3 [.ref 0, .ref (1000000 + j), .null]) [] σ (fun r u => r = none ∧ u = σ) := by
  have kj : kCm (1000000 + j) := ⟨j, hj, rfl⟩
  refine kjZ_y rfl rfl 3 _ _ _ _ ty ?_
  refine And.intro rfl (And.intro rfl ?_)
  exact ⟨rfl, rfl⟩
theorem kx_runOther (ty : kTY σ) (g : KO B σ ws nm ks) (hb : BLJ σ) (hB : BOK B ws) (hl : 1 ≤ ws.length) {c j : Nat} (hc : c ∈ CNs) (hj : j < 105) (hpub : j = 54 → 2 ≤ ws.length) : kjY kPP (kQQ Y) (d + 10) 36 0 (mjL0 3 [.ref 0, .ref (1000000 + j), .ref c]) [] σ (otP B σ ws nm ks) := by
  obtain ⟨q1, q2, -⟩ := CN_ok c hc
  have kc : (σ.2.2.2.1 c).1 = 1 := ty.k q1 q2
  have kj : kCm (1000000 + j) := ⟨j, hj, rfl⟩
  have e : (nI j).toNatClampNeg = j := nI_clamp (by omega)
  obtain ⟨b, hbn, eb⟩ := g.2.2
  have kb := ob_k ty (ANn_b b (ANb_n b hbn)).1
  obtain ⟨hn, h59⟩ := kSg_3 j hj
  refine kjZ_y rfl rfl 7 _ _ _ _ ty ?_
  refine (Exists.intro _ (And.intro ⟨hj, rfl, by decide, by omega⟩ (Or.inr (Exists.intro _ (Exists.intro _ (And.intro (Or.inr (Or.inl ⟨rfl, rfl, rfl, rfl⟩)) (And.intro (vp_in_nI hj (by decide)) (Exists.intro _ (And.intro rfl ?_)))))))))
  have end90 : ∀ z, otP B σ ws nm ks none z → kTY z → kjY kPP (kQQ Y) (d + 10) 36 90 [some (.ref 0), some (.ref (1000000 + j)), some (.ref c)] [] z (otP B σ ws nm ks) := by
    intro z hz tz
    refine kjZ_y rfl rfl 1 _ _ _ _ tz ?_
    refine And.intro rfl (And.intro rfl ?_)
    exact hz
  have go : ∀ v : Int32, v = (kCmd j).2.2.2.2.2 → kjY kPP (kQQ Y) (d + 10) 36 (kSg 3 v) [some (.ref 0), some (.ref (1000000 + j)), some (.ref c)] [] σ (otP B σ ws nm ks) := by
    intro v ev
    rw [ev]
    generalize kSg 3 (kCmd j).2.2.2.2.2 = n at hn h59
    rcases List.mem_cons.mp hn with rfl | hn
    · -- QUIT
      refine kjZ_y rfl rfl 6 _ _ _ _ ty ?_
      refine (And.intro (ty.k (by decide) rfl) (And.intro (ty.k (by decide) rfl) (Exists.intro _ (And.intro eb (And.intro rfl (And.intro (Nat.le_of_ble_eq_true rfl) (And.intro (Or.inl ⟨(Nat.le_of_ble_eq_true rfl), (by assumption)⟩) (And.intro (Nat.le_of_ble_eq_true rfl) (And.intro (Nat.le_of_ble_eq_true rfl) (kjY_mono ty (fun q_ z3 t3 xx3 h_ => ?_) (kx_line ty (g.in_ ty) hbn _ (by decide))))))))))))
      have e6 := h_
      intro _ _
      obtain ⟨rfl, g4, a4, b4⟩ := g.wq ty e6
      have kz3 : (z3.2.2.2.1 c).1 = 1 := t3.k q1 q2
      refine kjZ_y rfl rfl 2 _ _ _ _ t3 ?_
      refine (And.intro (Nat.le_of_ble_eq_true rfl) (And.intro (Or.inl ⟨(Nat.le_of_ble_eq_true rfl), (by assumption)⟩) (And.intro (Nat.le_of_ble_eq_true rfl) (And.intro (Nat.le_of_ble_eq_true rfl) (kjY_mono t3 (fun q_ z7 t7 xx7 h_ => ?_) (kO_close t3 g4 (hb.frq ty b4) hc))))))
      obtain ⟨rfl, nm3, p3, g8, a8, b8⟩ := h_
      intro _ _
      refine kjZ_y rfl rfl 2 _ _ _ _ t7 ?_
      refine And.intro rfl (And.intro rfl ?_)
      exact ⟨rfl, nm3, p3, g8, a4.tr a8, Cq.tr ty b4 b8⟩
    rcases List.mem_cons.mp hn with rfl | hn
    · refine kjZ_y rfl rfl 6 _ _ _ _ ty ?_
      refine (And.intro (ty.k (by decide) rfl) (And.intro (ty.k (by decide) rfl) (And.intro (Nat.le_of_ble_eq_true rfl) (And.intro (Or.inl ⟨(Nat.le_of_ble_eq_true rfl), (by assumption)⟩) (And.intro (Nat.le_of_ble_eq_true rfl) (And.intro (Nat.le_of_ble_eq_true rfl) (kjY_mono ty (fun q_ z3 t3 xx3 h_ => ?_) (kx_sub (d := d + 1) ty g hB hl hc))))))))
      have q3 := h_
      intro _ _
      obtain ⟨rfl, -⟩ := id q3
      refine kjZ_y rfl rfl 2 _ _ _ _ t3 ?_
      refine And.intro rfl (And.intro rfl ?_)
      exact q3
    rcases List.mem_cons.mp hn with rfl | hn
    · refine kjZ_y rfl rfl 6 _ _ _ _ ty ?_
      refine (And.intro (ty.k (by decide) rfl) (And.intro (ty.k (by decide) rfl) (And.intro (Nat.le_of_ble_eq_true rfl) (And.intro (Or.inl ⟨(Nat.le_of_ble_eq_true rfl), (by assumption)⟩) (And.intro (Nat.le_of_ble_eq_true rfl) (And.intro (Nat.le_of_ble_eq_true rfl) (kjY_mono ty (fun q_ z3 t3 xx3 h_ => ?_) (kx_unsub (d := d + 1) ty g hB hc))))))))
      have q3 := h_
      intro _ _
      obtain ⟨rfl, -⟩ := id q3
      refine kjZ_y rfl rfl 2 _ _ _ _ t3 ?_
      refine And.intro rfl (And.intro rfl ?_)
      exact q3
    rcases List.mem_cons.mp hn with rfl | hn
    · refine kjZ_y rfl rfl 5 _ _ _ _ ty ?_
      refine (And.intro (ty.k (by decide) rfl) (And.intro (ty.k (by decide) rfl) (And.intro (fun c1 => ?_) (fun c1 => ?_))))
      · refine kjZ_y rfl rfl 6 _ _ _ _ ty ?_
        refine (And.intro (ty.k (by decide) rfl) (And.intro (ty.k (by decide) rfl) (Exists.intro _ (And.intro eb (And.intro rfl (And.intro (Nat.le_of_ble_eq_true rfl) (And.intro (Or.inl ⟨(Nat.le_of_ble_eq_true rfl), (by assumption)⟩) (And.intro (Nat.le_of_ble_eq_true rfl) (And.intro (Nat.le_of_ble_eq_true rfl) (kjY_mono ty (fun q_ z3 t3 xx3 h_ => ?_) (kx_line ty (g.in_ ty) hbn _ (by decide))))))))))))
        have e6 := h_
        intro _ _
        obtain ⟨rfl, g4, a4, b4⟩ := g.wq ty e6
        refine kjZ_y rfl rfl 2 _ _ _ _ t3 ?_
        refine And.intro rfl (And.intro rfl ?_)
        exact ⟨rfl, nm, PRE.rf, g4, a4, b4⟩
      · refine kjZ_y rfl rfl 7 _ _ _ _ ty ?_
        refine (And.intro (ty.k (by decide) rfl) (And.intro (ty.k (by decide) rfl) (And.intro (ty.k (by decide) rfl) (Exists.intro _ (And.intro eb (And.intro (Nat.le_of_ble_eq_true rfl) (And.intro (Or.inl ⟨(Nat.le_of_ble_eq_true rfl), (ty.k (by decide) rfl)⟩) (And.intro (Nat.le_of_ble_eq_true rfl) (And.intro (Nat.le_of_ble_eq_true rfl) (kjY_mono ty (fun q_ z3 t3 xx3 h_ => ?_) (kx_copyArg ty (g.in_ ty) hbn _)))))))))))
        have e6 := h_
        intro _ _
        obtain ⟨rfl, g4, a4, b4⟩ := g.wq ty e6
        refine kjZ_y rfl rfl 2 _ _ _ _ t3 ?_
        refine And.intro rfl (And.intro rfl ?_)
        exact ⟨rfl, nm, PRE.rf, g4, a4, b4⟩
    rcases List.mem_cons.mp hn with rfl | hn
    · refine kjZ_y rfl rfl 7 _ _ _ _ ty ?_
      refine (And.intro (ty.k (by decide) rfl) (And.intro (ty.k (by decide) rfl) (And.intro (ty.k (by decide) rfl) (Exists.intro _ (And.intro eb (And.intro (Nat.le_of_ble_eq_true rfl) (And.intro (Or.inl ⟨(Nat.le_of_ble_eq_true rfl), (ty.k (by decide) rfl)⟩) (And.intro (Nat.le_of_ble_eq_true rfl) (And.intro (Nat.le_of_ble_eq_true rfl) (kjY_mono ty (fun q_ z3 t3 xx3 h_ => ?_) (kx_copyArg ty (g.in_ ty) hbn _)))))))))))
      have e6 := h_
      intro _ _
      obtain ⟨rfl, g4, a4, b4⟩ := g.wq ty e6
      refine kjZ_y rfl rfl 2 _ _ _ _ t3 ?_
      refine And.intro rfl (And.intro rfl ?_)
      exact ⟨rfl, nm, PRE.rf, g4, a4, b4⟩
    rcases List.mem_cons.mp hn with rfl | hn
    · have hl2 := hpub (h59 rfl)
      refine kjZ_y rfl rfl 2 _ _ _ _ ty ?_
      refine (And.intro (Nat.le_of_ble_eq_true rfl) (And.intro (Or.inl ⟨(Nat.le_of_ble_eq_true rfl), (ty.k (by decide) rfl)⟩) (And.intro (Nat.le_of_ble_eq_true rfl) (And.intro (Nat.le_of_ble_eq_true rfl) (kjY_mono ty (fun q_ z3 t3 xx3 h_ => ?_) (kx_publish (d := d + 1) ty g hb hB (List.getElem?_eq_getElem (show 1 < ws.length by omega))))))))
      have q3 := h_
      intro _ _
      obtain ⟨rfl, -⟩ := id q3
      refine kjZ_y rfl rfl 2 _ _ _ _ t3 ?_
      refine And.intro rfl (And.intro rfl ?_)
      exact q3
    rcases List.mem_cons.mp hn with rfl | hn
    · -- TIME
      refine kjZ_y rfl rfl 5 _ _ _ _ ty ?_
      refine (And.intro (ty.k (by decide) rfl) (And.intro (ty.k (by decide) rfl) (Exists.intro _ (And.intro eb (And.intro (Nat.le_of_ble_eq_true rfl) (And.intro (Or.inl ⟨(Nat.le_of_ble_eq_true rfl), (by assumption)⟩) (And.intro (Nat.le_of_ble_eq_true rfl) (And.intro (Nat.le_of_ble_eq_true rfl) (kjY_mono ty (fun q_ z3 t3 xx3 h_ => ?_) (kx_rowHead ty (g.in_ ty) hbn _))))))))))
      have e6 := h_
      intro _ _
      obtain ⟨rfl, g4, a4, b4⟩ := g.wq ty e6
      have kz3 : (z3.2.2.2.1 c).1 = 1 := t3.k q1 q2
      obtain ⟨b', hbn', eb'⟩ := g4.2.2
      have kb' := ob_k t3 (ANn_b b' (ANb_n b' hbn')).1
      refine kjZ_y rfl rfl 9 _ _ _ _ t3 ?_
      refine (And.intro (t3.k (by decide) rfl) (And.intro (t3.k (by decide) rfl) (Exists.intro _ (And.intro eb' (And.intro (t3.k (by decide) rfl) (And.intro (t3.k (by decide) rfl) (And.intro (by decide) (And.intro (Nat.le_of_ble_eq_true rfl) (And.intro (Or.inl ⟨(Nat.le_of_ble_eq_true rfl), (by assumption)⟩) (And.intro (Nat.le_of_ble_eq_true rfl) (And.intro (Nat.le_of_ble_eq_true rfl) (kjY_mono t3 (fun q_ z4 t4 xx4 h_ => ?_) (kx_numberWord t3 (g4.in_ t3) hbn' _)))))))))))))
      have e7 := h_
      intro _ _
      obtain ⟨rfl, g5, a5, b5⟩ := g4.wq t3 e7
      have kz4 : (z4.2.2.2.1 c).1 = 1 := t4.k q1 q2
      obtain ⟨b'', hbn'', eb''⟩ := g5.2.2
      have kb'' := ob_k t4 (ANn_b b'' (ANb_n b'' hbn'')).1
      refine kjZ_y rfl rfl 9 _ _ _ _ t4 ?_
      refine (And.intro (t4.k (by decide) rfl) (And.intro (t4.k (by decide) rfl) (Exists.intro _ (And.intro eb'' (And.intro (t4.k (by decide) rfl) (And.intro (t4.k (by decide) rfl) (And.intro (by decide) (And.intro (Nat.le_of_ble_eq_true rfl) (And.intro (Or.inl ⟨(Nat.le_of_ble_eq_true rfl), (by assumption)⟩) (And.intro (Nat.le_of_ble_eq_true rfl) (And.intro (Nat.le_of_ble_eq_true rfl) (kjY_mono t4 (fun q_ z5 t5 xx5 h_ => ?_) (kx_numberWord t4 (g5.in_ t4) hbn'' _)))))))))))))
      have e8 := h_
      intro _ _
      obtain ⟨rfl, g6, a6, b6⟩ := g5.wq t4 e8
      refine kjZ_y rfl rfl 2 _ _ _ _ t5 ?_
      refine And.intro rfl (And.intro rfl ?_)
      exact ⟨rfl, nm, PRE.rf, g6, (a4.tr a5).tr a6, Cq.tr ty (Cq.tr ty b4 b5) b6⟩
    · obtain rfl := List.mem_singleton.mp hn
      refine kjZ_y rfl rfl 4 _ _ _ _ ty ?_
      refine (And.intro (Nat.le_of_ble_eq_true rfl) (And.intro (Or.inl ⟨(Nat.le_of_ble_eq_true rfl), (ty.k (by decide) rfl)⟩) (And.intro (Nat.le_of_ble_eq_true rfl) (And.intro (Nat.le_of_ble_eq_true rfl) (kjY_mono ty (fun q_ z3 t3 xx3 h_ => ?_) (kx_blockWord (d := d) ty g hb hB hl hc hj))))))
      have q3 := h_
      intro _ _
      obtain ⟨rfl, -⟩ := id q3
      refine kjZ_y rfl rfl 1 _ _ _ _ t3 ?_
      refine And.intro rfl (And.intro rfl ?_)
      exact q3
  exact go _ (by rw [e])
end KRUNOTHER
