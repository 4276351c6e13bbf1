/-! Bounds, and the options of ranges. -/
section ORANGE
variable {Y : Nat → MethodName × ByteArray} {d : Nat}
def bsF (v w : List Int32) : Option (Int64 × Int64 × Int32) := (bdF v true 0).bind (fun p => (bdF w false p.2).map (fun q => (p.1, q.1, q.2)))
abbrev bsFs : List Nat := [f_num, f_lowScore, f_highScore, f_noScore, f_answerSize, f_tooLong, f_digitsSize]
set_option maxRecDepth 100000 in
theorem c_bounds23 {σ : mjS} {ws : List (List Int32)} {ks : List KR} {l : List Int32} (h : Wd σ ws ks l) (ty : mjTY σ) {v w : List Int32} (hv : ws[2]? = some v) (hw : ws[3]? = some w) (hn : σ.1 f_noScore = 0) : mjY mjPP (mjQQ Y) (d + 5) 63 0 (mjL0 5 [.ref 0, .int (Int32.ofInt 2), .int (Int32.ofInt 3)]) [] σ (fun r u => r = some (.int (bI (bsF v w).isSome)) ∧ Fr bsFs oH σ u ∧ Wd u ws ks l ∧ ∀ q, bsF v w = some q → u.2.1 f_lowScore = q.1 ∧ u.2.1 f_highScore = q.2.1 ∧ u.1 f_noScore = q.2.2) := by
  have bad : bsF v w = none → ∀ (u : mjS) (l3 l4 : Option Value), mjTY u → Fr bsFs oH σ u → Wd u ws ks l → mjY mjPP (mjQQ Y) (d + 5) 63 36 [some (.ref 0), some (.int (Int32.ofInt 2)), some (.int (Int32.ofInt 3)), l3, l4] [] u (fun r u => r = some (.int (bI (bsF v w).isSome)) ∧ Fr bsFs oH σ u ∧ Wd u ws ks l ∧ ∀ q, bsF v w = some q → u.2.1 f_lowScore = q.1 ∧ u.2.1 f_highScore = q.2.1 ∧ u.1 f_noScore = q.2.2) := by
    intro e u l3 l4 tu fu hu
    rw [e]
    refine mjZ_y rfl rfl 4 _ _ _ _ tu ?_
    refine (And.intro (Nat.le_of_ble_eq_true rfl) (And.intro rfl (And.intro (Nat.le_of_ble_eq_true rfl) (And.intro (Nat.le_of_ble_eq_true rfl) (mjY_mono tu (fun q_ u2 ty2 h_ => ?_) (w_error hu tu _ _))))))
    obtain ⟨rfl, h2, f2⟩ := h_
    intro _
    refine mjZ_y rfl rfl 1 _ _ _ _ ty2 ?_
    refine And.intro rfl (And.intro (Or.inr ⟨rfl, Or.inl rfl⟩) ?_)
    exact ⟨rfl, fu.tr (f2.1.up (by decide) (by decide)), h2, fun q y => by cases y⟩
  refine mjZ_y rfl rfl 20 _ _ _ _ ty ?_
  refine (bk_f rfl (And.intro (Nat.le_of_ble_eq_true rfl) (bk_f rfl (And.intro (Nat.le_of_ble_eq_true rfl) (bk_f rfl (And.intro (Nat.le_of_ble_eq_true rfl) (And.intro rfl (And.intro (Nat.le_of_ble_eq_true rfl) (And.intro (Nat.le_of_ble_eq_true rfl) (mjY_mono ty (fun q_ u2 ty2 h_ => ?_) (c_bound_1 h ty hv (x := Int32.ofInt 2) rfl)))))))))))
  obtain ⟨rfl, f2, q2⟩ := h_
  intro _
  have h2 := h.fr f2 (by decide) (by decide)
  have f2s : Fr bsFs oH σ u2 := f2.up (by decide) (by decide)
  rw [hn] at q2 ⊢
  cases hb : bdF v true 0 with
  | none =>
    refine mjZ_y rfl rfl 1 _ _ _ _ ty2 ?_
    refine And.intro (fun c => ?_) (fun c => ?_)
    · exact bad (by unfold bsF; rw [hb]; rfl) u2 _ _ ty2 f2s h2
    · exact absurd (show (0 : Int32) = 0 from rfl) c
  | some p =>
    obtain ⟨p1, p2, -⟩ := q2 p hb
    refine mjZ_y rfl rfl 1 _ _ _ _ ty2 ?_
    refine And.intro (fun c => ?_) (fun c => ?_)
    · exact absurd (show (1 : Int32) = 0 from c) (by decide)
    · refine mjZ_y rfl rfl 7 _ _ _ _ ty2 ?_
      refine (bk_t rfl (And.intro (Nat.le_of_ble_eq_true rfl) (And.intro rfl (And.intro (Nat.le_of_ble_eq_true rfl) (And.intro (Nat.le_of_ble_eq_true rfl) (mjY_mono ty2 (fun q_ u3 ty3 h_ => ?_) (c_bound_0 h2 ty2 hw (x := Int32.ofInt 3) rfl)))))))
      obtain ⟨rfl, f3, q3⟩ := h_
      intro _
      have h3 := h2.fr f3 (by decide) (by decide)
      have f3s : Fr bsFs oH σ u3 := f2s.tr (f3.up (by decide) (by decide))
      rw [p1] at q3 ⊢
      cases hb2 : bdF w false p.2 with
      | none =>
        refine mjZ_y rfl rfl 1 _ _ _ _ ty3 ?_
        refine And.intro (fun c => ?_) (fun c => ?_)
        · exact bad (by unfold bsF; rw [hb]; show Option.map _ (bdF w false p.2) = none; rw [hb2]; rfl) u3 _ _ ty3 f3s h3
        · exact absurd (show (0 : Int32) = 0 from rfl) c
      | some q =>
        obtain ⟨q1, -, qq⟩ := q3 q hb2
        obtain ⟨qh, ql⟩ := qq rfl
        obtain ⟨pl, -⟩ := p2 rfl
        have e : bsF v w = some (p.1, q.1, q.2) := by unfold bsF; rw [hb]; show Option.map _ (bdF w false p.2) = _; rw [hb2]; rfl
        refine mjZ_y rfl rfl 1 _ _ _ _ ty3 ?_
        refine And.intro (fun c => ?_) (fun c => ?_)
        · exact absurd (show (1 : Int32) = 0 from c) (by decide)
        · refine mjZ_y rfl rfl 2 _ _ _ _ ty3 ?_
          refine And.intro rfl (And.intro (Or.inr ⟨rfl, Or.inr rfl⟩) ?_)
          rw [e]
          refine ⟨rfl, f3s, h3, fun z y => ?_⟩
          rw [← Option.some.inj y]
          exact ⟨ql.trans pl, qh, q1⟩
set_option maxRecDepth 100000 in
theorem c_bounds32 {σ : mjS} {ws : List (List Int32)} {ks : List KR} {l : List Int32} (h : Wd σ ws ks l) (ty : mjTY σ) {v w : List Int32} (hv : ws[2]? = some v) (hw : ws[3]? = some w) : mjY mjPP (mjQQ Y) (d + 5) 63 0 (mjL0 5 [.ref 0, .int (Int32.ofInt 3), .int (Int32.ofInt 2)]) [] σ (fun r u => ∃ b : Bool, r = some (.int (bI b)) ∧ Fr bsFs oH σ u ∧ Wd u ws ks l) := by
  have bad : ∀ (u : mjS) (l3 l4 : Option Value), mjTY u → Fr bsFs oH σ u → Wd u ws ks l → mjY mjPP (mjQQ Y) (d + 5) 63 36 [some (.ref 0), some (.int (Int32.ofInt 3)), some (.int (Int32.ofInt 2)), l3, l4] [] u (fun r u => ∃ b : Bool, r = some (.int (bI b)) ∧ Fr bsFs oH σ u ∧ Wd u ws ks l) := by
    intro u l3 l4 tu fu hu
    refine mjZ_y rfl rfl 4 _ _ _ _ tu ?_
    refine (And.intro (Nat.le_of_ble_eq_true rfl) (And.intro rfl (And.intro (Nat.le_of_ble_eq_true rfl) (And.intro (Nat.le_of_ble_eq_true rfl) (mjY_mono tu (fun q_ u2 ty2 h_ => ?_) (w_error hu tu _ _))))))
    obtain ⟨rfl, h2, f2⟩ := h_
    intro _
    refine mjZ_y rfl rfl 1 _ _ _ _ ty2 ?_
    refine And.intro rfl (And.intro (Or.inr ⟨rfl, Or.inl rfl⟩) ?_)
    exact ⟨false, rfl, fu.tr (f2.1.up (by decide) (by decide)), h2⟩
  refine mjZ_y rfl rfl 17 _ _ _ _ ty ?_
  refine (bk_t rfl (And.intro (Nat.le_of_ble_eq_true rfl) (bk_t rfl (And.intro (Nat.le_of_ble_eq_true rfl) (bk_t rfl (And.intro (Nat.le_of_ble_eq_true rfl) (And.intro rfl (And.intro (Nat.le_of_ble_eq_true rfl) (And.intro (Nat.le_of_ble_eq_true rfl) (mjY_mono ty (fun q_ u2 ty2 h_ => ?_) (c_bound_0 h ty hv (x := Int32.ofInt 2) rfl)))))))))))
  obtain ⟨rfl, f2, q2⟩ := h_
  intro _
  have h2 := h.fr f2 (by decide) (by decide)
  have f2s : Fr bsFs oH σ u2 := f2.up (by decide) (by decide)
  refine mjZ_y rfl rfl 1 _ _ _ _ ty2 ?_
  refine And.intro (fun c => ?_) (fun c => ?_)
  · exact bad u2 _ _ ty2 f2s h2
  · refine mjZ_y rfl rfl 8 _ _ _ _ ty2 ?_
    refine (bk_f rfl (And.intro (Nat.le_of_ble_eq_true rfl) (And.intro rfl (And.intro (Nat.le_of_ble_eq_true rfl) (And.intro (Nat.le_of_ble_eq_true rfl) (mjY_mono ty2 (fun q_ u3 ty3 h_ => ?_) (c_bound_1 h2 ty2 hw (x := Int32.ofInt 3) rfl)))))))
    obtain ⟨rfl, f3, q3⟩ := h_
    intro _
    have h3 := h2.fr f3 (by decide) (by decide)
    have f3s : Fr bsFs oH σ u3 := f2s.tr (f3.up (by decide) (by decide))
    refine mjZ_y rfl rfl 1 _ _ _ _ ty3 ?_
    refine And.intro (fun c => ?_) (fun c => ?_)
    · exact bad u3 _ _ ty3 f3s h3
    · refine mjZ_y rfl rfl 2 _ _ _ _ ty3 ?_
      refine And.intro rfl (And.intro (Or.inr ⟨rfl, Or.inr rfl⟩) ?_)
      exact ⟨true, rfl, f3s, h3⟩
theorem AR_set {σ u : mjS} {ws : List (List Int32)} (h : AR σ ws) (i : Nat) (v : List Int32) (hi : i < ws.length) (e1 : u.1 f_words = σ.1 f_words) (e2 : u.2.2.1 r_req = σ.2.2.1 r_req) (e3 : ∀ j, j ≠ i → u.2.2.1 r_aAt j = σ.2.2.1 r_aAt j ∧ u.2.2.1 r_aLen j = σ.2.2.1 r_aLen j) (a : Nat) (e4 : u.2.2.1 r_aAt i = nI a) (e5 : u.2.2.1 r_aLen i = nI v.length) (e6 : a + v.length ≤ 131200) (e7 : wd (σ.2.2.1 r_req) a v.length = v) : AR u (ws.set i v) := by
  refine ⟨by rw [e1, List.length_set]; exact h.1, by rw [List.length_set]; exact h.2.1, fun j w hw => ?_⟩
  by_cases c : j = i
  · subst c
    rw [List.getElem?_set_self hi] at hw
    rw [← Option.some.inj hw]
    exact ⟨a, e4, e5, e6, by rw [e2]; exact e7⟩
  · rw [List.getElem?_set_ne (fun z => c z.symm)] at hw
    rw [(e3 j c).1, (e3 j c).2, e2]
    exact h.2.2 j w hw
theorem iu5 {A : Nat → Nat → Int32} {T L c : Nat} {p q r s t : Int32} (hTL : T ≠ L) (es : s = A T c) (et : t = A L c) : mjIu (mjIu (mjIu (mjIu (mjIu A L c p) T c q) L c r) T c s) L c t = A := by
  funext g j
  rw [mjIu_at, mjIu_at, mjIu_at, mjIu_at, mjIu_at]
  by_cases c1 : g = L ∧ j = c
  · rw [if_pos c1, c1.1, c1.2]; exact et
  · rw [if_neg c1, if_neg c1, if_neg c1]
    by_cases c2 : g = T ∧ j = c
    · rw [if_pos c2, c2.1, c2.2]; exact es
    · rw [if_neg c2, if_neg c2]
set_option maxRecDepth 100000 in
theorem c_isScores {σ : mjS} {ws : List (List Int32)} {ks : List KR} {l : List Int32} (h : Wd σ ws ks l) (ty : mjTY σ) {i : Nat} {w : List Int32} (hw : ws[i]? = some w) {x : Int32} (ex : x = nI i) : mjY mjPP (mjQQ Y) (d + 2) 66 0 (mjL0 5 [.ref 0, .int x]) [] σ (fun r u => ∃ b : Bool, r = some (.int (bI b)) ∧ u = σ) := by
  have hi := (List.getElem?_eq_some_iff.mp hw).1
  have h1024 := h.2.1.2.1
  subst ex
  obtain ⟨v1, a, ea, el, ha, ew⟩ := h.2.1.clamp hw rfl
  have ci : (nI i).toNatClampNeg = i := nI_clamp (by omega)
  refine mjZ_y rfl rfl 6 _ _ _ _ ty ?_
  refine (And.intro rfl (And.intro rfl (And.intro v1 (And.intro (fun c => ?_) (fun c => ?_)))))
  · have c : w.length = 10 := by
      have c : σ.2.2.1 r_aLen (nI i).toNatClampNeg = nI 10 := c
      rw [el] at c; exact (nI_eq (by omega) (by decide)).mp c
    rw [c] at ha
    have hc1 : ∀ u : mjS, mjTY u → u = (σ.1, σ.2.1, mjIu σ.2.2.1 r_aLen (nI i).toNatClampNeg 8, σ.2.2.2) → mjY mjPP (mjQQ Y) (d + 1) 56 0 (mjL0 7 [.ref 0, .int (nI i), .long 6289651024210906962]) [] u (fun r u' => r = some (.int (isF (w.take 8) 6289651024210906962)) ∧ u' = u) := by
      intro u tu eu
      have e8 : (w.take 8).length = 8 := by rw [List.length_take]; omega
      have er : u.2.2.1 = mjIu σ.2.2.1 r_aLen i 8 := by rw [eu, ci]
      refine c_is (AR_set h.2.1 i (w.take 8) hi (by rw [eu]) (by rw [er, mjIu_ne (by decide)]) (fun j hj => ⟨by rw [er, mjIu_ne (by decide)], by rw [er, mjIu_at, if_neg (fun z => hj z.2)]⟩) a (by rw [er, mjIu_ne (by decide), ← ea, ci]) (by rw [er, mjIu_at, if_pos ⟨rfl, rfl⟩, e8]; rfl) (by rw [e8]; omega) (by rw [e8]; exact (wd_take ew (by omega)).symm)) i (w.take 8) (by rw [List.getElem?_set_self hi]) tu _
    refine mjZ_y rfl rfl 14 _ _ _ _ ty ?_
    refine (And.intro rfl (And.intro rfl (And.intro v1 (And.intro (Nat.le_of_ble_eq_true rfl) (And.intro rfl (And.intro rfl (And.intro v1 (fun ty' => (And.intro (Nat.le_of_ble_eq_true rfl) (And.intro rfl (And.intro (Nat.le_of_ble_eq_true rfl) (And.intro (Nat.le_of_ble_eq_true rfl) (mjY_mono ty' (fun q_ u2 ty2 h_ => ?_) (hc1 _ ty' rfl))))))))))))))
    obtain ⟨rfl, rfl⟩ := h_
    intro _
    have hc2 : ∀ u : mjS, mjTY u → u = (σ.1, σ.2.1, mjIu (mjIu (mjIu σ.2.2.1 r_aLen (nI i).toNatClampNeg 8) r_aAt (nI i).toNatClampNeg (mjIu σ.2.2.1 r_aLen (nI i).toNatClampNeg 8 r_aAt (nI i).toNatClampNeg + 8)) r_aLen (nI i).toNatClampNeg 2, σ.2.2.2) → mjY mjPP (mjQQ Y) (d + 1) 56 0 (mjL0 7 [.ref 0, .int (nI i), .long 17747]) [] u (fun r u' => r = some (.int (isF (w.drop 8) 17747)) ∧ u' = u) := by
      intro u tu eu
      have e8 : (w.drop 8).length = 2 := by rw [List.length_drop]; omega
      have er : u.2.2.1 = mjIu (mjIu (mjIu σ.2.2.1 r_aLen i 8) r_aAt i (σ.2.2.1 r_aAt i + 8)) r_aLen i 2 := by rw [eu, ci, mjIu_ne (a := σ.2.2.1) (h := r_aLen) (g := r_aAt) (by decide)]
      refine c_is (AR_set h.2.1 i (w.drop 8) hi (by rw [eu]) (by rw [er, mjIu_ne (by decide), mjIu_ne (by decide), mjIu_ne (by decide)]) (fun j hj => ⟨by rw [er, mjIu_at, if_neg (fun z => hj z.2), mjIu_at, if_neg (fun z => hj z.2), mjIu_at, if_neg (fun z => hj z.2)], by rw [er, mjIu_at, if_neg (fun z => hj z.2), mjIu_at, if_neg (fun z => hj z.2), mjIu_at, if_neg (fun z => hj z.2)]⟩) (a + 8) ?_ (by rw [er, mjIu_at, if_pos ⟨rfl, rfl⟩, e8]; rfl) (by rw [e8]; omega) ?_) i (w.drop 8) (by rw [List.getElem?_set_self hi]) tu _
      · rw [ci] at ea
        rw [er, mjIu_ne (by decide), mjIu_at, if_pos ⟨rfl, rfl⟩, ea]; exact nI_add a 8
      · have := wd_drop ew (m := 8) (by omega)
        rw [c] at this; rw [e8]; exact this.symm
    refine mjZ_y rfl rfl 18 _ _ _ _ ty2 ?_
    refine (And.intro (Nat.le_of_ble_eq_true rfl) (And.intro rfl (And.intro rfl (And.intro v1 (And.intro rfl (And.intro v1 (fun ty2' => (And.intro rfl (And.intro rfl (And.intro v1 (fun ty2'' => (And.intro (Nat.le_of_ble_eq_true rfl) (And.intro rfl (And.intro (Nat.le_of_ble_eq_true rfl) (And.intro (Nat.le_of_ble_eq_true rfl) (mjY_mono ty2'' (fun q_ u3 ty3 h_ => ?_) (hc2 _ ty2'' rfl)))))))))))))))))
    obtain ⟨rfl, rfl⟩ := h_
    intro _
    have fin : ∀ (u : mjS) (x2 x3 x4 : Int32), mjTY u → u = σ → mjY mjPP (mjQQ Y) (d + 2) 66 54 [some (.ref 0), some (.int (nI i)), some (.int x2), some (.int x3), some (.int x4)] [] u (fun r u => ∃ b : Bool, r = some (.int (bI b)) ∧ u = σ) := by
      intro u x2 x3 x4 tu eu
      refine mjZ_y rfl rfl 2 _ _ _ _ tu ?_
      refine And.intro (fun c => ?_) (fun c => ?_)
      · refine mjZ_y rfl rfl 2 _ _ _ _ tu ?_
        refine And.intro rfl (And.intro (Or.inr ⟨rfl, Or.inl rfl⟩) ?_)
        exact ⟨false, rfl, eu⟩
      · refine mjZ_y rfl rfl 2 _ _ _ _ tu ?_
        refine And.intro (fun c => ?_) (fun c => ?_)
        · refine mjZ_y rfl rfl 2 _ _ _ _ tu ?_
          refine And.intro rfl (And.intro (Or.inr ⟨rfl, Or.inl rfl⟩) ?_)
          exact ⟨false, rfl, eu⟩
        · refine mjZ_y rfl rfl 3 _ _ _ _ tu ?_
          refine And.intro rfl (And.intro (Or.inr ⟨rfl, Or.inr rfl⟩) ?_)
          exact ⟨true, rfl, eu⟩
    refine mjZ_y rfl rfl 14 _ _ _ _ ty3 ?_
    refine (And.intro (Nat.le_of_ble_eq_true rfl) (And.intro rfl (And.intro rfl (And.intro v1 (And.intro rfl (And.intro v1 (fun ty3' => (And.intro rfl (And.intro rfl (And.intro v1 (fun ty3'' => ?_)))))))))))
    refine fin _ _ _ _ ty3'' ?_
    have e5 : mjIu (mjIu (mjIu (mjIu (mjIu σ.2.2.1 r_aLen (nI i).toNatClampNeg 8) r_aAt (nI i).toNatClampNeg (mjIu σ.2.2.1 r_aLen (nI i).toNatClampNeg 8 r_aAt (nI i).toNatClampNeg + 8)) r_aLen (nI i).toNatClampNeg 2) r_aAt (nI i).toNatClampNeg (mjIu (mjIu (mjIu σ.2.2.1 r_aLen (nI i).toNatClampNeg 8) r_aAt (nI i).toNatClampNeg (mjIu σ.2.2.1 r_aLen (nI i).toNatClampNeg 8 r_aAt (nI i).toNatClampNeg + 8)) r_aLen (nI i).toNatClampNeg 2 r_aAt (nI i).toNatClampNeg - 8)) r_aLen (nI i).toNatClampNeg (σ.2.2.1 r_aLen (nI i).toNatClampNeg) = σ.2.2.1 := by
      refine iu5 (by decide) ?_ rfl
      rw [mjIu_ne (by decide), mjIu_at, if_pos ⟨rfl, rfl⟩, mjIu_ne (by decide), Int32.add_sub_cancel]
    show (σ.1, σ.2.1, _, σ.2.2.2) = σ
    rw [show σ = (σ.1, σ.2.1, σ.2.2.1, σ.2.2.2) from rfl]
    exact congrArg (fun r => (σ.1, σ.2.1, r, σ.2.2.2)) e5
  · refine mjZ_y rfl rfl 2 _ _ _ _ ty ?_
    refine And.intro rfl (And.intro (Or.inr ⟨rfl, Or.inl rfl⟩) ?_)
    exact ⟨false, rfl, rfl⟩
end ORANGE
