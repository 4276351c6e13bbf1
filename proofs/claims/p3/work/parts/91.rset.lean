/-! SET, SETNX, GETSET, SETEX, PSETEX; MSET and MSETNX. -/
section RSET
variable {Y : Nat → MethodName × ByteArray} {d : Nat}
theorem setR_fr {σ u : mjS} (o : oO σ u) (A : List AK) (w v : List Int32) : setR u A w v = setR σ A w v := by
  unfold setR deadP
  rw [o.1.1 f_timed (by decide), o.1.1 f_optKeep (by decide), o.1.1 f_replays (by decide), o.1.2.1 f_time (by decide), o.1.2.1 f_now0 (by decide)]
theorem setL_fr {σ u : mjS} (o : oO σ u) (l : List Int32) (A : List AK) (w v : List Int32) : setL u l A w v = setL σ l A w v := by
  unfold setL deadP
  rw [o.1.1 f_timed (by decide), o.1.1 f_optKeep (by decide), o.1.1 f_replays (by decide), o.1.2.1 f_time (by decide), o.1.2.1 f_now0 (by decide), ntG_fr o.c, ntS_fr o.c]
def goP (σ : mjS) (i : Nat) (A : List AK) (w : List Int32) : Prop := (i = 5 → kyI A w = none) ∧ (i = 2 → (σ.1 f_optNx = 0 ∨ kyI A w = none) ∧ (σ.1 f_optXx = 0 ∨ ¬ kyI A w = none))
def rsK (σ : mjS) (ws : List (List Int32)) (ks : List KR) (l : List Int32) (i : Nat) (w v : List Int32) : mjK := fun r u => r = none ∧ Fr cF cH σ u ∧ ∃ ks', (goP σ i (strip ks) w → Wd u ws ks' (setL σ l (strip ks) w v) ∧ strip ks' = setR σ (strip ks) w v) ∧ (¬ goP σ i (strip ks) w → Wd u ws ks' l ∧ strip ks' = strip ks)
/-- the words that a sets needs -/
def stP (ws : List (List Int32)) (ks : List KR) (l : List Int32) (j : Nat) (w v : List Int32) : Prop := ws[1]? = some w ∧ ws[j]? = some v ∧ tT (strip ks) + w.length ≤ 200000 ∧ tT (strip ks) + w.length + v.length ≤ 300000 ∧ ks.length < 4700 ∧ l.length + w.length + v.length + 400 ≤ 420000
set_option maxRecDepth 100000 in
theorem c_rs_67 {σ σ1 : mjS} {ws : List (List Int32)} {ks : List KR} {l : List Int32} (h : Wd σ1 ws ks l) (ty : mjTY σ1) {w v : List Int32} (hp : stP ws ks l 2 w v) (o : oO σ σ1) (x1 x2 x3 : Int32) (g : (¬ x3 = 0) ↔ goP σ 2 (strip ks) w) :
    mjY mjPP (mjQQ Y) (d + 7) 81 67 [some (.ref 0), some (.int x1), some (.int x2), some (.int x3)] [] σ1 (rsK σ ws ks l 2 w v) := by
  obtain ⟨p1, p2, p3, p4, p5, p6⟩ := hp
  refine mjZ_y rfl rfl 2 _ _ _ _ ty ?_
  refine And.intro (fun q => ?_) (fun q => ?_)
  · have q : x3 = 0 := q
    have ng : ¬ goP σ 2 (strip ks) w := fun z => g.mpr z q
    refine mjZ_y rfl rfl 1 _ _ _ _ ty ?_
    refine And.intro rfl (And.intro rfl ?_)
    exact ⟨rfl, o.c, ks, fun z => absurd z ng, fun _ => ⟨h, rfl⟩⟩
  · have hg := g.mp q
    refine mjZ_y rfl rfl 3 _ _ _ _ ty ?_
    refine (And.intro (Nat.le_of_ble_eq_true rfl) (And.intro rfl (And.intro (Nat.le_of_ble_eq_true rfl) (And.intro (Nat.le_of_ble_eq_true rfl) (mjY_mono ty (fun q_ u2 ty2 h_ => ?_) (w_sets h ty p1 p2 (x1 := Int32.ofInt 2) rfl p3 p4 p5 p6))))))
    obtain ⟨rfl, f2, ks', h2, e2⟩ := h_
    intro _
    refine mjZ_y rfl rfl 1 _ _ _ _ ty2 ?_
    refine And.intro rfl (And.intro rfl ?_)
    rw [setL_fr o] at h2
    rw [setR_fr o] at e2
    exact ⟨rfl, o.c.tr f2.sc, ks', fun _ => ⟨h2, e2⟩, fun z => absurd hg z⟩
set_option maxRecDepth 100000 in
theorem c_rs_53 {σ : mjS} {ws : List (List Int32)} {ks : List KR} {l : List Int32} (h : Wd σ ws ks l) (ty : mjTY σ) {w v : List Int32} (hp : stP ws ks l 2 w v) (x1 x2 x3 : Int32) (e2 : x2 = kyS ks w) (g : (¬ x3 = 0) ↔ goP σ 2 (strip ks) w) :
    mjY mjPP (mjQQ Y) (d + 7) 81 53 [some (.ref 0), some (.int x1), some (.int x2), some (.int x3)] [] σ (rsK σ ws ks l 2 w v) := by
  have ek : x2 = -1 ∨ ∃ x ∈ ks, x2 = nI x.1 := by
    rcases ky_cases ks w with ⟨g1, g2⟩ | ⟨P, y, Q, g0, g1, g2, -⟩
    · exact Or.inl (e2.trans g2)
    · exact Or.inr ⟨y, by rw [g0]; exact List.mem_append_right _ List.mem_cons_self, e2.trans g2⟩
  refine mjZ_y rfl rfl 3 _ _ _ _ ty ?_
  refine (And.intro rfl (And.intro (fun q => ?_) (fun q => ?_)))
  · refine mjZ_y rfl rfl 2 _ _ _ _ ty ?_
    refine And.intro (fun c => ?_) (fun c => ?_)
    · refine mjZ_y rfl rfl 2 _ _ _ _ ty ?_
      refine (And.intro (Nat.le_of_ble_eq_true rfl) (And.intro rfl (And.intro (Nat.le_of_ble_eq_true rfl) (And.intro (Nat.le_of_ble_eq_true rfl) (mjY_mono ty (fun q_ u1 ty1 h_ => ?_) (w_ok h ty))))))
      obtain ⟨rfl, h1, o1⟩ := h_
      intro _
      exact c_rs_67 h1 ty1 hp o1 x1 x2 x3 g
    · refine mjZ_y rfl rfl 2 _ _ _ _ ty ?_
      refine (And.intro (Nat.le_of_ble_eq_true rfl) (And.intro rfl (And.intro (Nat.le_of_ble_eq_true rfl) (And.intro (Nat.le_of_ble_eq_true rfl) (mjY_mono ty (fun q_ u1 ty1 h_ => ?_) (w_nil h ty))))))
      obtain ⟨rfl, h1, o1⟩ := h_
      intro _
      refine mjZ_y rfl rfl 1 _ _ _ _ ty1 ?_
      exact c_rs_67 h1 ty1 hp o1 x1 x2 x3 g
  · refine mjZ_y rfl rfl 3 _ _ _ _ ty ?_
    refine (And.intro (Nat.le_of_ble_eq_true rfl) (And.intro rfl (And.intro (Nat.le_of_ble_eq_true rfl) (And.intro (Nat.le_of_ble_eq_true rfl) (mjY_mono ty (fun q_ u1 ty1 h_ => ?_) (w_wordOf h ty ek))))))
    obtain ⟨rfl, h1, o1⟩ := h_
    intro _
    refine mjZ_y rfl rfl 1 _ _ _ _ ty1 ?_
    exact c_rs_67 h1 ty1 hp o1 x1 x2 x3 g
set_option maxRecDepth 100000 in
theorem r_set {σ : mjS} {ws : List (List Int32)} {ks : List KR} {l : List Int32} (h : Wd σ ws ks l) (ty : mjTY σ) {w v : List Int32} (i1 : Nat) (hi : i1 < 128) (hp : stP ws ks l (if i1 = 5 ∨ i1 = 4 ∨ i1 = 2 then 2 else 3) w v) {x1 : Int32} (e1 : x1 = nI i1) :
    mjY mjPP (mjQQ Y) (d + 7) 81 0 (mjL0 4 [.ref 0, .int x1]) [] σ (rsK σ ws ks l i1 w v) := by
  have nn : ∀ c : Nat, c < 128 → ((¬ x1 = nI c) ↔ ¬ i1 = c) := fun c hc => by rw [e1, nI_eq (by omega) (by omega)]
  have h1 := hp.1
  refine mjZ_y rfl rfl 3 _ _ _ _ ty ?_
  refine (And.intro (Nat.le_of_ble_eq_true rfl) (And.intro rfl (And.intro (Nat.le_of_ble_eq_true rfl) (And.intro (Nat.le_of_ble_eq_true rfl) (mjY_mono ty (fun q_ u1 ty1 h_ => ?_) (w_key h ty h1 (x := Int32.ofInt 1) rfl))))))
  obtain ⟨rfl, rfl⟩ := h_
  intro _
  have ek : kyS ks w = -1 ∨ ∃ x ∈ ks, kyS ks w = nI x.1 := by
    rcases ky_cases ks w with ⟨g1, g2⟩ | ⟨P, y, Q, g0, g1, g2, -⟩
    · exact Or.inl g2
    · exact Or.inr ⟨y, by rw [g0]; exact List.mem_append_right _ List.mem_cons_self, g2⟩
  have kneg : kyS ks w < 0 ↔ kyI (strip ks) w = none := by
    rcases ky_cases ks w with ⟨g1, g2⟩ | ⟨P, y, Q, g0, g1, g2, -⟩
    · exact ⟨fun _ => g1, fun _ => lt_m1 g2⟩
    · refine ⟨fun z => absurd z ?_, fun z => by rw [g1] at z; cases z⟩
      subst g0
      exact lt_nI (by have := h.id; omega) g2
  refine mjZ_y rfl rfl 4 _ _ _ _ ty1 ?_
  refine (And.intro (Nat.le_of_ble_eq_true rfl) (And.intro (fun q => ?_) (fun q => ?_)))
  · have q := (nn 5 (by decide)).mp q
    refine mjZ_y rfl rfl 3 _ _ _ _ ty1 ?_
    refine And.intro (fun r => ?_) (fun r => ?_)
    · have r := (nn 4 (by decide)).mp r
      refine mjZ_y rfl rfl 3 _ _ _ _ ty1 ?_
      refine And.intro (fun s => ?_) (fun s => ?_)
      · have s : i1 = 2 := by
          have s : x1 = nI 2 := s
          rw [e1] at s; exact (nI_eq (by omega) (by omega)).mp s
        subst s
        have hp2 : stP ws ks l 2 w v := hp
        have ge : (0 : Int32) ≤ kyS ks w ↔ ¬ kyI (strip ks) w = none := by rw [← kneg]; exact Int32.not_lt.symm
        refine mjZ_y rfl rfl 3 _ _ _ _ ty1 ?_
        refine (And.intro rfl (And.intro (fun a => ?_) (fun a => ?_)))
        · have a : u1.1 f_optNx = 0 := a
          refine mjZ_y rfl rfl 3 _ _ _ _ ty1 ?_
          refine (And.intro rfl (And.intro (fun b => ?_) (fun b => ?_)))
          · have b : u1.1 f_optXx = 0 := b
            refine mjZ_y rfl rfl 3 _ _ _ _ ty1 ?_
            refine (And.intro (Nat.le_of_ble_eq_true rfl) ?_)
            exact c_rs_53 h ty1 hp2 x1 _ _ rfl ⟨fun _ => ⟨fun z => absurd z (by decide), fun _ => ⟨Or.inl a, Or.inl b⟩⟩, fun _ => by decide⟩
          · refine mjZ_y rfl rfl 2 _ _ _ _ ty1 ?_
            refine And.intro (fun c => ?_) (fun c => ?_)
            · refine mjZ_y rfl rfl 2 _ _ _ _ ty1 ?_
              refine (And.intro (Nat.le_of_ble_eq_true rfl) ?_)
              exact c_rs_53 h ty1 hp2 x1 _ _ rfl ⟨fun z => absurd rfl z, fun z => absurd (kneg.mp c) ((z.2 rfl).2.elim (fun t => absurd t b) id)⟩
            · refine mjZ_y rfl rfl 3 _ _ _ _ ty1 ?_
              refine (And.intro (Nat.le_of_ble_eq_true rfl) ?_)
              exact c_rs_53 h ty1 hp2 x1 _ _ rfl ⟨fun _ => ⟨fun z => absurd z (by decide), fun _ => ⟨Or.inl a, Or.inr (fun t => c (kneg.mpr t))⟩⟩, fun _ => by decide⟩
        · refine mjZ_y rfl rfl 2 _ _ _ _ ty1 ?_
          refine And.intro (fun c => ?_) (fun c => ?_)
          · refine mjZ_y rfl rfl 2 _ _ _ _ ty1 ?_
            refine (And.intro (Nat.le_of_ble_eq_true rfl) ?_)
            exact c_rs_53 h ty1 hp2 x1 _ _ rfl ⟨fun z => absurd rfl z, fun z => absurd ((z.2 rfl).1.elim (fun t => absurd t a) id) (ge.mp c)⟩
          · have c : kyI (strip ks) w = none := Decidable.of_not_not (fun z => c (ge.mpr z))
            refine mjZ_y rfl rfl 3 _ _ _ _ ty1 ?_
            refine (And.intro rfl (And.intro (fun b => ?_) (fun b => ?_)))
            · refine mjZ_y rfl rfl 3 _ _ _ _ ty1 ?_
              refine (And.intro (Nat.le_of_ble_eq_true rfl) ?_)
              exact c_rs_53 h ty1 hp2 x1 _ _ rfl ⟨fun _ => ⟨fun z => absurd z (by decide), fun _ => ⟨Or.inr c, Or.inl b⟩⟩, fun _ => by decide⟩
            · refine mjZ_y rfl rfl 2 _ _ _ _ ty1 ?_
              refine And.intro (fun e => ?_) (fun e => ?_)
              · refine mjZ_y rfl rfl 2 _ _ _ _ ty1 ?_
                refine (And.intro (Nat.le_of_ble_eq_true rfl) ?_)
                exact c_rs_53 h ty1 hp2 x1 _ _ rfl ⟨fun z => absurd rfl z, fun z => absurd c ((z.2 rfl).2.elim (fun t => absurd t b) id)⟩
              · exact absurd (kneg.mpr c) e
      · have s : ¬ i1 = 2 := fun z => s (by show x1 = nI 2; rw [e1, z])
        rw [if_neg (by omega)] at hp
        obtain ⟨-, p2, p3, p4, p5, p6⟩ := hp
        have gg : goP u1 i1 (strip ks) w := ⟨fun z => absurd z q, fun z => absurd z s⟩
        refine mjZ_y rfl rfl 3 _ _ _ _ ty1 ?_
        refine (And.intro (Nat.le_of_ble_eq_true rfl) (And.intro rfl (And.intro (Nat.le_of_ble_eq_true rfl) (And.intro (Nat.le_of_ble_eq_true rfl) (mjY_mono ty1 (fun q_ u2 ty2 h_ => ?_) (w_sets h ty1 h1 p2 (x1 := Int32.ofInt 3) rfl p3 p4 p5 p6))))))
        obtain ⟨rfl, f2, ks', h2, e2⟩ := h_
        intro _
        refine mjZ_y rfl rfl 2 _ _ _ _ ty2 ?_
        refine (And.intro (Nat.le_of_ble_eq_true rfl) (And.intro rfl (And.intro (Nat.le_of_ble_eq_true rfl) (And.intro (Nat.le_of_ble_eq_true rfl) (mjY_mono ty2 (fun q_ u3 ty3 h_ => ?_) (w_ok h2 ty2))))))
        obtain ⟨rfl, h3, o3⟩ := h_
        intro _
        refine mjZ_y rfl rfl 2 _ _ _ _ ty3 ?_
        refine And.intro rfl (And.intro rfl ?_)
        exact ⟨rfl, f2.sc.tr o3.c, ks', fun _ => ⟨h3, e2⟩, fun z => absurd gg z⟩
    · have r : i1 = 4 := Decidable.of_not_not (fun z => r ((nn 4 (by decide)).mpr z))
      rw [if_pos (Or.inr (Or.inl r))] at hp
      obtain ⟨-, p2, p3, p4, p5, p6⟩ := hp
      have gg : goP u1 i1 (strip ks) w := ⟨fun z => absurd z q, fun z => absurd z (by omega)⟩
      refine mjZ_y rfl rfl 3 _ _ _ _ ty1 ?_
      refine (And.intro (Nat.le_of_ble_eq_true rfl) (And.intro rfl (And.intro (Nat.le_of_ble_eq_true rfl) (And.intro (Nat.le_of_ble_eq_true rfl) (mjY_mono ty1 (fun q_ u2 ty2 h_ => ?_) (w_wordOf h ty1 ek))))))
      obtain ⟨rfl, h2, o2⟩ := h_
      intro _
      refine mjZ_y rfl rfl 3 _ _ _ _ ty2 ?_
      refine (And.intro (Nat.le_of_ble_eq_true rfl) (And.intro rfl (And.intro (Nat.le_of_ble_eq_true rfl) (And.intro (Nat.le_of_ble_eq_true rfl) (mjY_mono ty2 (fun q_ u3 ty3 h_ => ?_) (w_sets h2 ty2 h1 p2 (x1 := Int32.ofInt 2) rfl p3 p4 p5 p6))))))
      obtain ⟨rfl, f3, ks', h3, e3⟩ := h_
      intro _
      refine mjZ_y rfl rfl 2 _ _ _ _ ty3 ?_
      refine And.intro rfl (And.intro rfl ?_)
      rw [setL_fr o2] at h3
      rw [setR_fr o2] at e3
      exact ⟨rfl, o2.c.tr f3.sc, ks', fun _ => ⟨h3, e3⟩, fun z => absurd gg z⟩
  · have q : i1 = 5 := Decidable.of_not_not (fun z => q ((nn 5 (by decide)).mpr z))
    rw [if_pos (Or.inl q)] at hp
    obtain ⟨-, p2, p3, p4, p5, p6⟩ := hp
    refine mjZ_y rfl rfl 2 _ _ _ _ ty1 ?_
    refine And.intro (fun c => ?_) (fun c => ?_)
    · have gg : goP u1 i1 (strip ks) w := ⟨fun _ => kneg.mp c, fun z => absurd z (by omega)⟩
      refine mjZ_y rfl rfl 3 _ _ _ _ ty1 ?_
      refine (And.intro (Nat.le_of_ble_eq_true rfl) (And.intro rfl (And.intro (Nat.le_of_ble_eq_true rfl) (And.intro (Nat.le_of_ble_eq_true rfl) (mjY_mono ty1 (fun q_ u2 ty2 h_ => ?_) (w_sets h ty1 h1 p2 (x1 := Int32.ofInt 2) rfl p3 p4 p5 p6))))))
      obtain ⟨rfl, f2, ks', h2, e2⟩ := h_
      intro _
      refine mjZ_y rfl rfl 3 _ _ _ _ ty2 ?_
      refine (And.intro (Nat.le_of_ble_eq_true rfl) (And.intro rfl (And.intro (Nat.le_of_ble_eq_true rfl) (And.intro (Nat.le_of_ble_eq_true rfl) (mjY_mono ty2 (fun q_ u3 ty3 h_ => ?_) (w_number h2 ty2 _))))))
      obtain ⟨rfl, h3, o3⟩ := h_
      intro _
      refine mjZ_y rfl rfl 2 _ _ _ _ ty3 ?_
      refine And.intro rfl (And.intro rfl ?_)
      exact ⟨rfl, f2.sc.tr o3.c, ks', fun _ => ⟨h3, e2⟩, fun z => absurd gg z⟩
    · have gg : ¬ goP u1 i1 (strip ks) w := fun z => c (kneg.mpr (z.1 q))
      refine mjZ_y rfl rfl 3 _ _ _ _ ty1 ?_
      refine (And.intro (Nat.le_of_ble_eq_true rfl) (And.intro rfl (And.intro (Nat.le_of_ble_eq_true rfl) (And.intro (Nat.le_of_ble_eq_true rfl) (mjY_mono ty1 (fun q_ u2 ty2 h_ => ?_) (w_number h ty1 _))))))
      obtain ⟨rfl, h2, o2⟩ := h_
      intro _
      refine mjZ_y rfl rfl 1 _ _ _ _ ty2 ?_
      refine And.intro rfl (And.intro rfl ?_)
      exact ⟨rfl, o2.c, ks, fun z => absurd z gg, fun _ => ⟨h2, rfl⟩⟩
end RSET
