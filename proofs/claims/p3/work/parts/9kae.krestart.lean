/-! The start anew, whole. -/
def rtF (b : Nat) : List (Nat × Nat) := rsF ++ ([(0, 16), (0, 17), (59, 17), (b, 2)] ++ xpF b)
def rtO (b : Nat) : List (Nat × Nat) := rsO ++ xpO b
section KRESTART
variable {Y : Nat → MethodName × ByteArray} {d : Nat} {σ u : kS} {B ws nmm nmm' : List (List Int32)} {ks ks' : List KC} {j : Nat}
theorem rtO_in : ∀ b ∈ [5, 7], ∀ p ∈ rtO b, p ∈ OWs := by decide +kernel
theorem tS_n : ∀ ks : List KC, ∃ n, tSum ks = nI n ∧ n ≤ ks.length ∧ (n = 0 → ∀ x ∈ ks, endE x.2.2.2.2.2 = NEV)
  | [] => ⟨0, rfl, Nat.le_refl _, fun _ x hx => by cases hx⟩
  | x :: r => by
    obtain ⟨n, h1, h2, h3⟩ := tS_n r
    by_cases c : endE x.2.2.2.2.2 = NEV
    · refine ⟨n, ?_, by simp only [List.length_cons]; omega, fun z y hy => ?_⟩
      · show nvI (endE x.2.2.2.2.2) + tSum r = _
        rw [c, h1, show nvI NEV = nI 0 from rfl, nI_add, Nat.zero_add]
      · rcases List.mem_cons.mp hy with rfl | hy
        · exact c
        · exact h3 z y hy
    · refine ⟨n + 1, ?_, by simp only [List.length_cons]; omega, fun z => by omega⟩
      show nvI (endE x.2.2.2.2.2) + tSum r = _
      unfold nvI
      rw [if_neg c, h1, show (1 : Int32) = nI 1 from rfl, nI_add, Nat.add_comm]
theorem xp_0 {now : Int64} (hn : now < NEV) : ∀ ks : List KC, (∀ x ∈ ks, endE x.2.2.2.2.2 = NEV) → xpS now ks = ks ∧ xpG now ks = []
  | [], _ => ⟨rfl, rfl⟩
  | x :: r, h => by
    obtain ⟨h1, h2⟩ := xp_0 hn r (fun y hy => h y (List.mem_cons_of_mem _ hy))
    have c : ¬ endE x.2.2.2.2.2 ≤ now := by rw [h x (List.mem_cons_self ..)]; exact Int64.not_le.mpr hn
    refine ⟨?_, ?_⟩
    · show (if _ then _ else _) = _; rw [if_neg c, h1]
    · show (if _ then _ else _) = _; rw [if_neg c, h2]
theorem STO.tm {nm : List (List Int32)} (h : STO σ nm ks) : σ.1 59 15 = tSum ks := by
  obtain ⟨fr, vs, hR, -⟩ := h
  obtain ⟨ri, rs, rh, NK, rt, NT, rn, Nn, te, rc, NC, rm, Nm, ce, ls, hG⟩ := hR
  exact hG.2.2.2.2.2.2
theorem xpS_sub {now : Int64} : ∀ (ks : List KC), ∀ x ∈ xpS now ks, x ∈ ks
  | [], x, h => h
  | y :: r, x, h => by
    have h : x ∈ (if endE y.2.2.2.2.2 ≤ now then xpS now r else y :: xpS now r) := h
    by_cases c : endE y.2.2.2.2.2 ≤ now
    · rw [if_pos c] at h; exact List.mem_cons_of_mem _ (xpS_sub r x h)
    · rw [if_neg c] at h
      rcases List.mem_cons.mp h with e | e
      · rw [e]; exact List.mem_cons_self ..
      · exact List.mem_cons_of_mem _ (xpS_sub r x e)
/-- what goes, goes -/
theorem kx_xp (ty : kTY σ) (g : KG B σ nmm ks) {b : Nat} (hb : b ∈ [5, 7]) (h10 : σ.2.2.1 0 10 = some b) {l : List Int32} (j : kBY σ b l ∧ σ.1 b 3 = 0) {now : Int64} (h16 : σ.2.1 59 16 = now) (hn : now < NEV) (hl : (l ++ (xpG now ks).flatMap encR).length ≤ 210000) : kjY kPP (kQQ Y) (d + 7) 31 0 (mjL0 7 [.ref 0]) [] σ (xpP B b σ nmm (xpS now ks) (l ++ (xpG now ks).flatMap encR)) := by
  subst h16
  refine kjY_mono ty (fun r u _ _ q => ?_) (kx_expire (d := d) ty g hb h10 j hl)
  rcases q with ⟨q1, rfl, q2⟩ | q
  · obtain ⟨n, n1, n2, n3⟩ := tS_n ks
    rw [g.2.2.1.tm, n1, show (0 : Int32) = nI 0 from rfl] at q1
    have hk := g.2.2.1.cnt.2
    have n0 : n = 0 := (nI_eq (by omega) (by decide)).mp q1
    obtain ⟨e1, e2⟩ := xp_0 hn ks (n3 n0)
    refine ⟨q2, by rw [e1]; exact g, ?_, Ch.rf⟩
    rw [e2]; simp only [List.flatMap_nil, List.append_nil]; exact j
  · exact q
/-- an outer int is set -/
theorem KG.ou (ty : kTY σ) (g : KG B σ nmm ks) {h x : Nat} {v : Int32} (hm : (h, x) ∈ ouF) (eu : u = (mjIu σ.1 h x v, σ.2)) : KG B u nmm ks ∧ (∀ b ∈ OWb, ∀ l, kBY σ b l → kBY u b l ∧ u.1 b 3 = σ.1 b 3) ∧ Ch false [(h, x)] [] σ u := by
  have q := ouF_ok _ hm
  have q1 : h < 76 := q.2.2.1
  have q2 : (kd0 h).1 < 20 := q.2.2.2.2.2.2.1
  have ch : Ch false [(h, x)] [] σ u := by rw [eu]; exact Ch_i (by rw [ty.2.2.1 h q1]; exact q2)
  refine ⟨by rw [eu]; exact g.pi ty hm, fun b hb l hl => ⟨hl.fr ty g.1.1 hb ch (fun p hp => by rw [List.mem_singleton.mp hp]; exact q.2.2.2.2.1 b hb) (fun p hp => by cases hp), ?_⟩, ch⟩
  rw [eu]; show mjIu σ.1 h x v b 3 = _
  rw [mjIu_at, if_neg (fun z => q.2.2.2.2.1 b hb z.1.symm)]
/-- it is up already -/
theorem kx_restart1 (ty : kTY σ) (h17 : ¬ σ.1 0 17 = 0) : kjY kPP (kQQ Y) (d + 12) 13 0 (mjL0 6 [.ref 0]) [] σ (fun r u => u = σ ∧ r = some (.int (-1))) := by
  refine kjZ_y rfl rfl 3 _ _ _ _ ty ?_
  refine (And.intro (ty.k (by decide) rfl) (And.intro (fun c => ?_) (fun c => ?_)))
  · exact absurd c h17
  refine kjZ_y rfl rfl 2 _ _ _ _ ty ?_
  refine And.intro rfl (And.intro (Or.inl rfl) ?_)
  exact ⟨rfl, rfl⟩
/-- what the start anew leaves -/
def rtP (B : List (List Int32)) (σ : kS) (b : Nat) (L T : List Int32) (now : Int64) (A' : List AK) : kK := fun r u => (∃ y, r = some (.int y)) ∧ ∃ nm' ks' P, L = P ++ T ∧ skA ks' = A' ∧ KG B u nm' (xpS now ks') ∧ RSD (xpS now ks') ∧ (kBY u b (P ++ (xpG now ks').flatMap encR) ∧ u.1 b 3 = 0) ∧ u.1 59 17 = 0 ∧ u.2.1 59 16 = now ∧ u.1 0 17 = 1 ∧ Ch true (rtF b) (rtO b) σ u
theorem kx_restart69 (tσ : kTY σ) {b : Nat} (hb : b ∈ [5, 7]) {now : Int64} (hn : now < NEV) {L T P : List Int32} {A' : List AK} (hX : ∀ P ks', L = P ++ T → skA ks' = A' → (P ++ (xpG now ks').flatMap encR).length ≤ 210000) {σ1 : kS} (t1 : kTY σ1) (c1 : Ch true (rtF b) (rtO b) σ σ1) (h17 : σ1.1 0 17 = 1) {nm' : List (List Int32)} {ks' : List KC} (tu : kTY u) (hu : RSI B σ1 b L now u nm' ks') (eA : skA ks' = A') (hL : L = P ++ T) (x1 x3 x4 : Int32) (o5 : Option Value) : kjY kPP (kQQ Y) (d + 12) 13 69 [some (.ref 0), some (.int x1), some (.int (nI P.length)), some (.int x3), some (.int x4), o5] [] u (rtP B σ b L T now A') := by
  obtain ⟨g, hr, ⟨hby, h3⟩, h10, h17', h16, ch⟩ := id hu
  obtain ⟨b1, b2, b3, b4, b5⟩ := J_ok b hb
  have kb := ob_k tu b1
  have k1 : ∀ p ∈ rsF, p ∈ rtF b := fun p hp => List.mem_append_left _ hp
  have k2 : ∀ p ∈ rsO, p ∈ rtO b := fun p hp => List.mem_append_left _ hp
  have qf : ∀ b ∈ [5, 7], (b, 2) ∈ rtF b ∧ (b, 1) ∈ rtO b ∧ (59, 17) ∈ rtF b ∧ ¬ (0, 17) ∈ rsF := by decide +kernel
  have qg : ∀ b ∈ [5, 7], (¬ (0, 17) ∈ xpF b) ∧ (¬ (59, 17) ∈ xpF b) ∧ (¬ (59, 16) ∈ xpF b) ∧ ¬ b = 0 ∧ ¬ b = 59 := by decide +kernel
  obtain ⟨k3', k4', k5, k8⟩ := qf b hb
  obtain ⟨k9, k10, k11, k12, k13⟩ := qg b hb
  have k3 : ∀ p ∈ [((b : Nat), 2)], p ∈ rtF b := fun p hp => by rw [List.mem_singleton.mp hp]; exact k3'
  have k4 : ∀ p ∈ [((b : Nat), 1)], p ∈ rtO b := fun p hp => by rw [List.mem_singleton.mp hp]; exact k4'
  have k6 : ∀ p ∈ xpF b, p ∈ rtF b := fun p hp => List.mem_append_right _ (List.mem_append_right _ hp)
  have k7 : ∀ p ∈ xpO b, p ∈ rtO b := fun p hp => List.mem_append_right _ hp
  have hin := rtO_in b hb
  have hPl : P.length ≤ L.length := by rw [hL, List.length_append]; omega
  refine kjZ_y rfl rfl 4 _ _ _ _ tu ?_
  refine (And.intro (tu.k (by decide) rfl) (Exists.intro _ (And.intro h10 (And.intro (Nat.le_of_ble_eq_true rfl) (And.intro (Or.inl ⟨(Nat.le_of_ble_eq_true rfl), (by assumption)⟩) (And.intro (Nat.le_of_ble_eq_true rfl) (And.intro (Nat.le_of_ble_eq_true rfl) (kjY_mono tu (fun q_ u2 t2 xx2 h_ => ?_) (kx_cutJ (d := d + 11) tu g b1 hby hPl _ rfl)))))))))
  obtain ⟨rfl, g2, y2, i2, c2, -⟩ := h_
  intro _ _
  have cu : Ch true (rtF b) (rtO b) σ u2 := Ch.tr tσ hin (Ch.tr tσ hin c1 (ch.up (fun z => z) k1 k2)) (c2.up (fun z => by cases z) k3 k4)
  have eP : L.take P.length = P := by rw [hL, List.take_left]
  rw [eP] at y2
  have f2 : u2.2.2.1 0 10 = some b := by rw [(c2.fld tu (h := 0) (x := 10) (c := 9) (by decide) rfl (by decide) (fun z => k12 (congrArg Prod.fst (List.mem_singleton.mp z)).symm)).2.2]; exact h10
  have m2 : u2.2.1 59 16 = now := by rw [(c2.fld tu (h := 59) (x := 16) (c := 4) (by decide) rfl (by decide) (fun z => k13 (congrArg Prod.fst (List.mem_singleton.mp z)).symm)).2.1]; exact h16
  have n2 : u2.1 0 17 = 1 := by rw [(c2.fld tu (h := 0) (x := 17) (c := 9) (by decide) rfl (by decide) (fun z => k12 (congrArg Prod.fst (List.mem_singleton.mp z)).symm)).1, (ch.fld t1 (h := 0) (x := 17) (c := 9) (by decide) rfl (by decide) k8).1]; exact h17
  refine kjZ_y rfl rfl 4 _ _ _ _ t2 ?_
  refine (And.intro (t2.k (by decide) rfl) (And.intro (t2.k (by decide) rfl) (And.intro (Or.inr ⟨rfl, Or.inl rfl⟩) (fun t2' => ?_))))
  have go : ∀ z, kTY z → z = (mjIu u2.1 59 17 (Int32.ofInt 0), u2.2) → kjY kPP (kQQ Y) (d + 12) 13 77 [some (.ref 0), some (.int x1), some (.int (nI P.length)), some (.int x3), some (.int x4), o5] [] z (rtP B σ b L T now A') := by
    intro z tz ez
    obtain ⟨gz, oz, cz⟩ := g2.ou t2 (h := 59) (x := 17) (by decide) ez
    have e2 : z.2 = u2.2 := by rw [ez]
    have zF : z.2.2.1 = u2.2.2.1 := congrArg (fun t => t.2.1) e2
    have zL : z.2.1 = u2.2.1 := congrArg (fun t => t.1) e2
    have z17 : z.1 59 17 = 0 := by rw [ez]; show mjIu u2.1 59 17 (Int32.ofInt 0) 59 17 = _; rw [mjIu_p]; rfl
    have zn : z.1 0 17 = 1 := by rw [ez]; show mjIu u2.1 59 17 (Int32.ofInt 0) 0 17 = _; rw [mjIu_at, if_neg (by decide)]; exact n2
    have jz := oz b b1 P y2
    refine kjZ_y rfl rfl 2 _ _ _ _ tz ?_
    refine (And.intro (Nat.le_of_ble_eq_true rfl) (And.intro (Or.inl ⟨(Nat.le_of_ble_eq_true rfl), (tz.k (by decide) rfl)⟩) (And.intro (Nat.le_of_ble_eq_true rfl) (And.intro (Nat.le_of_ble_eq_true rfl) (kjY_mono tz (fun q_ u3 t3 xx3 h_ => ?_) (kx_xp (d := d + 4) tz gz hb (by rw [zF]; exact f2) ⟨jz.1, jz.2.trans (i2.trans h3)⟩ (by rw [zL]; exact m2) hn (hX P ks' hL eA)))))))
    obtain ⟨⟨y, rfl⟩, g3, j3, c3⟩ := h_
    intro _ _
    refine kjZ_y rfl rfl 3 _ _ _ _ t3 ?_
    refine And.intro rfl (And.intro (Or.inl rfl) ?_)
    refine ⟨⟨_, rfl⟩, nm', ks', P, hL, eA, g3, fun x hx => hr x (xpS_sub ks' x hx), j3, ?_, ?_, ?_, ?_⟩
    · rw [(c3.fld tz (h := 59) (x := 17) (c := 4) (by decide) rfl (by decide) k10).1]; exact z17
    · rw [(c3.fld tz (h := 59) (x := 16) (c := 4) (by decide) rfl (by decide) k11).2.1, zL]; exact m2
    · rw [(c3.fld tz (h := 0) (x := 17) (c := 9) (by decide) rfl (by decide) k9).1]; exact zn
    · exact Ch.tr tσ hin (Ch.tr tσ hin cu (cz.up (fun z => by cases z) (fun p hp => by rw [List.mem_singleton.mp hp]; exact k5) (fun p hp => by cases hp))) (c3.up (fun z => z) k6 k7)
  exact go _ t2' rfl
/-- it starts anew -/
theorem kx_restart (ty : kTY σ) (g : KG B σ nmm ks) (hr : RSD ks) (h17 : σ.1 0 17 = 0) {b : Nat} (hb : b ∈ [5, 7]) (h10 : σ.2.2.1 0 10 = some b) {L T : List Int32} (j : kBY σ b L ∧ σ.1 b 3 = 0) (hT : TORN T) {bs : List (Bool × List Req)} (hL : L = bs.flatMap bkB ++ T) {A' : List AK} (hn : σ.2.1 59 16 < NEV) (hc : RBs B (σ.2.1 59 16) (skA ks) bs A') (hX : ∀ P ks', L = P ++ T → skA ks' = A' → (P ++ (xpG (σ.2.1 59 16) ks').flatMap encR).length ≤ 210000) : kjY kPP (kQQ Y) (d + 12) 13 0 (mjL0 6 [.ref 0]) [] σ (rtP B σ b L T (σ.2.1 59 16) A') := by
  obtain ⟨b1, b2, b3, b4, b5⟩ := J_ok b hb
  have hin := rtO_in b hb
  have qf : ∀ b ∈ [5, 7], (0, 16) ∈ rtF b ∧ (0, 17) ∈ rtF b ∧ (59, 17) ∈ rtF b := by decide +kernel
  obtain ⟨q16, q17, q59⟩ := qf b hb
  refine kjZ_y rfl rfl 3 _ _ _ _ ty ?_
  refine (And.intro (ty.k (by decide) rfl) (And.intro (fun c => ?_) (fun c => ?_)))
  rotate_left
  · exact absurd h17 c
  refine kjZ_y rfl rfl 3 _ _ _ _ ty ?_
  refine (And.intro (ty.k (by decide) rfl) (And.intro (Or.inr ⟨rfl, Or.inr rfl⟩) (fun ty' => ?_)))
  have go1 : ∀ z, kTY z → z = (mjIu σ.1 0 17 (Int32.ofInt 1), σ.2) → kjY kPP (kQQ Y) (d + 12) 13 8 [some (.ref 0), none, none, none, none, none] [] z (rtP B σ b L T (σ.2.1 59 16) A') := by
    intro z tz ez
    obtain ⟨gz, oz, cz⟩ := g.ou ty (h := 0) (x := 17) (by decide) ez
    refine kjZ_y rfl rfl 3 _ _ _ _ tz ?_
    refine (And.intro (tz.k (by decide) rfl) (And.intro (Or.inl rfl) (fun tz' => ?_)))
    have go2 : ∀ y, kTY y → y = (mjIu z.1 0 16 (Int32.ofInt (-1)), z.2) → kjY kPP (kQQ Y) (d + 12) 13 11 [some (.ref 0), none, none, none, none, none] [] y (rtP B σ b L T (σ.2.1 59 16) A') := by
      intro y t ey
      obtain ⟨gy, oy, cy⟩ := gz.ou tz (h := 0) (x := 16) (by decide) ey
      refine kjZ_y rfl rfl 4 _ _ _ _ t ?_
      refine (And.intro (t.k (by decide) rfl) (And.intro (t.k (by decide) rfl) (And.intro (Or.inr ⟨rfl, Or.inr rfl⟩) (fun t' => ?_))))
      have go3 : ∀ w, kTY w → w = (mjIu y.1 59 17 (Int32.ofInt 1), y.2) → kjY kPP (kQQ Y) (d + 12) 13 15 [some (.ref 0), none, none, none, none, none] [] w (rtP B σ b L T (σ.2.1 59 16) A') := by
        intro w tw ew
        obtain ⟨gw, ow, cw⟩ := gy.ou t (h := 59) (x := 17) (by decide) ew
        have jw := ow b b1 L (oy b b1 L (oz b b1 L j.1).1).1
        have j3 : w.1 b 3 = 0 := (ow b b1 L (oy b b1 L (oz b b1 L j.1).1).1).2.trans ((oy b b1 L (oz b b1 L j.1).1).2.trans ((oz b b1 L j.1).2.trans j.2))
        have e2 : w.2 = σ.2 := by rw [ew, ey, ez]
        have wF : w.2.2.1 = σ.2.2.1 := congrArg (fun t => t.2.1) e2
        have wL : w.2.1 = σ.2.1 := congrArg (fun t => t.1) e2
        have w17 : w.1 59 17 = 1 := by rw [ew]; show mjIu y.1 59 17 (Int32.ofInt 1) 59 17 = _; rw [mjIu_p]; rfl
        have w0 : w.1 0 17 = 1 := by
          rw [ew]; show mjIu y.1 59 17 (Int32.ofInt 1) 0 17 = _
          rw [mjIu_at, if_neg (by decide), ey]; show mjIu z.1 0 16 (Int32.ofInt (-1)) 0 17 = _
          rw [mjIu_at, if_neg (by decide), ez]; show mjIu σ.1 0 17 (Int32.ofInt 1) 0 17 = _
          rw [mjIu_p]; rfl
        have cA : Ch true (rtF b) (rtO b) σ w := Ch.tr ty hin (Ch.tr ty hin (cz.up (fun z => by cases z) (fun p hp => by rw [List.mem_singleton.mp hp]; exact q17) (fun p hp => by cases hp)) (cy.up (fun z => by cases z) (fun p hp => by rw [List.mem_singleton.mp hp]; exact q16) (fun p hp => by cases hp))) (cw.up (fun z => by cases z) (fun p hp => by rw [List.mem_singleton.mp hp]; exact q59) (fun p hp => by cases hp))
        have h10w : w.2.2.1 0 10 = some b := by rw [wF]; exact h10
        have hL0 : L = [] ++ bs.flatMap bkB ++ T := hL
        have rs : RSI B w b L (σ.2.1 59 16) w nmm ks := ⟨gw, hr, ⟨jw.1, j3⟩, h10w, by rw [w17]; decide, by rw [wL], Ch.rf⟩
        refine kjZ_y rfl rfl 4 _ _ _ _ tw ?_
        refine (And.intro (Nat.le_of_ble_eq_true rfl) (And.intro (Nat.le_of_ble_eq_true rfl) ?_))
        refine kjZ_y rfl rfl 3 _ _ _ _ tw ?_
        refine (And.intro (Nat.le_of_ble_eq_true rfl) (And.intro (Or.inl ⟨(Nat.le_of_ble_eq_true rfl), (tw.k (by decide) rfl)⟩) (And.intro (Nat.le_of_ble_eq_true rfl) (And.intro (Nat.le_of_ble_eq_true rfl) (kjY_mono tw (fun q_ w2 t2 xx2 h_ => ?_) (kx_recAt (d := d + 2) tw gw hb h10w jw.1 (RBs_k hc) hT hL0 _ rfl))))))
        obtain ⟨l2, g2, rfl⟩ := h_
        intro _ _
        refine kjZ_y rfl rfl 3 _ _ _ _ t2 ?_
        refine (And.intro (Nat.le_of_ble_eq_true rfl) (And.intro (Nat.le_of_ble_eq_true rfl) ?_))
        refine kx_rs25 (d := d) tw _ hb hn hT (A' := A') ?_ bs [] 0 _ _ _ _ none nmm ks w2 hL0 rfl rfl rfl (Nat.le_refl _) t2 (rs.lg tw hb tw l2 g2) hc
        intro u nm' ks' x1 x3 x4 o5 P tu hu eA hLP
        exact kx_restart69 (d := d) ty hb hn hX tw cA w0 tu hu eA hLP x1 x3 x4 o5
      exact go3 _ t' rfl
    exact go2 _ tz' rfl
  exact go1 _ ty' rfl
end KRESTART
