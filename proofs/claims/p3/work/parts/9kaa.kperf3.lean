/-! A request is performed, whole. -/
/-- what a command asks for, but the state -/
def JP (B : List (List Int32)) (rp : Int32) (now : Int64) (ws : List (List Int32)) (ks : List KC) (j : Nat) : Prop := RSD ks ∧ BOK B ws ∧ (1 ≤ ws.length ∧ ws.length ≤ 1024) ∧ tkP j (nI (ws.length - 1)) ∧ IA (skA ks) ∧ (∀ w ∈ ws, WOK w) ∧ ks.length + 1 ≤ 2600 ∧ xtA (skA ks) + 16384 ≤ 98304 ∧ 3 * (clA (skA ks) + 1024) ≤ 49000 ∧ eN (skA ks) ≤ 8600 ∧ (rid j = 63 → ∀ n m, intF (gw ws 3) = some n → vhA (skA ks) (gw ws 1) (gw ws 2) = some m → dec (m + n) ∈ B) ∧ ((¬ fuB rp ks j) → PQ (skA ks) (rid j) ws) ∧ now < NEV
/-- what performing leaves -/
def pfP (B : List (List Int32)) (b : Nat) (σ : kS) (ws nmm : List (List Int32)) (ks : List KC) (l : List Int32) (e : Eff) : kK := fun r u => r = none ∧ ∃ nm' ks', PRE nmm nm' ∧ KO B u ws nm' ks' ∧ RSD ks' ∧ skA ks' = efA (skA ks) e ∧ JN b u (l ++ PFn (σ.1 59 17) (σ.1 0 13) (σ.1 0 14) e) ∧ (u.1 59 17 = σ.1 59 17 ∧ u.2.1 59 16 = σ.2.1 59 16) ∧ (Ch true (PFf b) (PFo b) σ u ∧ CQ [] σ u) ∧ PFb (σ.1 59 17) σ u e
section KPERF3
variable {Y : Nat → MethodName × ByteArray} {d : Nat} {σ u : kS} {B ws nmm nmm' : List (List Int32)} {ks ks' : List KC} {j : Nat}
theorem JP.jc (h : JP B (σ.1 59 17) (σ.2.1 59 16) ws ks j) (w : KWd σ B σ ws nmm ks) (hj : CMD σ j) (h13 : σ.1 53 13 = 0) (h18 : σ.1 59 18 = 0) : JC B σ ws nmm ks j := by
  obtain ⟨a1, a2, a3, a4, a5, a6, a7, a8, a9, a10, a11, a12, a13⟩ := h
  exact ⟨w, a1, a2, hj, ⟨h13, h18⟩, a3, a4, a5, a6, a7, a8, a9, a10, a11, a12, a13⟩
theorem PF_tr (ty : kTY σ) {b : Nat} (hb : b ∈ [5, 7]) {s : kS} (h : Ch true OFf OFo σ s) (h2 : Ch true (PFf b) (PFo b) s u) : Ch true (PFf b) (PFo b) σ u := Ch.tr ty (PFo_in hb) (OF_PF h) h2
/-- the run of the command, then the rest -/
theorem pf_of (ty : kTY σ) (g : KO B σ ws nmm ks) {b : Nat} (hb : b ∈ [5, 7]) {l : List Int32} (jn : JN b σ l) (h10 : σ.2.2.1 0 10 = some b) {e : Eff} (hlen : (l ++ PFn (σ.1 59 17) (σ.1 0 13) (σ.1 0 14) e).length ≤ 210000) {z : kS} (tz : kTY z) {nm' : List (List Int32)} (hp : PRE nmm nm') (gz : KO B z ws nm' ks') (rz : RSD ks') (eA : skA ks' = efA (skA ks) e) (cz : Cq σ z) (hE : NTZ ws j z e) (v1 v2 : Option Value) :
    kjY kPP (kQQ Y) (d + 10) 27 52 [some (.ref 0), v1, v2] [] z (pfP B b σ ws nmm ks l e) := by
  obtain ⟨o1, o2, o3, o4⟩ := PF_ok b hb
  obtain ⟨f0, f17, f16⟩ := OF_fl ty cz.1
  have jz : JN b z l := jn.fr ty g.1.1.1 o3 cz.1 o1 o2
  refine kjY_mono tz (fun r u _ _ q => ?_) (kx_perf52 (d := d) tz gz hb jz (by rw [(f0 10).2]; exact h10) hE (by rw [f17, (f0 13).1, (f0 14).1]; exact hlen) v1 v2)
  obtain ⟨q1, q2, q3, ⟨q4, q5⟩, q6, q7, q8, q9⟩ := q
  rw [f17, (f0 13).1, (f0 14).1] at q3
  rw [f17] at q7 q8
  refine ⟨q1, nm', ks', hp, q2, rz, eA, q3, ⟨q4.trans f17, q5.trans f16⟩, ⟨PF_tr ty hb cz.1 q6.1, cz.2.tr q6.2⟩, fun y => (q7 y).trans (f0 14).1, fun y1 y2 y3 => q8 y1 y2 (by rw [(f0 13).1]; exact y3), q9.trans (f0 13).1⟩
theorem cm_ntz {j : Nat} {e : Eff} (h18 : σ.1 59 18 = 0) (h : NTE ws j σ u e) : NTZ ws j u e := by
  cases e with
  | none => exact Eq.trans h h18
  | some x => exact h
theorem kx_perform0 (ty : kTY σ) (g : KO B σ ws nmm ks) (hj : CMD σ j) (hJ : JP B (σ.1 59 17) (σ.2.1 59 16) ws ks j) {b : Nat} (hb : b ∈ [5, 7]) {l : List Int32} (jn : JN b σ l) (h10 : σ.2.2.1 0 10 = some b) (hlen : (l ++ PFn (σ.1 59 17) (σ.1 0 13) (σ.1 0 14) (rnC (σ.1 59 17) (σ.2.1 59 16) ks j ws)).length ≤ 210000) :
    kjY kPP (kQQ Y) (d + 11) 27 0 (mjL0 3 [.ref 0, .null]) [] σ (pfP B b σ ws nmm ks l (rnC (σ.1 59 17) (σ.2.1 59 16) ks j ws)) := by
  refine kjZ_y rfl rfl 4 _ _ _ _ ty ?_
  refine (And.intro (ty.k (by decide) rfl) (And.intro (ty.k (by decide) rfl) (And.intro (Or.inr ⟨rfl, Or.inl rfl⟩) (fun ty' => ?_))))
  show kjY kPP (kQQ Y) (d + 11) 27 4 [some (.ref 0), some .null, none] [] (mjIu σ.1 59 18 (Int32.ofInt 0), σ.2) _
  have w1 : KWd σ B (mjIu σ.1 59 18 (Int32.ofInt 0), σ.2) ws nmm ks := (g.in_ ty).pi ty (by decide)
  have go1 : ∀ z, kTY z → z = (mjIu σ.1 59 18 (Int32.ofInt 0), σ.2) → kjY kPP (kQQ Y) (d + 11) 27 4 [some (.ref 0), some .null, none] [] z (pfP B b σ ws nmm ks l (rnC (σ.1 59 17) (σ.2.1 59 16) ks j ws)) := by
    intro z tz ez
    have w2 : KWd σ B (mjIu z.1 53 13 (Int32.ofInt 0), z.2) ws nmm ks := by
      rw [← ez] at w1; exact w1.pi tz (by decide)
    refine kjZ_y rfl rfl 4 _ _ _ _ tz ?_
    refine (And.intro (tz.k (by decide) rfl) (And.intro (tz.k (by decide) rfl) (And.intro (Or.inl rfl) (fun tz' => ?_))))
    show kjY kPP (kQQ Y) (d + 11) 27 8 [some (.ref 0), some .null, none] [] (mjIu z.1 53 13 (Int32.ofInt 0), z.2) _
    have go2 : ∀ y, kTY y → y = (mjIu z.1 53 13 (Int32.ofInt 0), z.2) → kjY kPP (kQQ Y) (d + 11) 27 8 [some (.ref 0), some .null, none] [] y (pfP B b σ ws nmm ks l (rnC (σ.1 59 17) (σ.2.1 59 16) ks j ws)) := by
      intro y t ey
      rw [← ey] at w2
      obtain ⟨gy, cy⟩ := g.stq ty w2
      have hI : ∀ h x, ¬ (h = 59 ∧ x = 18) → ¬ (h = 53 ∧ x = 13) → y.1 h x = σ.1 h x := fun h x n1 n2 => by
        rw [ey]; show mjIu z.1 53 13 _ h x = _
        rw [mjIu_at, if_neg n2, ez]; show mjIu σ.1 59 18 _ h x = _
        rw [mjIu_at, if_neg n1]
      have h2 : y.2 = σ.2 := by rw [ey, ez]
      have hL : y.2.1 = σ.2.1 := congrArg (fun t => t.1) h2
      have hF : y.2.2.1 = σ.2.2.1 := congrArg (fun t => t.2.1) h2
      have h13 : y.1 53 13 = 0 := by
        rw [ey]; show mjIu z.1 53 13 _ 53 13 = _; rw [mjIu_p]; rfl
      have h18 : y.1 59 18 = 0 := by
        rw [ey]; show mjIu z.1 53 13 (Int32.ofInt 0) 59 18 = _
        rw [mjIu_at, if_neg (by decide), ez]; show mjIu σ.1 59 18 (Int32.ofInt 0) 59 18 = _; rw [mjIu_p]; rfl
      have hjy : CMD y j := ⟨by rw [hF]; exact hj.1, hj.2⟩
      have h17 : y.1 59 17 = σ.1 59 17 := hI 59 17 (by decide) (by decide)
      have h16 : y.2.1 59 16 = σ.2.1 59 16 := by rw [hL]
      have kj : kCm (1000000 + j) := ⟨j, hj.2, rfl⟩
      have jc : JC B y ws nmm ks j := JP.jc (by rw [h17, h16]; exact hJ) (gy.in_ t) hjy h13 h18
      have eR : rnC (y.1 59 17) (y.2.1 59 16) ks j ws = rnC (σ.1 59 17) (σ.2.1 59 16) ks j ws := by rw [h17, h16]
      have ho : kOf 1003 (1000000 + j) (.int (kCmd j).2.2.1) := Or.inl ⟨j, hj.2, rfl, Or.inr (Or.inr (Or.inl ⟨rfl, rfl⟩))⟩
      refine kjZ_y rfl rfl 9 _ _ _ _ t ?_
      refine (And.intro (t.k (by decide) rfl) (And.intro (t.k (by decide) rfl) (Exists.intro _ (And.intro hjy.1 (And.intro (Nat.le_of_ble_eq_true rfl) (Exists.intro _ (And.intro ho ?_)))))))
      show kjY kPP (kQQ Y) (d + 11) 27 (kSg 1 (kCmd j).2.2.1) [some (.ref 0), some .null, some (.ref (1000000 + j))] [] y _
      have hly : (l ++ PFn (σ.1 59 17) (σ.1 0 13) (σ.1 0 14) (rnC (σ.1 59 17) (σ.2.1 59 16) ks j ws)).length ≤ 210000 := hlen
      have fin : ∀ r z, kTY z → cmP B y ws nmm ks j (rnC (y.1 59 17) (y.2.1 59 16) ks j ws) r z → kjY kPP (kQQ Y) (d + 11) 27 52 [some (.ref 0), some .null, some (.ref (1000000 + j))] [] z (pfP B b σ ws nmm ks l (rnC (σ.1 59 17) (σ.2.1 59 16) ks j ws)) := by
        intro r z tz q
        obtain ⟨-, nm', ks', p1, wz, rz, sz, eA, hN⟩ := q
        rw [eR] at eA hN
        obtain ⟨gz, cz⟩ := gy.stq t wz
        exact pf_of (d := d + 1) ty g hb jn h10 hlen tz p1 gz rz eA (Cq.tr ty cy cz) (cm_ntz h18 hN) _ _
      rcases kSg_1 j hj.2 with ⟨e, m⟩ | ⟨e, m⟩ | ⟨e, m⟩ | ⟨e, m⟩ | ⟨e, m⟩ | ⟨e, m⟩ | ⟨e, m⟩
      · rw [e]
        refine kjZ_y rfl rfl 4 _ _ _ _ t ?_
        refine (And.intro (t.k (by decide) rfl) (And.intro (Nat.le_of_ble_eq_true rfl) (And.intro (Or.inl ⟨(Nat.le_of_ble_eq_true rfl), (t.k (by decide) rfl)⟩) (And.intro (Nat.le_of_ble_eq_true rfl) (And.intro (Nat.le_of_ble_eq_true rfl) (kjY_mono t (fun q_ z1 t1 xx1 h_ => ?_) (kg_0 (d := d) t jc m)))))))
        have q := h_
        intro _ _
        obtain ⟨rfl, -⟩ := id q
        refine kjZ_y rfl rfl 1 _ _ _ _ t1 ?_
        exact fin none z1 t1 q
      · rw [e]
        refine kjZ_y rfl rfl 4 _ _ _ _ t ?_
        refine (And.intro (t.k (by decide) rfl) (And.intro (Nat.le_of_ble_eq_true rfl) (And.intro (Or.inl ⟨(Nat.le_of_ble_eq_true rfl), (t.k (by decide) rfl)⟩) (And.intro (Nat.le_of_ble_eq_true rfl) (And.intro (Nat.le_of_ble_eq_true rfl) (kjY_mono t (fun q_ z1 t1 xx1 h_ => ?_) (kg_1 (d := d) t jc m)))))))
        have q := h_
        intro _ _
        obtain ⟨rfl, -⟩ := id q
        refine kjZ_y rfl rfl 1 _ _ _ _ t1 ?_
        exact fin none z1 t1 q
      · rw [e]
        refine kjZ_y rfl rfl 4 _ _ _ _ t ?_
        refine (And.intro (t.k (by decide) rfl) (And.intro (Nat.le_of_ble_eq_true rfl) (And.intro (Or.inl ⟨(Nat.le_of_ble_eq_true rfl), (t.k (by decide) rfl)⟩) (And.intro (Nat.le_of_ble_eq_true rfl) (And.intro (Nat.le_of_ble_eq_true rfl) (kjY_mono t (fun q_ z1 t1 xx1 h_ => ?_) (kg_2 (d := d) t jc m)))))))
        have q := h_
        intro _ _
        obtain ⟨rfl, -⟩ := id q
        refine kjZ_y rfl rfl 1 _ _ _ _ t1 ?_
        exact fin none z1 t1 q
      · rw [e]
        refine kjZ_y rfl rfl 4 _ _ _ _ t ?_
        refine (And.intro (t.k (by decide) rfl) (And.intro (Nat.le_of_ble_eq_true rfl) (And.intro (Or.inl ⟨(Nat.le_of_ble_eq_true rfl), (t.k (by decide) rfl)⟩) (And.intro (Nat.le_of_ble_eq_true rfl) (And.intro (Nat.le_of_ble_eq_true rfl) (kjY_mono t (fun q_ z1 t1 xx1 h_ => ?_) (kg_3 (d := d) t jc m)))))))
        have q := h_
        intro _ _
        obtain ⟨rfl, -⟩ := id q
        refine kjZ_y rfl rfl 1 _ _ _ _ t1 ?_
        exact fin none z1 t1 q
      · rw [e]
        refine kjZ_y rfl rfl 4 _ _ _ _ t ?_
        refine (And.intro (t.k (by decide) rfl) (And.intro (Nat.le_of_ble_eq_true rfl) (And.intro (Or.inl ⟨(Nat.le_of_ble_eq_true rfl), (t.k (by decide) rfl)⟩) (And.intro (Nat.le_of_ble_eq_true rfl) (And.intro (Nat.le_of_ble_eq_true rfl) (kjY_mono t (fun q_ z1 t1 xx1 h_ => ?_) (kg_4 (d := d) t jc m)))))))
        have q := h_
        intro _ _
        obtain ⟨rfl, -⟩ := id q
        refine kjZ_y rfl rfl 1 _ _ _ _ t1 ?_
        exact fin none z1 t1 q
      · rw [e]
        refine kjZ_y rfl rfl 4 _ _ _ _ t ?_
        refine (And.intro (t.k (by decide) rfl) (And.intro (Nat.le_of_ble_eq_true rfl) (And.intro (Or.inl ⟨(Nat.le_of_ble_eq_true rfl), (t.k (by decide) rfl)⟩) (And.intro (Nat.le_of_ble_eq_true rfl) (And.intro (Nat.le_of_ble_eq_true rfl) (kjY_mono t (fun q_ z1 t1 xx1 h_ => ?_) (kg_5 (d := d) t jc m)))))))
        have q := h_
        intro _ _
        obtain ⟨rfl, -⟩ := id q
        refine kjZ_y rfl rfl 1 _ _ _ _ t1 ?_
        exact fin none z1 t1 q
      · rw [e, rn_oth m]
        have hE : ∀ z, SCl scA y z → NTZ ws j z none := fun z sz => (sz (59, 18) (by decide)).1.trans h18
        have hl0 : (l ++ PFn (σ.1 59 17) (σ.1 0 13) (σ.1 0 14) none).length ≤ 210000 := by rw [rn_oth m] at hlen; exact hlen
        have fin6 : ∀ r z, kTY z → otP B y ws nmm ks r z → kjY kPP (kQQ Y) (d + 11) 27 52 [some (.ref 0), some .null, some (.ref (1000000 + j))] [] z (pfP B b σ ws nmm ks l none) := by
          intro r z tz q
          obtain ⟨-, nm', p1, gz, sz, cz⟩ := q
          exact pf_of (d := d + 1) ty g hb jn h10 hl0 tz p1 gz hJ.1 rfl (Cq.tr ty cy cz) (hE z sz) _ _
        refine kjZ_y rfl rfl 4 _ _ _ _ t ?_
        refine (And.intro (Nat.le_of_ble_eq_true rfl) (And.intro (Or.inl ⟨(Nat.le_of_ble_eq_true rfl), (t.k (by decide) rfl)⟩) (And.intro (Nat.le_of_ble_eq_true rfl) (And.intro (Nat.le_of_ble_eq_true rfl) (kjY_mono t (fun q_ z1 t1 xx1 h_ => ?_) (kx_runOther0 (d := d + 10) t gy j hj.2))))))
        have q := h_
        intro _ _
        obtain ⟨rfl, -⟩ := id q
        exact fin6 _ z1 t1 q
    exact go2 _ tz' rfl
  exact go1 _ ty' rfl
theorem kx_perform (ty : kTY σ) (g : KO B σ ws nmm ks) (hj : CMD σ j) (hJ : JP B (σ.1 59 17) (σ.2.1 59 16) ws ks j) {b : Nat} (hb : b ∈ [5, 7]) {l : List Int32} (jn : JN b σ l) (h10 : σ.2.2.1 0 10 = some b) (hlen : (l ++ PFn (σ.1 59 17) (σ.1 0 13) (σ.1 0 14) (rnC (σ.1 59 17) (σ.2.1 59 16) ks j ws)).length ≤ 210000) (hbl : BLJ σ) {c : Nat} (hc : c ∈ CNs) :
    kjY kPP (kQQ Y) (d + 11) 27 0 (mjL0 3 [.ref 0, .ref c]) [] σ (pfP B b σ ws nmm ks l (rnC (σ.1 59 17) (σ.2.1 59 16) ks j ws)) := by
  obtain ⟨q1, q2, -⟩ := CN_ok c hc
  have kc : (σ.2.2.2.1 c).1 = 1 := ty.k q1 q2
  refine kjZ_y rfl rfl 4 _ _ _ _ ty ?_
  refine (And.intro (ty.k (by decide) rfl) (And.intro (ty.k (by decide) rfl) (And.intro (Or.inr ⟨rfl, Or.inl rfl⟩) (fun ty' => ?_))))
  show kjY kPP (kQQ Y) (d + 11) 27 4 [some (.ref 0), some (.ref c), none] [] (mjIu σ.1 59 18 (Int32.ofInt 0), σ.2) _
  have w1 : KWd σ B (mjIu σ.1 59 18 (Int32.ofInt 0), σ.2) ws nmm ks := (g.in_ ty).pi ty (by decide)
  have go1 : ∀ z, kTY z → z = (mjIu σ.1 59 18 (Int32.ofInt 0), σ.2) → kjY kPP (kQQ Y) (d + 11) 27 4 [some (.ref 0), some (.ref c), none] [] z (pfP B b σ ws nmm ks l (rnC (σ.1 59 17) (σ.2.1 59 16) ks j ws)) := by
    intro z tz ez
    have w2 : KWd σ B (mjIu z.1 53 13 (Int32.ofInt 0), z.2) ws nmm ks := by
      rw [← ez] at w1; exact w1.pi tz (by decide)
    refine kjZ_y rfl rfl 4 _ _ _ _ tz ?_
    refine (And.intro (tz.k (by decide) rfl) (And.intro (tz.k (by decide) rfl) (And.intro (Or.inl rfl) (fun tz' => ?_))))
    show kjY kPP (kQQ Y) (d + 11) 27 8 [some (.ref 0), some (.ref c), none] [] (mjIu z.1 53 13 (Int32.ofInt 0), z.2) _
    have go2 : ∀ y, kTY y → y = (mjIu z.1 53 13 (Int32.ofInt 0), z.2) → kjY kPP (kQQ Y) (d + 11) 27 8 [some (.ref 0), some (.ref c), none] [] y (pfP B b σ ws nmm ks l (rnC (σ.1 59 17) (σ.2.1 59 16) ks j ws)) := by
      intro y t ey
      rw [← ey] at w2
      obtain ⟨gy, cy⟩ := g.stq ty w2
      have hI : ∀ h x, ¬ (h = 59 ∧ x = 18) → ¬ (h = 53 ∧ x = 13) → y.1 h x = σ.1 h x := fun h x n1 n2 => by
        rw [ey]; show mjIu z.1 53 13 _ h x = _
        rw [mjIu_at, if_neg n2, ez]; show mjIu σ.1 59 18 _ h x = _
        rw [mjIu_at, if_neg n1]
      have h2 : y.2 = σ.2 := by rw [ey, ez]
      have hL : y.2.1 = σ.2.1 := congrArg (fun t => t.1) h2
      have hF : y.2.2.1 = σ.2.2.1 := congrArg (fun t => t.2.1) h2
      have h13 : y.1 53 13 = 0 := by
        rw [ey]; show mjIu z.1 53 13 _ 53 13 = _; rw [mjIu_p]; rfl
      have h18 : y.1 59 18 = 0 := by
        rw [ey]; show mjIu z.1 53 13 (Int32.ofInt 0) 59 18 = _
        rw [mjIu_at, if_neg (by decide), ez]; show mjIu σ.1 59 18 (Int32.ofInt 0) 59 18 = _; rw [mjIu_p]; rfl
      have hjy : CMD y j := ⟨by rw [hF]; exact hj.1, hj.2⟩
      have h17 : y.1 59 17 = σ.1 59 17 := hI 59 17 (by decide) (by decide)
      have h16 : y.2.1 59 16 = σ.2.1 59 16 := by rw [hL]
      have kj : kCm (1000000 + j) := ⟨j, hj.2, rfl⟩
      have jc : JC B y ws nmm ks j := JP.jc (by rw [h17, h16]; exact hJ) (gy.in_ t) hjy h13 h18
      have eR : rnC (y.1 59 17) (y.2.1 59 16) ks j ws = rnC (σ.1 59 17) (σ.2.1 59 16) ks j ws := by rw [h17, h16]
      have ho : kOf 1003 (1000000 + j) (.int (kCmd j).2.2.1) := Or.inl ⟨j, hj.2, rfl, Or.inr (Or.inr (Or.inl ⟨rfl, rfl⟩))⟩
      refine kjZ_y rfl rfl 9 _ _ _ _ t ?_
      refine (And.intro (t.k (by decide) rfl) (And.intro (t.k (by decide) rfl) (Exists.intro _ (And.intro hjy.1 (And.intro (Nat.le_of_ble_eq_true rfl) (Exists.intro _ (And.intro ho ?_)))))))
      show kjY kPP (kQQ Y) (d + 11) 27 (kSg 1 (kCmd j).2.2.1) [some (.ref 0), some (.ref c), some (.ref (1000000 + j))] [] y _
      have hly : (l ++ PFn (σ.1 59 17) (σ.1 0 13) (σ.1 0 14) (rnC (σ.1 59 17) (σ.2.1 59 16) ks j ws)).length ≤ 210000 := hlen
      have fin : ∀ r z, kTY z → cmP B y ws nmm ks j (rnC (y.1 59 17) (y.2.1 59 16) ks j ws) r z → kjY kPP (kQQ Y) (d + 11) 27 52 [some (.ref 0), some (.ref c), some (.ref (1000000 + j))] [] z (pfP B b σ ws nmm ks l (rnC (σ.1 59 17) (σ.2.1 59 16) ks j ws)) := by
        intro r z tz q
        obtain ⟨-, nm', ks', p1, wz, rz, sz, eA, hN⟩ := q
        rw [eR] at eA hN
        obtain ⟨gz, cz⟩ := gy.stq t wz
        exact pf_of (d := d + 1) ty g hb jn h10 hlen tz p1 gz rz eA (Cq.tr ty cy cz) (cm_ntz h18 hN) _ _
      rcases kSg_1 j hj.2 with ⟨e, m⟩ | ⟨e, m⟩ | ⟨e, m⟩ | ⟨e, m⟩ | ⟨e, m⟩ | ⟨e, m⟩ | ⟨e, m⟩
      · rw [e]
        refine kjZ_y rfl rfl 4 _ _ _ _ t ?_
        refine (And.intro (t.k (by decide) rfl) (And.intro (Nat.le_of_ble_eq_true rfl) (And.intro (Or.inl ⟨(Nat.le_of_ble_eq_true rfl), (t.k (by decide) rfl)⟩) (And.intro (Nat.le_of_ble_eq_true rfl) (And.intro (Nat.le_of_ble_eq_true rfl) (kjY_mono t (fun q_ z1 t1 xx1 h_ => ?_) (kg_0 (d := d) t jc m)))))))
        have q := h_
        intro _ _
        obtain ⟨rfl, -⟩ := id q
        refine kjZ_y rfl rfl 1 _ _ _ _ t1 ?_
        exact fin none z1 t1 q
      · rw [e]
        refine kjZ_y rfl rfl 4 _ _ _ _ t ?_
        refine (And.intro (t.k (by decide) rfl) (And.intro (Nat.le_of_ble_eq_true rfl) (And.intro (Or.inl ⟨(Nat.le_of_ble_eq_true rfl), (t.k (by decide) rfl)⟩) (And.intro (Nat.le_of_ble_eq_true rfl) (And.intro (Nat.le_of_ble_eq_true rfl) (kjY_mono t (fun q_ z1 t1 xx1 h_ => ?_) (kg_1 (d := d) t jc m)))))))
        have q := h_
        intro _ _
        obtain ⟨rfl, -⟩ := id q
        refine kjZ_y rfl rfl 1 _ _ _ _ t1 ?_
        exact fin none z1 t1 q
      · rw [e]
        refine kjZ_y rfl rfl 4 _ _ _ _ t ?_
        refine (And.intro (t.k (by decide) rfl) (And.intro (Nat.le_of_ble_eq_true rfl) (And.intro (Or.inl ⟨(Nat.le_of_ble_eq_true rfl), (t.k (by decide) rfl)⟩) (And.intro (Nat.le_of_ble_eq_true rfl) (And.intro (Nat.le_of_ble_eq_true rfl) (kjY_mono t (fun q_ z1 t1 xx1 h_ => ?_) (kg_2 (d := d) t jc m)))))))
        have q := h_
        intro _ _
        obtain ⟨rfl, -⟩ := id q
        refine kjZ_y rfl rfl 1 _ _ _ _ t1 ?_
        exact fin none z1 t1 q
      · rw [e]
        refine kjZ_y rfl rfl 4 _ _ _ _ t ?_
        refine (And.intro (t.k (by decide) rfl) (And.intro (Nat.le_of_ble_eq_true rfl) (And.intro (Or.inl ⟨(Nat.le_of_ble_eq_true rfl), (t.k (by decide) rfl)⟩) (And.intro (Nat.le_of_ble_eq_true rfl) (And.intro (Nat.le_of_ble_eq_true rfl) (kjY_mono t (fun q_ z1 t1 xx1 h_ => ?_) (kg_3 (d := d) t jc m)))))))
        have q := h_
        intro _ _
        obtain ⟨rfl, -⟩ := id q
        refine kjZ_y rfl rfl 1 _ _ _ _ t1 ?_
        exact fin none z1 t1 q
      · rw [e]
        refine kjZ_y rfl rfl 4 _ _ _ _ t ?_
        refine (And.intro (t.k (by decide) rfl) (And.intro (Nat.le_of_ble_eq_true rfl) (And.intro (Or.inl ⟨(Nat.le_of_ble_eq_true rfl), (t.k (by decide) rfl)⟩) (And.intro (Nat.le_of_ble_eq_true rfl) (And.intro (Nat.le_of_ble_eq_true rfl) (kjY_mono t (fun q_ z1 t1 xx1 h_ => ?_) (kg_4 (d := d) t jc m)))))))
        have q := h_
        intro _ _
        obtain ⟨rfl, -⟩ := id q
        refine kjZ_y rfl rfl 1 _ _ _ _ t1 ?_
        exact fin none z1 t1 q
      · rw [e]
        refine kjZ_y rfl rfl 4 _ _ _ _ t ?_
        refine (And.intro (t.k (by decide) rfl) (And.intro (Nat.le_of_ble_eq_true rfl) (And.intro (Or.inl ⟨(Nat.le_of_ble_eq_true rfl), (t.k (by decide) rfl)⟩) (And.intro (Nat.le_of_ble_eq_true rfl) (And.intro (Nat.le_of_ble_eq_true rfl) (kjY_mono t (fun q_ z1 t1 xx1 h_ => ?_) (kg_5 (d := d) t jc m)))))))
        have q := h_
        intro _ _
        obtain ⟨rfl, -⟩ := id q
        refine kjZ_y rfl rfl 1 _ _ _ _ t1 ?_
        exact fin none z1 t1 q
      · rw [e, rn_oth m]
        have hE : ∀ z, SCl scA y z → NTZ ws j z none := fun z sz => (sz (59, 18) (by decide)).1.trans h18
        have hl0 : (l ++ PFn (σ.1 59 17) (σ.1 0 13) (σ.1 0 14) none).length ≤ 210000 := by rw [rn_oth m] at hlen; exact hlen
        have fin6 : ∀ r z, kTY z → otP B y ws nmm ks r z → kjY kPP (kQQ Y) (d + 11) 27 52 [some (.ref 0), some (.ref c), some (.ref (1000000 + j))] [] z (pfP B b σ ws nmm ks l none) := by
          intro r z tz q
          obtain ⟨-, nm', p1, gz, sz, cz⟩ := q
          exact pf_of (d := d + 1) ty g hb jn h10 hl0 tz p1 gz hJ.1 rfl (Cq.tr ty cy cz) (hE z sz) _ _
        refine kjZ_y rfl rfl 4 _ _ _ _ t ?_
        refine (And.intro (Nat.le_of_ble_eq_true rfl) (And.intro (Or.inl ⟨(Nat.le_of_ble_eq_true rfl), (t.k (by decide) rfl)⟩) (And.intro (Nat.le_of_ble_eq_true rfl) (And.intro (Nat.le_of_ble_eq_true rfl) (kjY_mono t (fun q_ z1 t1 xx1 h_ => ?_) (kx_runOther (d := d) t gy (hbl.frq ty cy) hJ.2.1 hJ.2.2.1.1 hc hj.2 (fun z => by subst z; exact (jc.gw_ (a := 2) (k := 1) rfl (by decide) (by decide)).1)))))))
        have q := h_
        intro _ _
        obtain ⟨rfl, -⟩ := id q
        exact fin6 _ z1 t1 q
    exact go2 _ tz' rfl
  exact go1 _ ty' rfl
end KPERF3
