/-! A block begins to run: EXEC. -/
def emB_ (σ u : kS) (e : Nat) : Prop := (kBY u e [] ∧ u.1 e 3 = 0) ∧ ∀ b ∈ payB, ¬ b = e → ∀ l, kBY σ b l → kBY u b l ∧ u.1 b 3 = σ.1 b 3
def bbP (B : List (List Int32)) (σ : kS) (ws nm : List (List Int32)) (ks : List KC) (c bk rn : Nat) : kK := fun r u => KO B u ws nm ks ∧ Ch true (bbF c) AFo σ u ∧ (u.1 c 4 = 0 ∧ u.1 c 7 = 0) ∧
  ((r = some (.int 0) ∧ u.2.2.1 c 3 = some bk ∧ u.2.2.1 0 12 = some rn ∧ u.1 0 13 = σ.1 0 13 ∧ emB_ σ u bk) ∨ (r = some (.int (σ.1 c 7)) ∧ u.2.2.1 c 3 = some rn ∧ u.2.2.1 0 12 = some bk ∧ (u.1 0 13 = 1 ∧ u.1 0 14 = 0 ∧ u.1 0 15 = 0) ∧ emB_ σ u rn))
section KBEGINB
variable {Y : Nat → MethodName × ByteArray} {d : Nat} {σ u : kS} {B ws nm nm' : List (List Int32)} {ks ks' : List KC}
theorem kx_nilRow_ (ty : kTY σ) {σ0 : kS} (w : KWd σ0 B σ ws nm ks) {b : Nat} (hb : b ∈ ANb) : kjY kPP (kQQ Y) (d + 5) 61 0 (mjL0 1 [.ref b]) [] σ (wP σ0 B σ ws nm ks) := by
  have hb := ANb_n b hb
  obtain ⟨l, hl⟩ := w.2.2.2.2.2.1 b hb
  exact kjY_mono ty (fun _ _ _ _ q => w.op ty hb q) (k_nilRow ty w.2.1.1 (ANn_b b hb).1 hl (opQ_an hb w.2.1.2 l))
theorem kx_beginBlock (ty : kTY σ) (g : KO B σ ws nm ks) {c bk rn : Nat} (hc : c ∈ CNs) (hbk : bk ∈ payB) (hrn : rn ∈ payB) (eb : σ.2.2.1 c 3 = some bk) (er : σ.2.2.1 0 12 = some rn) : kjY kPP (kQQ Y) (d + 6) 25 0 (mjL0 4 [.ref 0, .ref c]) [] σ (bbP B σ ws nm ks c bk rn) := by
  obtain ⟨q1, q2, q3, q4, -⟩ := CN_ok c hc
  have qc : ∀ c ∈ CNs, ¬ (c, 3) ∈ kcF ∧ ¬ (c, 7) ∈ kcF ∧ (c + 3) ∈ ANb ∧ ¬ c = 0 := by decide +kernel
  obtain ⟨n1, n2, n3, n4⟩ := qc c hc
  have q0 : ∀ x ∈ [12, 13, 14, 15], ¬ (0, x) ∈ kcF := by decide +kernel
  have up : ∀ {z v : kS}, Ch true kcF kcO z v → Ch true (bbF c) AFo z v := fun h => h.up (fun z => z) (fun p hp => bbF_o p (AFf_k p hp)) AFo_k
  have fin : ∀ (z : kS) (x2 : Int32) (o3 : Option Value) (e e' : Nat), kTY z → KO B z ws nm ks → Ch true (bbF c) AFo σ z → KPb σ z → e ∈ payB → z.2.2.1 c 3 = some e → z.2.2.1 0 12 = some e' → ((x2 = 0 ∧ e = bk ∧ e' = rn ∧ z.1 0 13 = σ.1 0 13) ∨ (x2 = σ.1 c 7 ∧ e = rn ∧ e' = bk ∧ (z.1 0 13 = 1 ∧ z.1 0 14 = 0 ∧ z.1 0 15 = 0))) →
      kjY kPP (kQQ Y) (d + 6) 25 43 [some (.ref 0), some (.ref c), some (.int x2), o3] [] z (bbP B σ ws nm ks c bk rn) := by
    intro z x2 o3 e e' tz gz cz kz he f1 f2 hx
    have kc : (z.2.2.2.1 c).1 = 1 := tz.k q1 q2
    refine kjZ_y rfl rfl 2 _ _ _ _ tz ?_
    refine (And.intro (Nat.le_of_ble_eq_true rfl) (And.intro (Or.inl ⟨(Nat.le_of_ble_eq_true rfl), (by assumption)⟩) (And.intro (Nat.le_of_ble_eq_true rfl) (And.intro (Nat.le_of_ble_eq_true rfl) (kjY_mono tz (fun q_ u1 ty1 xu1 h_ => ?_) (kO_endBlock2 (d := d + 4) tz gz hc he f1))))))
    obtain ⟨rfl, g1, c1, i1, em1, kp1, eF, e0⟩ := h_
    intro _ _
    refine kjZ_y rfl rfl 2 _ _ _ _ ty1 ?_
    refine And.intro rfl (And.intro (Or.inl rfl) ?_)
    have em : emB_ σ u1 e := ⟨em1, fun b hb hne l hl => by
      obtain ⟨a1, a2⟩ := kz b hb l hl
      obtain ⟨a3, a4⟩ := kp1 b hb hne l a1
      exact ⟨a3, a4.trans a2⟩⟩
    refine ⟨g1, Ch.tr ty AFo_in cz c1, i1, ?_⟩
    rcases hx with ⟨rfl, rfl, rfl, h3⟩ | ⟨rfl, rfl, rfl, h3, h4, h5⟩
    · exact Or.inl ⟨rfl, by rw [eF]; exact f1, by rw [eF]; exact f2, (e0 13).trans h3, em⟩
    · exact Or.inr ⟨rfl, by rw [eF]; exact f1, by rw [eF]; exact f2, ⟨(e0 13).trans h3, (e0 14).trans h4, (e0 15).trans h5⟩, em⟩
  have stay : ∀ {z : kS}, Ch true kcF kcO σ z → KPb σ z ∧ z.2.2.1 c 3 = some bk ∧ z.2.2.1 0 12 = some rn ∧ z.1 0 13 = σ.1 0 13 ∧ z.1 c 7 = σ.1 c 7 := fun ch => by
    have f0 := fun x (hx : x ∈ [12, 13, 14, 15]) => ch.fld ty (h := 0) (c := 9) (x := x) (by decide) rfl (by decide) (q0 x hx)
    exact ⟨KPb.ch ty g.1.1.1 ch, by rw [(ch.fld ty q1 q2 (by decide) n1).2.2]; exact eb, by rw [(f0 12 (by decide)).2.2]; exact er, (f0 13 (by decide)).1, (ch.fld ty q1 q2 (by decide) n2).1⟩
  have kc : (σ.2.2.2.1 c).1 = 1 := ty.k q1 q2
  refine kjZ_y rfl rfl 5 _ _ _ _ ty ?_
  refine (And.intro (Nat.le_of_ble_eq_true rfl) (And.intro (by assumption) (And.intro (fun c1 => ?_) (fun c1 => ?_))))
  rotate_left
  · refine kjZ_y rfl rfl 4 _ _ _ _ ty ?_
    refine (And.intro (ty.k (by decide) rfl) (And.intro rfl (And.intro (Nat.le_of_ble_eq_true rfl) (And.intro (Or.inl ⟨(Nat.le_of_ble_eq_true rfl), (ty.k (by decide) rfl)⟩) (And.intro (Nat.le_of_ble_eq_true rfl) (And.intro (Nat.le_of_ble_eq_true rfl) (kjY_mono ty (fun q_ u1 ty1 xu1 h_ => ?_) (kx_refuse ty (g.in_ ty) (by decide)))))))))
    obtain ⟨rfl, w1, s1⟩ := h_
    intro _ _
    refine kjZ_y rfl rfl 1 _ _ _ _ ty1 ?_
    obtain ⟨k1, f1, f2, i1, -⟩ := stay w1.1.2
    exact fin u1 _ _ bk rn ty1 (g.st ty w1).1 (up w1.1.2) k1 hbk f1 f2 (Or.inl ⟨rfl, rfl, rfl, i1⟩)
  refine kjZ_y rfl rfl 3 _ _ _ _ ty ?_
  refine (And.intro (by assumption) (And.intro (fun c2 => ?_) (fun c2 => ?_)))
  rotate_left
  · have ko := ob_k ty q4
    refine kjZ_y rfl rfl 3 _ _ _ _ ty ?_
    refine (And.intro (by assumption) (And.intro (Nat.le_of_ble_eq_true rfl) (And.intro (Or.inl ⟨(Nat.le_of_ble_eq_true rfl), (by assumption)⟩) (And.intro (Nat.le_of_ble_eq_true rfl) (And.intro (Nat.le_of_ble_eq_true rfl) (kjY_mono ty (fun q_ u1 ty1 xu1 h_ => ?_) (kx_nilRow_ ty (g.in_ ty) n3)))))))
    obtain ⟨rfl, w1, s1⟩ := h_
    intro _ _
    refine kjZ_y rfl rfl 1 _ _ _ _ ty1 ?_
    obtain ⟨k1, f1, f2, i1, -⟩ := stay w1.1.2
    exact fin u1 _ _ bk rn ty1 (g.st ty w1).1 (up w1.1.2) k1 hbk f1 f2 (Or.inl ⟨rfl, rfl, rfl, i1⟩)
  have ko := ob_k ty q4
  refine kjZ_y rfl rfl 7 _ _ _ _ ty ?_
  refine (And.intro (by assumption) (And.intro (Nat.le_of_ble_eq_true rfl) (And.intro (by assumption) (And.intro (Nat.le_of_ble_eq_true rfl) (And.intro (Or.inl ⟨(Nat.le_of_ble_eq_true rfl), (by assumption)⟩) (And.intro (Nat.le_of_ble_eq_true rfl) (And.intro (Nat.le_of_ble_eq_true rfl) (kjY_mono ty (fun q_ u1 ty1 xu1 h_ => ?_) (kx_rowHead ty (g.in_ ty) n3 _)))))))))
  obtain ⟨rfl, w1, s1⟩ := h_
  intro _ _
  obtain ⟨k1, f1, f2, -, -⟩ := stay w1.1.2
  have g1 := (g.st ty w1).1
  have ch1 := up w1.1.2
  have kc1 : (u1.2.2.2.1 c).1 = 1 := ty1.k q1 q2
  have kb1 := ob_k ty1 (P_ok bk hbk).1
  have kr1 := ob_k ty1 (P_ok rn hrn).1
  refine kjZ_y rfl rfl 3 _ _ _ _ ty1 ?_
  refine (And.intro (by assumption) (Exists.intro _ (And.intro f1 (And.intro (Nat.le_of_ble_eq_true rfl) ?_))))
  refine kjZ_y rfl rfl 4 _ _ _ _ ty1 ?_
  refine (And.intro (ty1.k (by decide) rfl) (Exists.intro _ (And.intro f2 (And.intro (by assumption) (And.intro (Or.inl ⟨rfl, by assumption⟩) (fun ty1' => ?_))))))
  have go : ∀ z x2, kTY z → x2 = σ.1 c 7 → z = (u1.1, u1.2.1, kFu u1.2.2.1 c 3 (some rn), u1.2.2.2) → kjY kPP (kQQ Y) (d + 6) 25 31 [some (.ref 0), some (.ref c), some (.int x2), some (.ref bk)] [] z (bbP B σ ws nm ks c bk rn) := by
    intro z x2 tz ex2 ez
    obtain ⟨gz, kz, cz⟩ := g1.fi ty1 hc (h := c) (x := 3) (o := some rn) (Or.inr rfl) ez
    have kb2 := ob_k tz (P_ok bk hbk).1
    have fz : z.2.2.1 c 3 = some rn := by
      rw [ez]; show kFu u1.2.2.1 c 3 (some rn) c 3 = _
      rw [kFu_at, if_pos ⟨rfl, rfl⟩]
    refine kjZ_y rfl rfl 3 _ _ _ _ tz ?_
    refine (And.intro (tz.k (by decide) rfl) (And.intro (Or.inl ⟨rfl, by assumption⟩) (fun tz' => ?_)))
    have go2 : ∀ y, kTY y → y = (z.1, z.2.1, kFu z.2.2.1 0 12 (some bk), z.2.2.2) → kjY kPP (kQQ Y) (d + 6) 25 34 [some (.ref 0), some (.ref c), some (.int x2), some (.ref bk)] [] y (bbP B σ ws nm ks c bk rn) := by
      intro y t2 ey
      obtain ⟨g2, k2, c2'⟩ := gz.fi tz hc (h := 0) (x := 12) (o := some bk) (Or.inl rfl) ey
      have fy : y.2.2.1 c 3 = some rn := by
        rw [ey]; show kFu z.2.2.1 0 12 (some bk) c 3 = _
        rw [kFu_at, if_neg (fun w => n4 w.1)]; exact fz
      have fy2 : y.2.2.1 0 12 = some bk := by
        rw [ey]; show kFu z.2.2.1 0 12 (some bk) 0 12 = _
        rw [kFu_at, if_pos ⟨rfl, rfl⟩]
      refine kjZ_y rfl rfl 3 _ _ _ _ t2 ?_
      refine (And.intro (t2.k (by decide) rfl) (And.intro (Or.inr ⟨rfl, Or.inr rfl⟩) (fun t2' => ?_)))
      have go3 : ∀ v, kTY v → v = (mjIu y.1 0 13 (Int32.ofInt 1), y.2) → kjY kPP (kQQ Y) (d + 6) 25 37 [some (.ref 0), some (.ref c), some (.int x2), some (.ref bk)] [] v (bbP B σ ws nm ks c bk rn) := by
        intro v t3 ev
        obtain ⟨g3, k3, c3⟩ := g2.oi2 t2 (c := c) (x := 13) (by decide) ev
        refine kjZ_y rfl rfl 3 _ _ _ _ t3 ?_
        refine (And.intro (t3.k (by decide) rfl) (And.intro (Or.inr ⟨rfl, Or.inl rfl⟩) (fun t3' => ?_)))
        have go4 : ∀ w, kTY w → w = (mjIu v.1 0 14 (Int32.ofInt 0), v.2) → kjY kPP (kQQ Y) (d + 6) 25 40 [some (.ref 0), some (.ref c), some (.int x2), some (.ref bk)] [] w (bbP B σ ws nm ks c bk rn) := by
          intro w t4 ew
          obtain ⟨g4, k4, c4⟩ := g3.oi2 t3 (c := c) (x := 14) (by decide) ew
          refine kjZ_y rfl rfl 3 _ _ _ _ t4 ?_
          refine (And.intro (t4.k (by decide) rfl) (And.intro (Or.inl rfl) (fun t4' => ?_)))
          have go5 : ∀ a, kTY a → a = (mjIu w.1 0 15 (Int32.ofInt 0), w.2) → kjY kPP (kQQ Y) (d + 6) 25 43 [some (.ref 0), some (.ref c), some (.int x2), some (.ref bk)] [] a (bbP B σ ws nm ks c bk rn) := by
            intro a t5 ea
            obtain ⟨g5, k5, c5⟩ := g4.oi2 t4 (c := c) (x := 15) (by decide) ea
            have aF : a.2.2.1 = y.2.2.1 := by rw [ea, ew, ev]
            have aI : ∀ x, a.1 0 x = if x = 15 then 0 else if x = 14 then 0 else if x = 13 then 1 else y.1 0 x := fun x => by
              rw [ea]; show mjIu w.1 0 15 _ 0 x = _
              rw [mjIu_at, ew]; show (if _ then _ else mjIu v.1 0 14 _ 0 x) = _
              rw [mjIu_at, ev]; show (if _ then _ else if _ then _ else mjIu y.1 0 13 _ 0 x) = _
              rw [mjIu_at]
              by_cases z1 : x = 15
              · rw [if_pos ⟨rfl, z1⟩, if_pos z1]; rfl
              · rw [if_neg (fun q => z1 q.2), if_neg z1]
                by_cases z2 : x = 14
                · rw [if_pos ⟨rfl, z2⟩, if_pos z2]; rfl
                · rw [if_neg (fun q => z2 q.2), if_neg z2]
                  by_cases z3 : x = 13
                  · rw [if_pos ⟨rfl, z3⟩, if_pos z3]; rfl
                  · rw [if_neg (fun q => z3 q.2), if_neg z3]
            have tr := fun {x y z : kS} (tx : kTY x) (p : Ch true (bbF c) AFo x y) (q : Ch true (bbF c) AFo y z) => Ch.tr tx AFo_in p q
            exact fin a x2 _ rn bk t5 g5 (tr ty (tr ty (tr ty (tr ty (tr ty ch1 cz) c2') c3) c4) c5) (((((k1.tr kz).tr k2).tr k3).tr k4).tr k5) hrn (by rw [aF]; exact fy) (by rw [aF]; exact fy2) (Or.inr ⟨ex2, rfl, rfl, by rw [aI]; rfl, by rw [aI]; rfl, by rw [aI]; rfl⟩)
          exact go5 _ t4' rfl
        exact go4 _ t3' rfl
      exact go3 _ t2' rfl
    exact go2 _ tz' rfl
  exact go _ _ ty1' rfl rfl
end KBEGINB
