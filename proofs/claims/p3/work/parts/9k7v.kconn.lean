/-! Connection: it closes, its block ends. -/
section KCONN
variable {Y : Nat → MethodName × ByteArray} {d : Nat} {σ u : kS} {B ws nm nm' : List (List Int32)} {ks ks' : List KC}
/-- a row of bytes is emptied -/
theorem KG.em (ty : kTY σ) (g : KG B σ nm ks) {b : Nat} (hb : b ∈ OWb) (eu : u = (mjIu (mjIu σ.1 b 2 0) b 3 0, σ.2)) : KG B u nm ks ∧ kBY u b [] ∧ u.1 b 3 = 0 ∧ ∀ b' ∈ OWb, ¬ b' = b → ∀ l', kBY σ b' l' → kBY u b' l' := by
  have kb := ob_k ty hb
  have eI : ∀ h x, u.1 h x = if h = b ∧ x = 3 then 0 else if h = b ∧ x = 2 then 0 else σ.1 h x := fun h x => by
    rw [eu]; show mjIu (mjIu σ.1 b 2 0) b 3 0 h x = _; rw [mjIu_at, mjIu_at]
  have e2 : u.2 = σ.2 := by rw [eu]
  have eF : u.2.2.1 = σ.2.2.1 := congrArg (fun t => t.2.1) e2
  have eD : u.2.2.2.1 = σ.2.2.2.1 := congrArg (fun t => t.2.2.1) e2
  have ch : Ch false [(b, 1), (b, 2), (b, 3)] [(b, 1)] σ u := by
    have a := Ch_i (vs := false) (σ := σ) (a := b) (x := 2) (v := 0) (by rw [kb]; decide)
    have c := Ch_i (vs := false) (σ := (mjIu σ.1 b 2 0, σ.2)) (a := b) (x := 3) (v := 0) (by show (σ.2.2.2.1 b).1 < 20; rw [kb]; decide)
    have a' : Ch false [(b, 1), (b, 2), (b, 3)] [(b, 1)] σ (mjIu σ.1 b 2 0, σ.2) := a.up (fun z => z) (fun p hp => by rw [List.mem_singleton.mp hp]; exact List.mem_cons_of_mem _ List.mem_cons_self) (fun p hp => by cases hp)
    have c' : Ch false [(b, 1), (b, 2), (b, 3)] [(b, 1)] (mjIu σ.1 b 2 0, σ.2) u := by
      rw [eu]; exact c.up (fun z => z) (fun p hp => by rw [List.mem_singleton.mp hp]; exact List.mem_cons_of_mem _ (List.mem_cons_of_mem _ List.mem_cons_self)) (fun p hp => by cases hp)
    exact Ch.tr ty (fun p hp => by rw [List.mem_singleton.mp hp]; exact ow_b hb) a' c'
  have ow : OWN u := g.1.1.same (fun p _ => by rw [eF])
  have u2 : u.1 b 2 = 0 := by rw [eI, if_neg (fun z => absurd z.2 (by decide)), if_pos ⟨rfl, rfl⟩]
  have n59 : ¬ 59 = b := fun z => by rw [← z] at hb; exact absurd hb (by decide)
  have po : POT u := by
    refine (POT_PO (b := b)).mpr (PO.same ((POT_PO (b := b)).mp g.1.2) ?_ (fun p hp => kl_eq ty ch.1 hp (by rw [eF])) (fun b' hb' hne => ?_) ?_ ⟨by rw [e2], by rw [e2]⟩)
    · unfold ksz; rw [u2]; exact Nat.zero_le _
    · rw [eI, if_neg (fun z => hne z.1), if_neg (fun z => hne z.1)]
    · rw [eI, if_neg (fun z => n59 z.1), if_neg (fun z => n59 z.1)]
  obtain ⟨l, r, N, h1, h2, h3, h4, h5, h6, h7⟩ := g.2.2.2.1 b hb
  have hk : kBY u b [] := ⟨r, N, by rw [eF]; exact h1, by rw [eD]; exact h2, h3, by rw [eI, if_neg (fun z => absurd z.2 (by decide)), if_neg (fun z => absurd z.2 (by decide))]; exact h4, u2, Nat.zero_le _, rfl⟩
  obtain ⟨k1, k2⟩ := g.by_ ty hb ch ow po hk
  exact ⟨k1, hk, by rw [eI, if_pos ⟨rfl, rfl⟩], k2⟩
/-- how many watches, how many channels -/
theorem KG.cn (ty : kTY σ) (g : KG B σ nm ks) {c x n : Nat} (hc : c ∈ CNs) (hx : (x = 9 ∧ n ≤ 64) ∨ (x = 11 ∧ n ≤ 32)) (eu : u = (mjIu σ.1 c x (nI n), σ.2)) : KG B u nm ks ∧ ∀ b' ∈ OWb, ∀ l', kBY σ b' l' → kBY u b' l' := by
  have q : ∀ c ∈ CNs, c < 76 ∧ (kd0 c).1 = 1 ∧ ¬ c = 48 ∧ ¬ c = 59 ∧ ¬ c = 71 ∧ ∀ b ∈ OWb, ¬ c = b := by decide
  obtain ⟨q1, q2, q3, q4, q5, q6⟩ := q c hc
  have kc : (σ.2.2.2.1 c).1 = 1 := ty.k q1 q2
  have eI : ∀ h y, u.1 h y = if h = c ∧ y = x then nI n else σ.1 h y := fun h y => by
    rw [eu]; show mjIu σ.1 c x _ h y = _; rw [mjIu_at]
  have ch : Ch false [(c, x)] [] σ u := by rw [eu]; exact Ch_i (by rw [kc]; decide)
  have f1 : ∀ p ∈ [(c, x)], p.1 = c := by simp
  have n59 : ∀ p ∈ stKf, p.1 = 59 := by decide
  have eF : u.2.2.1 = σ.2.2.1 := by rw [eu]
  have oth : ∀ b' ∈ OWb, ∀ l', kBY σ b' l' → kBY u b' l' := fun b' hb' l' hl' => hl'.fr ty g.1.1 hb' ch (fun p hp => by rw [f1 p hp]; exact q6 b' hb') (fun p hp => by cases hp)
  refine ⟨?_, oth⟩
  have ow : OWN u := g.1.1.same (fun p _ => by rw [eF])
  have po : POT u := g.1.2.same (fun p hp => kl_eq ty ch.1 hp (by rw [eF])) (fun b hb => by rw [eI, if_neg (fun z => q6 b hb z.1.symm)]) (by rw [eI, if_neg (fun z => q4 z.1.symm)]) ⟨by rw [eu], by rw [eu]⟩
  obtain ⟨w2, w3, ⟨fr, vs, w5, w5'⟩, w6, w8, w9, w10⟩ := g
  refine ⟨⟨ow, po⟩, ⟨w3.1.fr ty w2.1 ch (fun p hp => by rw [f1 p hp]; exact q3) (fun p hp => by cases hp), w3.2⟩, ⟨fr, vs, w5.fr ty w2.1 ch (fun p hp => ⟨by rw [f1 p hp]; exact q1, fun z => q4 (by rw [← f1 p hp]; exact n59 p z)⟩) (fun p hp => by cases hp), w5'⟩, fun b' hb' => ?_, w8.fr ty w2.1 ch (fun p hp => by rw [f1 p hp]; exact q5) (fun p hp => by cases hp), fun c' hc' => ?_, fun c' hc' => ?_⟩
  · obtain ⟨l', hl'⟩ := w6 b' hb'
    exact ⟨l', oth b' hb' l' hl'⟩
  · obtain ⟨m, hm, e⟩ := w9 c' hc'
    rcases hx with ⟨h1, h2⟩ | ⟨h1, h2⟩
    · by_cases z : c' = c
      · exact ⟨n, h2, by rw [eI, if_pos ⟨z, h1.symm⟩]⟩
      · exact ⟨m, hm, by rw [eI, if_neg (fun y => z y.1)]; exact e⟩
    · exact ⟨m, hm, by rw [eI, if_neg (fun y => absurd (y.2.trans h1) (by decide))]; exact e⟩
  · obtain ⟨m, hm, e⟩ := w10 c' hc'
    rcases hx with ⟨h1, h2⟩ | ⟨h1, h2⟩
    · exact ⟨m, hm, by rw [eI, if_neg (fun y => absurd (y.2.trans h1) (by decide))]; exact e⟩
    · by_cases z : c' = c
      · exact ⟨n, h2, by rw [eI, if_pos ⟨z, h1.symm⟩]⟩
      · exact ⟨m, hm, by rw [eI, if_neg (fun y => z y.1)]; exact e⟩
/-- an outer field, with what rows hold -/
theorem KG.pi2 (ty : kTY σ) (g : KG B σ nm ks) {h x : Nat} {v : Int32} (hm : (h, x) ∈ ouF) (eu : u = (mjIu σ.1 h x v, σ.2)) : KG B u nm ks ∧ ∀ b' ∈ OWb, ∀ l', kBY σ b' l' → kBY u b' l' := by
  have q := ouF_ok _ hm
  have q1 : h < 76 := q.2.2.1
  have q2 : (kd0 h).1 < 20 := q.2.2.2.2.2.2.1
  refine ⟨by rw [eu]; exact g.pi ty hm, fun b' hb' l' hl' => ?_⟩
  have ch : Ch false [(h, x)] [] σ u := by rw [eu]; exact Ch_i (by rw [ty.2.2.1 h q1]; exact q2)
  exact hl'.fr ty g.1.1 hb' ch (fun p hp => by rw [List.mem_singleton.mp hp]; exact q.2.2.2.2.1 b' hb') (fun p hp => by cases hp)
theorem CN_ok : ∀ c ∈ CNs, c < 76 ∧ (kd0 c).1 = 1 ∧ (c + 1) ∈ OWb ∧ (c + 3) ∈ OWb ∧ (c, 0) ∈ ouF ∧ (c, 3) ∈ ouF ∧ (c, 4) ∈ ouF ∧ (c, 5) ∈ ouF ∧ (c, 6) ∈ ouF ∧ (c, 7) ∈ ouF := by decide +kernel
/-- what a connection's own fields and rows may have become -/
def cnX (c bk : Nat) (σ u : kS) : Prop := u.2 = σ.2 ∧ ∀ h x, ¬ (h = c ∧ x ∈ [0, 4, 5, 6, 7, 9, 11]) → ¬ (h = c + 1 ∧ x ∈ [2, 3]) → ¬ (h = bk ∧ x ∈ [2, 3]) → u.1 h x = σ.1 h x
theorem k_unwatch (ty : kTY σ) (g : KG B σ nm ks) {c : Nat} (hc : c ∈ CNs) : kjY kPP (kQQ Y) d 65 0 (mjL0 1 [.ref c]) [] σ (fun r z => r = none ∧ KG B z nm ks ∧ (∀ b' ∈ OWb, ∀ l', kBY σ b' l' → kBY z b' l') ∧ z = (mjIu (mjIu σ.1 c 9 0) c 6 0, σ.2)) := by
  obtain ⟨q1, q2, -, -, -, -, -, -, q9, -⟩ := CN_ok c hc
  have kc : (σ.2.2.2.1 c).1 = 1 := ty.k q1 q2
  refine kjZ_y rfl rfl 3 _ _ _ _ ty ?_
  refine (And.intro (by assumption) (And.intro (Or.inl rfl) (fun ty' => ?_)))
  have go : ∀ z, kTY z → z = (mjIu σ.1 c 9 (Int32.ofInt 0), σ.2) → kjY kPP (kQQ Y) d 65 3 [some (.ref c)] [] z (fun r z => r = none ∧ KG B z nm ks ∧ (∀ b' ∈ OWb, ∀ l', kBY σ b' l' → kBY z b' l') ∧ z = (mjIu (mjIu σ.1 c 9 0) c 6 0, σ.2)) := by
    intro z tz ez
    have kz : (z.2.2.2.1 c).1 = 1 := tz.k q1 q2
    obtain ⟨g1, o1⟩ := g.cn ty hc (n := 0) (Or.inl ⟨rfl, by decide⟩) (show z = (mjIu σ.1 c 9 (nI 0), σ.2) from ez)
    refine kjZ_y rfl rfl 4 _ _ _ _ tz ?_
    refine (And.intro (by assumption) (And.intro (Or.inr ⟨rfl, Or.inl rfl⟩) (fun tz' => And.intro rfl (And.intro rfl ?_))))
    have fin : ∀ y, y = (mjIu z.1 c 6 (Int32.ofInt 0), z.2) → KG B y nm ks ∧ (∀ b' ∈ OWb, ∀ l', kBY σ b' l' → kBY y b' l') ∧ y = (mjIu (mjIu σ.1 c 9 0) c 6 0, σ.2) := by
      intro y ey
      obtain ⟨g2, o2⟩ := g1.pi2 tz q9 ey
      exact ⟨g2, fun b' hb' l' hl' => o2 b' hb' l' (o1 b' hb' l' hl'), by rw [ey, ez]; rfl⟩
    exact ⟨rfl, fin _ rfl⟩
  exact go _ ty' rfl
theorem k_endBlock (ty : kTY σ) (g : KG B σ nm ks) {c bk : Nat} (hc : c ∈ CNs) (hbk : bk ∈ OWb) (eb : σ.2.2.1 c 3 = some bk) : kjY kPP (kQQ Y) (d + 1) 64 0 (mjL0 1 [.ref c]) [] σ (fun r z => r = none ∧ KG B z nm ks ∧ kBY z bk [] ∧ z.1 bk 3 = 0 ∧ (∀ b' ∈ OWb, ¬ b' = bk → ∀ l', kBY σ b' l' → kBY z b' l') ∧ z.2 = σ.2 ∧ (∀ h x, ¬ (h = c ∧ x ∈ [4, 5, 6, 7, 9]) → ¬ (h = bk ∧ x ∈ [2, 3]) → z.1 h x = σ.1 h x) ∧ z.1 c 4 = 0 ∧ z.1 c 5 = 0 ∧ z.1 c 6 = 0 ∧ z.1 c 7 = 0 ∧ z.1 c 9 = 0) := by
  obtain ⟨q1, q2, -, -, -, -, q7, q8, q9, q10⟩ := CN_ok c hc
  have ncb : ∀ b' ∈ OWb, ¬ b' = c := by
    have : ∀ c ∈ CNs, ∀ b' ∈ OWb, ¬ b' = c := by decide
    exact this c hc
  have kc : (σ.2.2.2.1 c).1 = 1 := ty.k q1 q2
  refine kjZ_y rfl rfl 3 _ _ _ _ ty ?_
  refine (And.intro (by assumption) (And.intro (Or.inr ⟨rfl, Or.inl rfl⟩) (fun ty' => ?_)))
  have go : ∀ z, kTY z → z = (mjIu σ.1 c 4 (Int32.ofInt 0), σ.2) → kjY kPP (kQQ Y) (d + 1) 64 3 [some (.ref c)] [] z (fun r z => r = none ∧ KG B z nm ks ∧ kBY z bk [] ∧ z.1 bk 3 = 0 ∧ (∀ b' ∈ OWb, ¬ b' = bk → ∀ l', kBY σ b' l' → kBY z b' l') ∧ z.2 = σ.2 ∧ (∀ h x, ¬ (h = c ∧ x ∈ [4, 5, 6, 7, 9]) → ¬ (h = bk ∧ x ∈ [2, 3]) → z.1 h x = σ.1 h x) ∧ z.1 c 4 = 0 ∧ z.1 c 5 = 0 ∧ z.1 c 6 = 0 ∧ z.1 c 7 = 0 ∧ z.1 c 9 = 0) := by
    intro z tz ez
    have kz : (z.2.2.2.1 c).1 = 1 := tz.k q1 q2
    obtain ⟨g1, o1⟩ := g.pi2 ty q7 ez
    refine kjZ_y rfl rfl 3 _ _ _ _ tz ?_
    refine (And.intro (by assumption) (And.intro (Or.inr ⟨rfl, Or.inl rfl⟩) (fun tz' => ?_)))
    have go2 : ∀ y, kTY y → y = (mjIu z.1 c 5 (Int32.ofInt 0), z.2) → kjY kPP (kQQ Y) (d + 1) 64 6 [some (.ref c)] [] y (fun r z => r = none ∧ KG B z nm ks ∧ kBY z bk [] ∧ z.1 bk 3 = 0 ∧ (∀ b' ∈ OWb, ¬ b' = bk → ∀ l', kBY σ b' l' → kBY z b' l') ∧ z.2 = σ.2 ∧ (∀ h x, ¬ (h = c ∧ x ∈ [4, 5, 6, 7, 9]) → ¬ (h = bk ∧ x ∈ [2, 3]) → z.1 h x = σ.1 h x) ∧ z.1 c 4 = 0 ∧ z.1 c 5 = 0 ∧ z.1 c 6 = 0 ∧ z.1 c 7 = 0 ∧ z.1 c 9 = 0) := by
      intro y t9 ey
      have ky : (y.2.2.2.1 c).1 = 1 := t9.k q1 q2
      obtain ⟨g2, o2⟩ := g1.pi2 tz q8 ey
      refine kjZ_y rfl rfl 3 _ _ _ _ t9 ?_
      refine (And.intro (by assumption) (And.intro (Or.inl rfl) (fun t9' => ?_)))
      have go3 : ∀ v, kTY v → v = (mjIu y.1 c 7 (Int32.ofInt 0), y.2) → kjY kPP (kQQ Y) (d + 1) 64 9 [some (.ref c)] [] v (fun r z => r = none ∧ KG B z nm ks ∧ kBY z bk [] ∧ z.1 bk 3 = 0 ∧ (∀ b' ∈ OWb, ¬ b' = bk → ∀ l', kBY σ b' l' → kBY z b' l') ∧ z.2 = σ.2 ∧ (∀ h x, ¬ (h = c ∧ x ∈ [4, 5, 6, 7, 9]) → ¬ (h = bk ∧ x ∈ [2, 3]) → z.1 h x = σ.1 h x) ∧ z.1 c 4 = 0 ∧ z.1 c 5 = 0 ∧ z.1 c 6 = 0 ∧ z.1 c 7 = 0 ∧ z.1 c 9 = 0) := by
        intro v t10 ev
        have kv : (v.2.2.2.1 c).1 = 1 := t10.k q1 q2
        obtain ⟨g3, o3⟩ := g2.pi2 t9 q10 ev
        have v2 : v.2 = σ.2 := by rw [ev, ey, ez]
        have fv : v.2.2.1 c 3 = some bk := by rw [show v.2.2.1 = σ.2.2.1 from congrArg (fun t => t.2.1) v2]; exact eb
        have kbk := ob_k t10 hbk
        have vI : ∀ h x, v.1 h x = if h = c ∧ x = 7 then 0 else if h = c ∧ x = 5 then 0 else if h = c ∧ x = 4 then 0 else σ.1 h x := fun h x => by
          rw [ev]; show mjIu y.1 c 7 _ h x = _
          rw [mjIu_at, ey]; show (if _ then _ else mjIu z.1 c 5 _ h x) = _
          rw [mjIu_at, ez]; show (if _ then _ else if _ then _ else mjIu σ.1 c 4 _ h x) = _
          rw [mjIu_at]; rfl
        refine kjZ_y rfl rfl 3 _ _ _ _ t10 ?_
        refine (And.intro (by assumption) (Exists.intro _ (And.intro fv (And.intro (Nat.le_of_ble_eq_true rfl) (And.intro (Or.inl ⟨(Nat.le_of_ble_eq_true rfl), (by assumption)⟩) (And.intro (Nat.le_of_ble_eq_true rfl) (And.intro (Nat.le_of_ble_eq_true rfl) (kjY_mono t10 (fun q_ u1 ty1 xu1 h_ => ?_) (k_empty t10 bk kbk)))))))))
        obtain ⟨rfl, eu1⟩ := h_
        intro _ _
        obtain ⟨g4, e4, b4, o4⟩ := g3.em t10 hbk eu1
        have k1 : (u1.2.2.2.1 c).1 = 1 := ty1.k q1 q2
        refine kjZ_y rfl rfl 2 _ _ _ _ ty1 ?_
        refine (And.intro (Nat.le_of_ble_eq_true rfl) (And.intro (Or.inl ⟨(Nat.le_of_ble_eq_true rfl), (by assumption)⟩) (And.intro (Nat.le_of_ble_eq_true rfl) (And.intro (Nat.le_of_ble_eq_true rfl) (kjY_mono ty1 (fun q_ u2 ty2 xu2 h_ => ?_) (k_unwatch ty1 g4 hc))))))
        obtain ⟨rfl, g5, o5, eu2⟩ := h_
        intro _ _
        refine kjZ_y rfl rfl 1 _ _ _ _ ty2 ?_
        refine And.intro rfl (And.intro rfl ?_)
        have uI : ∀ h x, u2.1 h x = if h = c ∧ x = 6 then 0 else if h = c ∧ x = 9 then 0 else if h = bk ∧ x = 3 then 0 else if h = bk ∧ x = 2 then 0 else v.1 h x := fun h x => by
          rw [eu2]; show mjIu (mjIu u1.1 c 9 0) c 6 0 h x = _
          rw [mjIu_at, mjIu_at, eu1]; show (if _ then _ else if _ then _ else mjIu (mjIu v.1 bk 2 0) bk 3 0 h x) = _
          rw [mjIu_at, mjIu_at]
        have nbc := ncb bk hbk
        refine ⟨rfl, g5, o5 bk hbk [] e4, ?_, fun b' hb' hne l' hl' => o5 b' hb' l' (o4 b' hb' hne l' (o3 b' hb' l' (o2 b' hb' l' (o1 b' hb' l' hl')))), by rw [eu2, eu1]; exact v2, fun h x z1 z2 => ?_, ?_, ?_, ?_, ?_, ?_⟩
        · rw [uI, if_neg (fun y => nbc y.1), if_neg (fun y => nbc y.1), if_pos ⟨rfl, rfl⟩]
        · rw [uI, if_neg (fun y => z1 ⟨y.1, by rw [y.2]; decide⟩), if_neg (fun y => z1 ⟨y.1, by rw [y.2]; decide⟩), if_neg (fun y => z2 ⟨y.1, by rw [y.2]; decide⟩), if_neg (fun y => z2 ⟨y.1, by rw [y.2]; decide⟩), vI, if_neg (fun y => z1 ⟨y.1, by rw [y.2]; decide⟩), if_neg (fun y => z1 ⟨y.1, by rw [y.2]; decide⟩), if_neg (fun y => z1 ⟨y.1, by rw [y.2]; decide⟩)]
        · rw [uI, if_neg (fun y => absurd y.2 (by decide)), if_neg (fun y => absurd y.2 (by decide)), if_neg (fun y => absurd y.2 (by decide)), if_neg (fun y => absurd y.2 (by decide)), vI, if_neg (fun y => absurd y.2 (by decide)), if_neg (fun y => absurd y.2 (by decide)), if_pos ⟨rfl, rfl⟩]
        · rw [uI, if_neg (fun y => absurd y.2 (by decide)), if_neg (fun y => absurd y.2 (by decide)), if_neg (fun y => absurd y.2 (by decide)), if_neg (fun y => absurd y.2 (by decide)), vI, if_neg (fun y => absurd y.2 (by decide)), if_pos ⟨rfl, rfl⟩]
        · rw [uI, if_pos ⟨rfl, rfl⟩]
        · rw [uI, if_neg (fun y => absurd y.2 (by decide)), if_neg (fun y => absurd y.2 (by decide)), if_neg (fun y => absurd y.2 (by decide)), if_neg (fun y => absurd y.2 (by decide)), vI, if_pos ⟨rfl, rfl⟩]
        · rw [uI, if_neg (fun y => absurd y.2 (by decide)), if_pos ⟨rfl, rfl⟩]
      exact go3 _ t9' rfl
    exact go2 _ tz' rfl
  exact go _ ty' rfl
theorem k_close (ty : kTY σ) (g : KG B σ nm ks) {c bk : Nat} (hc : c ∈ CNs) (hbk : bk ∈ OWb) (hne : ¬ bk = c + 1) (eb : σ.2.2.1 c 3 = some bk) : kjY kPP (kQQ Y) (d + 2) 63 0 (mjL0 1 [.ref c]) [] σ (fun r z => r = none ∧ KG B z nm ks ∧ kBY z bk [] ∧ kBY z (c + 1) [] ∧ z.1 bk 3 = 0 ∧ z.1 (c + 1) 3 = 0 ∧ (∀ b' ∈ OWb, ¬ b' = bk → ¬ b' = c + 1 → ∀ l', kBY σ b' l' → kBY z b' l') ∧ cnX c bk σ z ∧ z.1 c 0 = 0 ∧ z.1 c 4 = 0 ∧ z.1 c 7 = 0) := by
  obtain ⟨q1, q2, q3, -, q5, -, -, -, -, -⟩ := CN_ok c hc
  have ncb : ∀ b' ∈ OWb, ¬ b' = c := by
    have : ∀ c ∈ CNs, ∀ b' ∈ OWb, ¬ b' = c := by decide
    exact this c hc
  have kc : (σ.2.2.2.1 c).1 = 1 := ty.k q1 q2
  refine kjZ_y rfl rfl 3 _ _ _ _ ty ?_
  refine (And.intro (by assumption) (And.intro (Or.inr ⟨rfl, Or.inl rfl⟩) (fun ty' => ?_)))
  have go : ∀ z, kTY z → z = (mjIu σ.1 c 0 (Int32.ofInt 0), σ.2) → kjY kPP (kQQ Y) (d + 2) 63 3 [some (.ref c)] [] z (fun r z => r = none ∧ KG B z nm ks ∧ kBY z bk [] ∧ kBY z (c + 1) [] ∧ z.1 bk 3 = 0 ∧ z.1 (c + 1) 3 = 0 ∧ (∀ b' ∈ OWb, ¬ b' = bk → ¬ b' = c + 1 → ∀ l', kBY σ b' l' → kBY z b' l') ∧ cnX c bk σ z ∧ z.1 c 0 = 0 ∧ z.1 c 4 = 0 ∧ z.1 c 7 = 0) := by
    intro z tz ez
    have kz : (z.2.2.2.1 c).1 = 1 := tz.k q1 q2
    obtain ⟨g1, o1⟩ := g.pi2 ty q5 ez
    have kin := ob_k tz q3
    refine kjZ_y rfl rfl 3 _ _ _ _ tz ?_
    refine (And.intro (by assumption) (And.intro (Nat.le_of_ble_eq_true rfl) (And.intro (Or.inl ⟨(Nat.le_of_ble_eq_true rfl), (by assumption)⟩) (And.intro (Nat.le_of_ble_eq_true rfl) (And.intro (Nat.le_of_ble_eq_true rfl) (kjY_mono tz (fun q_ u1 ty1 xu1 h_ => ?_) (k_empty tz (c + 1) kin)))))))
    obtain ⟨rfl, eu1⟩ := h_
    intro _ _
    obtain ⟨g2, e2, b2, o2⟩ := g1.em tz q3 eu1
    have k1 : (u1.2.2.2.1 c).1 = 1 := ty1.k q1 q2
    have eb1 : u1.2.2.1 c 3 = some bk := by rw [eu1, ez]; exact eb
    refine kjZ_y rfl rfl 2 _ _ _ _ ty1 ?_
    refine (And.intro (Nat.le_of_ble_eq_true rfl) (And.intro (Or.inl ⟨(Nat.le_of_ble_eq_true rfl), (by assumption)⟩) (And.intro (Nat.le_of_ble_eq_true rfl) (And.intro (Nat.le_of_ble_eq_true rfl) (kjY_mono ty1 (fun q_ u2 ty2 xu2 h_ => ?_) (k_endBlock ty1 g2 hc hbk eb1))))))
    obtain ⟨rfl, g3, e3, b3, o3, f3, i3, c4, c5, c6, c7, c9⟩ := h_
    intro _ _
    have k2 : (u2.2.2.2.1 c).1 = 1 := ty2.k q1 q2
    refine kjZ_y rfl rfl 4 _ _ _ _ ty2 ?_
    refine (And.intro (by assumption) (And.intro (Or.inl rfl) (fun ty2' => And.intro rfl (And.intro rfl ?_))))
    have fin : ∀ y, y = (mjIu u2.1 c 11 (Int32.ofInt 0), u2.2) → KG B y nm ks ∧ kBY y bk [] ∧ kBY y (c + 1) [] ∧ y.1 bk 3 = 0 ∧ y.1 (c + 1) 3 = 0 ∧ (∀ b' ∈ OWb, ¬ b' = bk → ¬ b' = c + 1 → ∀ l', kBY σ b' l' → kBY y b' l') ∧ cnX c bk σ y ∧ y.1 c 0 = 0 ∧ y.1 c 4 = 0 ∧ y.1 c 7 = 0 := by
      intro y ey
      obtain ⟨g4, o4⟩ := g3.cn ty2 hc (n := 0) (Or.inr ⟨rfl, by decide⟩) (show y = (mjIu u2.1 c 11 (nI 0), u2.2) from ey)
      have yI : ∀ h x, ¬ (h = c ∧ x = 11) → y.1 h x = u2.1 h x := fun h x z => by
        rw [ey]; show mjIu u2.1 c 11 _ h x = _; rw [mjIu_at, if_neg z]
      have nbc := ncb bk hbk
      have nic := ncb (c + 1) q3
      have y2 : y.2 = σ.2 := by rw [ey]; show u2.2 = _; rw [f3, eu1, ez]
      refine ⟨g4, o4 bk hbk [] e3, o4 (c + 1) q3 [] (o3 (c + 1) q3 (fun z => hne z.symm) [] e2), by rw [yI _ _ (fun z => nbc z.1)]; exact b3, ?_, fun b' hb' h1 h2 l' hl' => o4 b' hb' l' (o3 b' hb' h1 l' (o2 b' hb' h2 l' (o1 b' hb' l' hl'))), ⟨y2, fun h x z1 z2 z3 => ?_⟩, ?_, by rw [yI _ _ (fun z => absurd z.2 (by decide))]; exact c4, by rw [yI _ _ (fun z => absurd z.2 (by decide))]; exact c7⟩
      · rw [yI _ _ (fun z => nic z.1), i3 _ _ (fun z => nic z.1) (fun z => hne z.1.symm)]; exact b2
      · have h47 : ∀ x ∈ [4, 5, 6, 7, 9], x ∈ [0, 4, 5, 6, 7, 9, 11] := by decide
        rw [yI _ _ (fun z => z1 ⟨z.1, by rw [z.2]; decide⟩), i3 _ _ (fun z => z1 ⟨z.1, h47 x z.2⟩) z3, eu1]
        show mjIu (mjIu z.1 (c + 1) 2 0) (c + 1) 3 0 h x = _
        rw [mjIu_at, if_neg (fun z => z2 ⟨z.1, by rw [z.2]; decide⟩), mjIu_at, if_neg (fun z => z2 ⟨z.1, by rw [z.2]; decide⟩), ez]
        show mjIu σ.1 c 0 _ h x = _
        rw [mjIu_at, if_neg (fun z => z1 ⟨z.1, by rw [z.2]; decide⟩)]
      · rw [yI _ _ (fun z => absurd z.2 (by decide)), i3 _ _ (fun z => absurd z.2 (by decide)) (fun z => nbc z.1.symm), eu1]
        show mjIu (mjIu z.1 (c + 1) 2 0) (c + 1) 3 0 c 0 = _
        rw [mjIu_at, if_neg (fun z => nic z.1.symm), mjIu_at, if_neg (fun z => nic z.1.symm), ez]
        show mjIu σ.1 c 0 _ c 0 = _
        rw [mjIu_p]; rfl
    exact ⟨rfl, fin _ rfl⟩
  exact go _ ty' rfl
end KCONN
