/-! A command that a block keeps. -/
def quF (bk : Nat) : List (Nat × Nat) := kcF ++ jnF bk
def quO (bk : Nat) : List (Nat × Nat) := kcO ++ [(bk, 1)]
/-- what a look at a request may change -/
def AF0 : List (Nat × Nat) := kcF ++ payB.flatMap (fun b => [(b, 1), (b, 2), (b, 3)])
def AFf (c : Nat) : List (Nat × Nat) := AF0 ++ [4, 5, 6, 7, 9].map (fun x => (c, x))
def AFo : List (Nat × Nat) := kcO ++ payB.map (fun b => (b, 1))
theorem AFo_in : ∀ p ∈ AFo, p ∈ OWs := by decide +kernel
theorem AFf_k {c : Nat} : ∀ p ∈ kcF, p ∈ AFf c := fun p hp => List.mem_append_left _ (List.mem_append_left _ hp)
theorem AFo_k : ∀ p ∈ kcO, p ∈ AFo := fun p hp => List.mem_append_left _ hp
theorem AFf_c {c : Nat} : ∀ x ∈ [4, 5, 6, 7, 9], (c, x) ∈ AFf c := fun x hx => List.mem_append_right _ (List.mem_map.mpr ⟨x, hx, rfl⟩)
theorem AF_pay {c : Nat} : ∀ b ∈ payB, ∀ x ∈ [1, 2, 3], (b, x) ∈ AFf c := by
  have q : ∀ b ∈ payB, ∀ x ∈ [1, 2, 3], (b, x) ∈ AF0 := by decide +kernel
  exact fun b hb x hx => List.mem_append_left _ (q b hb x hx)
section KQUEUE
variable {Y : Nat → MethodName × ByteArray} {d : Nat} {σ u : kS} {B ws nm nm' : List (List Int32)} {ks ks' : List KC}
theorem JN.fr (ty : kTY σ) (ow : OWN σ) {b : Nat} {l : List Int32} (hb : b ∈ OWb) (j : JN b σ l) {vs : Bool} {fs os : List (Nat × Nat)} (ch : Ch vs fs os σ u) (hf : ∀ p ∈ fs, (¬ p.1 = b) ∧ ¬ p = (53, 3)) (ho : ∀ p ∈ os, p ∈ OWs ∧ ¬ p.1 = b) : JN b u l := by
  obtain ⟨j1, j2, j3⟩ := j
  have kb : (kd0 b).1 = 0 ∧ b < 76 := by
    have q : ∀ b ∈ OWb, (kd0 b).1 = 0 ∧ b < 76 := by decide +kernel
    exact q b hb
  have f3 := fun x => ch.fld ty (h := b) (x := x) kb.2 kb.1 (by decide) (fun z => (hf _ z).1 rfl)
  have f53 := ch.fld ty (h := 53) (c := 3) (x := 3) (by decide) rfl (by decide) (fun z => (hf _ z).2 rfl)
  exact ⟨j1.fr ty ow hb ch (fun p hp => (hf p hp).1) ho, by rw [(f3 3).1]; exact j2, fun g hg => by rw [(f3 1).2.2]; rw [f53.2.2] at hg; exact j3 g hg⟩
/-- a row of an answer, with room kept back -/
theorem h_w (ty : kTY σ) {m : Nat} (hm : 4 * m ≤ σ.2.2.2.2.2.2 ∧ 1 ≤ σ.2.2.2.2.2.1) (g : KO B (kHd m σ) ws nm ks) {i' M : Nat} {lv : mjL} {st : List Value} (h : kjY kPP (kQQ Y) d M i' lv st (kHd m σ) (wP (kHd m σ) B (kHd m σ) ws nm ks)) : kjY kPP (kQQ Y) d M i' lv st σ (fun r u => r = none ∧ (4 * m ≤ u.2.2.2.2.2.2 ∧ 1 ≤ u.2.2.2.2.2.1) ∧ KO B (kHd m u) ws nm ks ∧ Ch true kcF kcO σ u) := by
  refine kjY_mono ty (fun r u _ _ q => ?_) (kjY_un ty hm.1 hm.2 h)
  obtain ⟨-, hu, h0, w1, -⟩ := q
  exact ⟨h0, hu, (g.st (kTY_kUn ty) w1).1, Ch.un hm hu w1.1.2⟩
theorem qu_1 : ∀ bk ∈ payB, (∀ p ∈ quF bk, p ∈ AF0) ∧ (∀ p ∈ quO bk, p ∈ AFo ∧ p ∈ OWs) := by decide +kernel
theorem qu_2 : ∀ bk ∈ payB, ((∀ p ∈ jnF bk, p ∈ quF bk) ∧ (bk, 1) ∈ quO bk) ∧ ∀ c ∈ CNs, ¬ (c, 3) ∈ quF bk ∧ ¬ (c, 7) ∈ quF bk := by decide +kernel
theorem qu_3 : ∀ bk ∈ payB, ∀ b ∈ payB, ¬ b = bk → (∀ p ∈ quF bk, ¬ p.1 = b) ∧ (∀ p ∈ quO bk, p ∈ OWs ∧ ¬ p.1 = b) := by decide +kernel
theorem qu_ok : ∀ bk ∈ payB, (∀ p ∈ quF bk, p ∈ AF0) ∧ (∀ p ∈ quO bk, p ∈ AFo ∧ p ∈ OWs) ∧ ((∀ p ∈ jnF bk, p ∈ quF bk) ∧ (bk, 1) ∈ quO bk) ∧ (∀ c ∈ CNs, ¬ (c, 3) ∈ quF bk ∧ ¬ (c, 7) ∈ quF bk) ∧ ∀ b ∈ payB, ¬ b = bk → (∀ p ∈ quF bk, ¬ p.1 = b) ∧ (∀ p ∈ quO bk, p ∈ OWs ∧ ¬ p.1 = b) := fun bk h => ⟨(qu_1 bk h).1, (qu_1 bk h).2, (qu_2 bk h).1, (qu_2 bk h).2, qu_3 bk h⟩
theorem qu_f {bk : Nat} : ∀ p ∈ kcF, p ∈ quF bk := fun p hp => List.mem_append_left _ hp
theorem qu_o {bk : Nat} : ∀ p ∈ kcO, p ∈ quO bk := fun p hp => List.mem_append_left _ hp
theorem payB_k : ∀ b ∈ payB, b ∈ OWb ∧ (∀ p ∈ kcF, (¬ p.1 = b) ∧ ¬ p = (53, 3)) ∧ (∀ p ∈ kcO, p ∈ OWs ∧ ¬ p.1 = b) ∧ (∀ x ∈ [1, 2, 3], (b, x) ∈ OFf) ∧ (b, 1) ∈ OFo := by decide +kernel
def quP (B : List (List Int32)) (c bk m : Nat) (σ : kS) (ws nm : List (List Int32)) (ks : List KC) (l : List Int32) : kK := fun r u => r = none ∧ ∃ m' l', (4 * m' ≤ u.2.2.2.2.2.2 ∧ 1 ≤ u.2.2.2.2.2.1) ∧ KO B (kHd m' u) ws nm ks ∧ Ch true (AFf c) AFo σ u ∧ JN bk u l' ∧ m' + l'.length = m + l.length ∧ (∀ b ∈ payB, ¬ b = bk → ∀ l, kBY σ b l → kBY u b l ∧ u.1 b 3 = σ.1 b 3) ∧ ((l' = l ∧ u.1 c 7 = σ.1 c 7) ∨ (l' = l ++ encR ws ∧ σ.1 c 7 < nI 200 ∧ u.1 c 7 = σ.1 c 7 + 1))
theorem k_queue_l {c bk : Nat} (hc : c ∈ CNs) (hbk : bk ∈ payB) (ts : kTY σ) (K : kK) {L : List Int32} (hL : L.length ≤ 100000) {tot : Nat}
    (hK : ∀ (u : kS) (x2 : Int32) (m : Nat), kTY u → (4 * m ≤ u.2.2.2.2.2.2 ∧ 1 ≤ u.2.2.2.2.2.1) → KO B (kHd m u) ws nm ks → JN bk u L → Ch true (quF bk) (quO bk) σ u → m + L.length = tot → kjY kPP (kQQ Y) (d + 7) 67 35 [some (.ref c), some (.ref 53), some (.int x2)] [] u K) :
    ∀ (f i : Nat) (x2 : Int32) (l : List Int32) (m : Nat) (u : kS), i + f = ws.length → x2 = nI i → kTY u → (4 * m ≤ u.2.2.2.2.2.2 ∧ 1 ≤ u.2.2.2.2.2.1) → KO B (kHd m u) ws nm ks → σ.2.2.1 c 3 = some bk → JN bk u l → Ch true (quF bk) (quO bk) σ u → l ++ wordsL (ws.drop i) = L → m + l.length = tot → L.length ≤ tot →
    kjY kPP (kQQ Y) (d + 7) 67 24 [some (.ref c), some (.ref 53), some (.int x2)] [] u K := by
  obtain ⟨q1, q2, -⟩ := CN_ok c hc
  obtain ⟨p1, p2, p3, p4, p5⟩ := payB_k bk hbk
  have n3 := fun c hc => ((qu_ok bk hbk).2.2.2.1 c hc).1
  have qb := (qu_ok bk hbk).2.2.1
  intro f
  induction f with
  | zero =>
    intro i x2 l m u hi e1 tu hm g eb j hu hl ht hLt
    obtain ⟨-, -, -, -, ⟨h4, h1024⟩, -⟩ := g.2.1
    have h4 : u.1 53 4 = nI ws.length := h4
    rw [List.drop_eq_nil_of_le (by omega)] at hl
    have hl : l ++ [] = L := hl
    rw [List.append_nil] at hl
    refine kjZ_y rfl rfl 4 _ _ _ _ tu ?_
    refine (And.intro (tu.k (by decide) rfl) (And.intro (fun c1 => ?_) (fun c1 => ?_)))
    rotate_left
    · refine absurd (show u.1 53 4 ≤ x2 from ?_) c1
      rw [h4, e1, nle (by omega) (by omega)]; omega
    rw [hl] at j ht
    exact hK u x2 m tu hm g j hu ht
  | succ f ih =>
    intro i x2 l m u hi e1 tu hm g eb j hu hl ht hLt
    obtain ⟨-, -, -, -, ⟨h4, h1024⟩, -⟩ := g.2.1
    have h4 : u.1 53 4 = nI ws.length := h4
    have kc : (u.2.2.2.1 c).1 = 1 := tu.k q1 q2
    have fb : u.2.2.1 c 3 = some bk := by rw [(hu.fld ts q1 q2 (by decide) (n3 c hc)).2.2]; exact eb
    have kb := ob_k tu p1
    have hv := List.getElem?_eq_getElem (show i < ws.length by omega)
    have hd : ws.drop i = ws[i] :: ws.drop (i + 1) := List.drop_eq_getElem_cons (by omega)
    generalize ws[i] = v at hv hd
    rw [hd, wdsL_cons, ← List.append_assoc] at hl
    have hlen : l.length + (wordL v).length ≤ L.length := by
      have := congrArg List.length hl
      rw [List.length_append, List.length_append] at this; omega
    have hk : (wordL v).length ≤ m := by omega
    refine kjZ_y rfl rfl 4 _ _ _ _ tu ?_
    refine (And.intro (tu.k (by decide) rfl) (And.intro (fun c1 => ?_) (fun c1 => ?_)))
    · refine absurd (show u.1 53 4 ≤ x2 from c1) ?_
      rw [h4, e1, nle (by omega) (by omega)]; omega
    refine kjZ_y rfl rfl 5 _ _ _ _ tu ?_
    refine (And.intro (by assumption) (Exists.intro _ (And.intro fb (And.intro (Nat.le_of_ble_eq_true rfl) (And.intro (Or.inl ⟨(Nat.le_of_ble_eq_true rfl), (tu.k (by decide) rfl)⟩) (And.intro (Nat.le_of_ble_eq_true rfl) (And.intro (Nat.le_of_ble_eq_true rfl) (kjY_mono tu (fun q_ u1 ty1 xu1 h_ => ?_) (b_wr tu hm (k := (wordL v).length) (b_arg (d := d + 1) (kTY_kUn tu) (g.le_ hm (Nat.sub_le _ _)) hbk j hv _ e1 (opQ_pay hbk hm hk g.1.1.2 j.1 (by omega)) (by omega)))))))))))
    obtain ⟨rfl, hu1, g1, j1, c2⟩ := h_
    intro _ _
    refine kjZ_y rfl rfl 2 _ _ _ _ ty1 ?_
    refine ih (i + 1) _ _ _ u1 (by omega) (by rw [e1]; exact nI_1 i) ty1 hu1 g1 eb j1 (Ch.tr ts (fun p hp => ((qu_ok bk hbk).2.1 p hp).2) hu (c2.up (fun _ => rfl) qb.1 (fun p hp => by rw [List.mem_singleton.mp hp]; exact qb.2))) hl (by rw [List.length_append]; omega) hLt
/-- other blocks stay -/
theorem qu_oth (ty : kTY σ) (ow : OWN σ) {bk : Nat} (hbk : bk ∈ payB) (ch : Ch true (quF bk) (quO bk) σ u) : ∀ b ∈ payB, ¬ b = bk → ∀ l, kBY σ b l → kBY u b l ∧ u.1 b 3 = σ.1 b 3 := fun b hb hne l h => by
  obtain ⟨a1, a2⟩ := (qu_ok bk hbk).2.2.2.2 b hb hne
  have k0 : ∀ b ∈ payB, b < 76 ∧ (kd0 b).1 = 0 := by decide
  exact ⟨h.fr ty ow (payB_k b hb).1 ch a1 a2, (ch.fld ty (k0 b hb).1 (k0 b hb).2 (by decide) (fun z => a1 _ z rfl)).1⟩
theorem kx_queue (ty : kTY σ) {m : Nat} (hm : 4 * m ≤ σ.2.2.2.2.2.2 ∧ 1 ≤ σ.2.2.2.2.2.1) (g : KO B (kHd m σ) ws nm ks) {c bk : Nat} (hc : c ∈ CNs) (hbk : bk ∈ payB) (eb : σ.2.2.1 c 3 = some bk) {l : List Int32} (jn : JN bk σ l) (hE : l.length + (encR ws).length ≤ 100000) (hEm : (encR ws).length ≤ m) : kjY kPP (kQQ Y) (d + 7) 67 0 (mjL0 3 [.ref c, .ref 53]) [] σ (quP B c bk m σ ws nm ks l) := by
  obtain ⟨q1, q2, -⟩ := CN_ok c hc
  obtain ⟨p1, p2, p3, p4, p5⟩ := payB_k bk hbk
  have hOF : (∀ p ∈ kcF, p ∈ OFf) ∧ ∀ p ∈ kcO, p ∈ OFo := ⟨OFf_k, OFo_k⟩
  have kc : (σ.2.2.2.1 c).1 = 1 := ty.k q1 q2
  have ncb : ∀ c ∈ CNs, ∀ b ∈ payB, ¬ c = b ∧ ¬ c = 53 ∧ (c + 3) ∈ ANb := by decide +kernel
  obtain ⟨n1, n2, n3⟩ := ncb c hc bk hbk
  have ci : ∀ (x : Nat) (v : Int32) (z : kS), x ∈ [5, 7] → z = (mjIu σ.1 c x v, σ.2) → (4 * m ≤ z.2.2.2.2.2.2 ∧ 1 ≤ z.2.2.2.2.2.1) ∧ KO B (kHd m z) ws nm ks ∧ JN bk z l ∧ Ch true (AFf c) AFo σ z ∧ (∀ b ∈ payB, ∀ l, kBY σ b l → kBY z b l ∧ z.1 b 3 = σ.1 b 3) := by
    intro x v z hx ez
    have h1 := g.ci (kTY_kUn ty) (u := kHd m z) (x := x) (v := v) hc (Or.inl (by
      have : ∀ x ∈ [5, 7], x ∈ [0, 4, 5, 6, 7] := by decide
      exact this x hx)) (by rw [ez])
    have hz : 4 * m ≤ z.2.2.2.2.2.2 ∧ 1 ≤ z.2.2.2.2.2.1 := by rw [ez]; exact hm
    have c0 : Ch false [(c, x)] [] σ z := by rw [ez]; exact Ch_i (by rw [kc]; decide)
    have hx9 : x ∈ [4, 5, 6, 7, 9] := by
      have : ∀ x ∈ [5, 7], x ∈ [4, 5, 6, 7, 9] := by decide
      exact this x hx
    have hc1 : Ch true (AFf c) AFo σ z := c0.up (fun _ => rfl) (fun p hp => by rw [List.mem_singleton.mp hp]; exact AFf_c x hx9) (fun p hp => by cases hp)
    exact ⟨hz, h1.1, jn.fr ty g.1.1.1 p1 c0 (fun p hp => by rw [List.mem_singleton.mp hp]; exact ⟨n1, fun y => n2 (congrArg Prod.fst y)⟩) (fun p hp => by cases hp), hc1, fun b hb l' h' => ⟨h'.fr ty g.1.1.1 (payB_k b hb).1 c0 (fun p hp => by rw [List.mem_singleton.mp hp]; exact (ncb c hc b hb).1) (fun p hp => by cases hp), by rw [ez]; show mjIu σ.1 c x v b 3 = _; rw [mjIu_at, if_neg (fun y => (ncb c hc b hb).1 y.1.symm)]⟩⟩
  refine kjZ_y rfl rfl 4 _ _ _ _ ty ?_
  refine (And.intro (by assumption) (And.intro (fun c1 => ?_) (fun c1 => ?_)))
  rotate_left
  · refine kjZ_y rfl rfl 3 _ _ _ _ ty ?_
    refine (And.intro (by assumption) (And.intro (Or.inr ⟨rfl, Or.inr rfl⟩) (fun ty' => ?_)))
    have go : ∀ z, kTY z → z = (mjIu σ.1 c 5 (Int32.ofInt 1), σ.2) → kjY kPP (kQQ Y) (d + 7) 67 7 [some (.ref c), some (.ref 53), none] [] z (quP B c bk m σ ws nm ks l) := by
      intro z tz ez
      obtain ⟨hz, gz, jz, cz, oz⟩ := ci 5 _ z (by decide) ez
      refine kjZ_y rfl rfl 3 _ _ _ _ tz ?_
      refine (And.intro rfl (And.intro (Nat.le_of_ble_eq_true rfl) (And.intro (Or.inl ⟨(Nat.le_of_ble_eq_true rfl), (tz.k (by decide) rfl)⟩) (And.intro (Nat.le_of_ble_eq_true rfl) (And.intro (Nat.le_of_ble_eq_true rfl) (kjY_mono tz (fun q_ u1 ty1 xu1 h_ => ?_) (h_w tz hz gz (kx_refuse (d := d + 6) (kTY_kUn tz) (gz.in_ (kTY_kUn tz)) (by decide)))))))))
      obtain ⟨rfl, h1, g1, c2⟩ := h_
      intro _ _
      refine kjZ_y rfl rfl 1 _ _ _ _ ty1 ?_
      refine And.intro rfl (And.intro rfl ?_)
      refine ⟨rfl, m, l, h1, g1, Ch.tr ty AFo_in cz (c2.up (fun z => z) AFf_k AFo_k), jz.fr tz gz.1.1.1 p1 c2 p2 p3, rfl, fun b hb hne l' h' => ⟨(qu_oth tz gz.1.1.1 hbk (c2.up (fun z => z) qu_f qu_o) b hb hne l' (oz b hb l' h').1).1, (qu_oth tz gz.1.1.1 hbk (c2.up (fun z => z) qu_f qu_o) b hb hne l' (oz b hb l' h').1).2.trans (oz b hb l' h').2⟩, Or.inl ⟨rfl, ?_⟩⟩
      rw [(c2.fld tz q1 q2 (by decide) (fun y => ((qu_ok bk hbk).2.2.2.1 c hc).2 (qu_f _ y))).1, ez]
      show mjIu σ.1 c 5 _ c 7 = _
      rw [mjIu_at, if_neg (fun y => absurd y.2 (by decide))]
    exact go _ ty' rfl
  refine kjZ_y rfl rfl 6 _ _ _ _ ty ?_
  refine (And.intro (by assumption) (And.intro (by assumption) (And.intro (Or.inl rfl) (fun ty' => ?_))))
  have go : ∀ z, kTY z → z = (mjIu σ.1 c 7 (σ.1 c 7 + Int32.ofInt 1), σ.2) → kjY kPP (kQQ Y) (d + 7) 67 17 [some (.ref c), some (.ref 53), none] [] z (quP B c bk m σ ws nm ks l) := by
    intro z tz ez
    obtain ⟨hz, gz, jz, cz, oz⟩ := ci 7 _ z (by decide) ez
    have kz : (z.2.2.2.1 c).1 = 1 := tz.k q1 q2
    have fz : z.2.2.1 c 3 = some bk := by rw [ez]; exact eb
    have kb := ob_k tz p1
    obtain ⟨-, -, -, -, ⟨h4, h1024⟩, -⟩ := gz.2.1
    have h4 : z.1 53 4 = nI ws.length := h4
    have eE : (encR ws).length = (dec (lN ws.length)).length + 3 + (wordsL ws).length := by
      unfold encR; rw [List.length_append, List.length_append, List.length_cons, List.length_cons, List.length_cons, List.length_nil]
    have eh : (42 :: dec (lN ws.length) ++ [13, 10] : List Int32).length = (dec (lN ws.length)).length + 3 := by
      rw [List.length_append, List.length_cons, List.length_cons, List.length_cons, List.length_nil]
    refine kjZ_y rfl rfl 5 _ _ _ _ tz ?_
    refine (And.intro (by assumption) (Exists.intro _ (And.intro fz (And.intro (tz.k (by decide) rfl) (And.intro (Nat.le_of_ble_eq_true rfl) (And.intro (Or.inl ⟨(Nat.le_of_ble_eq_true rfl), (by assumption)⟩) (And.intro (Nat.le_of_ble_eq_true rfl) (And.intro (Nat.le_of_ble_eq_true rfl) (kjY_mono tz (fun q_ u1 ty1 xu1 h_ => ?_) (b_wr tz hz (k := (dec (lN ws.length)).length + 3) (b_head (d := d + 1) (kTY_kUn tz) (gz.le_ hz (Nat.sub_le _ _)) hbk jz h1024 _ h4 (opQ_pay hbk hz (by omega) gz.1.1.2 jz.1 (by omega)) (by omega))))))))))))
    obtain ⟨rfl, hu1, g1, j1, c2⟩ := h_
    intro _ _
    refine kjZ_y rfl rfl 2 _ _ _ _ ty1 ?_
    refine (And.intro (Nat.le_of_ble_eq_true rfl) ?_)
    have ch1 : Ch true (quF bk) (quO bk) z u1 := c2.up (fun _ => rfl) ((qu_ok bk hbk).2.2.1).1 (fun p hp => by rw [List.mem_singleton.mp hp]; exact ((qu_ok bk hbk).2.2.1).2)
    refine k_queue_l (L := l ++ encR ws) (tot := m + l.length) hc hbk tz _ (by rw [List.length_append]; exact hE) (fun u2 x2 m2 t2 hm2 g2 j2 cu2 e2 => ?_) ws.length 0 _ _ _ u1 (by omega) rfl ty1 hu1 g1 fz j1 ch1 (by unfold encR; rw [List.drop_zero, List.append_assoc]) (by rw [List.length_append, eh]; omega) (by rw [List.length_append]; omega)
    have k2 : (u2.2.2.2.1 c).1 = 1 := t2.k q1 q2
    have ko := ob_k t2 (CN_ok c hc).2.2.2.1
    refine kjZ_y rfl rfl 5 _ _ _ _ t2 ?_
    refine (And.intro (by assumption) (And.intro rfl (And.intro (Nat.le_of_ble_eq_true rfl) (And.intro (Or.inl ⟨(Nat.le_of_ble_eq_true rfl), (by assumption)⟩) (And.intro (Nat.le_of_ble_eq_true rfl) (And.intro (Nat.le_of_ble_eq_true rfl) (kjY_mono t2 (fun q_ u3 ty3 xu3 h_ => ?_) (h_w t2 hm2 g2 (kx_line (d := d) (kTY_kUn t2) (g2.in_ (kTY_kUn t2)) n3 _ (by decide))))))))))
    obtain ⟨rfl, h3, g3, c3⟩ := h_
    intro _ _
    refine kjZ_y rfl rfl 1 _ _ _ _ ty3 ?_
    refine And.intro rfl (And.intro rfl ?_)
    have cz3 : Ch true (quF bk) (quO bk) z u3 := Ch.tr tz (fun p hp => ((qu_ok bk hbk).2.1 p hp).2) cu2 (c3.up (fun z => z) qu_f qu_o)
    refine ⟨rfl, m2, _, h3, g3, Ch.tr ty AFo_in cz (cz3.up (fun z => z) (fun p hp => List.mem_append_left _ ((qu_ok bk hbk).1 p hp)) (fun p hp => ((qu_ok bk hbk).2.1 p hp).1)), j2.fr t2 g2.1.1.1 p1 c3 p2 p3, e2, fun b hb hne l' h' => ⟨(qu_oth tz gz.1.1.1 hbk cz3 b hb hne l' (oz b hb l' h').1).1, (qu_oth tz gz.1.1.1 hbk cz3 b hb hne l' (oz b hb l' h').1).2.trans (oz b hb l' h').2⟩, Or.inr ⟨rfl, c1, ?_⟩⟩
    rw [(cz3.fld tz q1 q2 (by decide) ((qu_ok bk hbk).2.2.2.1 c hc).2).1, ez]
    show mjIu σ.1 c 7 _ c 7 = _
    rw [mjIu_at, if_pos ⟨rfl, rfl⟩]; rfl
  exact go _ ty' rfl
end KQUEUE
