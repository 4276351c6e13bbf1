/-! Writing in a block, with room that was kept back. -/
/-- so much is kept back for bytes of blocks -/
abbrev kHd (m : Nat) (σ : kS) : kS := kUn (4 * m) 1 σ
theorem P_ok : ∀ b ∈ payB, b ∈ OWb ∧ kMo b = 67108864 ∧ ¬ b = 53 ∧ ¬ b = 0 ∧ b < 76 := by decide +kernel
section KBLOCK
variable {Y : Nat → MethodName × ByteArray} {d : Nat} {σ u : kS} {B ws nm nm' : List (List Int32)} {ks ks' : List KC}
theorem PO_pay {m k b : Nat} (hb : b ∈ payB) (hm : 4 * m ≤ σ.2.2.2.2.2.2 ∧ 1 ≤ σ.2.2.2.2.2.1) (hk : k ≤ m) (po : POT (kHd m σ)) : PO (kHd (m - k) σ) b (ksz σ b + k) := by
  have hO := (P_ok b hb).1
  have a1 := sum_upd (f := fun x => phiB x (kl σ (x, 1)) (ksz σ x)) (g := fun x => phiB x (kl σ (x, 1)) (csU σ b (ksz σ b + k) x)) (p := b) OWb_nd hO (fun x hx q => by
    show phiB x (kl σ (x, 1)) (csU σ b (ksz σ b + k) x) = phiB x (kl σ (x, 1)) (ksz σ x)
    unfold csU; rw [if_neg q])
  have a2 : phiB b (kl σ (b, 1)) (csU σ b (ksz σ b + k) b) ≤ phiB b (kl σ (b, 1)) (ksz σ b) + 4 * k := by
    unfold csU phiB; rw [if_pos rfl, if_pos hb, if_pos hb]; omega
  obtain ⟨p1, p2⟩ := po
  have p1 : (OWb.map (fun x => phiB x (kl σ (x, 1)) (ksz σ x))).sum + potR σ + potT σ ≤ σ.2.2.2.2.2.2 - 4 * m := p1
  have p2 : gcs σ + (2600 - kmade σ) ≤ σ.2.2.2.2.2.1 - 1 := p2
  have a1 : (OWb.map (fun x => phiB x (kl σ (x, 1)) (csU σ b (ksz σ b + k) x))).sum + phiB b (kl σ (b, 1)) (ksz σ b) = (OWb.map (fun x => phiB x (kl σ (x, 1)) (ksz σ x))).sum + phiB b (kl σ (b, 1)) (csU σ b (ksz σ b + k) b) := a1
  refine ⟨?_, ?_⟩
  · show (OWb.map (fun x => phiB x (kl σ (x, 1)) (csU σ b (ksz σ b + k) x))).sum + potR σ + potT σ ≤ σ.2.2.2.2.2.2 - 4 * (m - k)
    omega
  · show gcs σ + (2600 - kmade σ) ≤ σ.2.2.2.2.2.1 - 1
    omega
theorem POT_le {m k : Nat} (hm : 4 * m ≤ σ.2.2.2.2.2.2 ∧ 1 ≤ σ.2.2.2.2.2.1) (hk : k ≤ m) (po : POT (kHd m σ)) : POT (kHd k σ) := by
  obtain ⟨p1, p2⟩ := po
  have p1 : potB σ (ksz σ) + potR σ + potT σ ≤ σ.2.2.2.2.2.2 - 4 * m := p1
  have p2 : gcs σ + (2600 - kmade σ) ≤ σ.2.2.2.2.2.1 - 1 := p2
  refine ⟨?_, ?_⟩
  · show potB σ (ksz σ) + potR σ + potT σ ≤ σ.2.2.2.2.2.2 - 4 * k
    omega
  · show gcs σ + (2600 - kmade σ) ≤ σ.2.2.2.2.2.1 - 1
    omega
theorem opQ_pay {m k b : Nat} (hb : b ∈ payB) (hm : 4 * m ≤ σ.2.2.2.2.2.2 ∧ 1 ≤ σ.2.2.2.2.2.1) (hk : k ≤ m) (po : POT (kHd m σ)) {l : List Int32} (h : kBY σ b l) (hl : l.length + k ≤ 100000) : opQ (kHd (m - k) σ) b l k := by
  have q : ∀ b ∈ payB, kNd b = 100000 := by decide +kernel
  have e : ksz σ b = l.length := by
    obtain ⟨r, N, hr⟩ := h
    have h2 := hr.2.2.2.2.1
    have hN := hr.2.2.1.2
    have hlN := hr.2.2.2.2.2.1
    unfold ksz; rw [h2]; exact nI_clamp (by omega)
  refine ⟨?_, fun _ _ _ => by rw [q b hb]; exact hl⟩
  have := PO_pay hb hm hk po
  rw [e] at this
  exact this
theorem KG.le_ {m k : Nat} (hm : 4 * m ≤ σ.2.2.2.2.2.2 ∧ 1 ≤ σ.2.2.2.2.2.1) (hk : k ≤ m) (g : KG B (kHd m σ) nm ks) : KG B (kHd k σ) nm ks := by
  obtain ⟨⟨w1, w2⟩, w3, w4, w5, w6, w7, w8⟩ := g
  exact ⟨⟨w1, POT_le hm hk w2⟩, w3, w4, w5, w6, w7, w8⟩
theorem KO.le_ {m k : Nat} (hm : 4 * m ≤ σ.2.2.2.2.2.2 ∧ 1 ≤ σ.2.2.2.2.2.1) (hk : k ≤ m) (g : KO B (kHd m σ) ws nm ks) : KO B (kHd k σ) ws nm ks := ⟨g.1.le_ hm hk, g.2⟩
theorem Ch.un {vs : Bool} {fs os : List (Nat × Nat)} {m : Nat} (hm : 4 * m ≤ σ.2.2.2.2.2.2 ∧ 1 ≤ σ.2.2.2.2.2.1) (hu : 4 * m ≤ u.2.2.2.2.2.2 ∧ 1 ≤ u.2.2.2.2.2.1) (ch : Ch vs fs os (kHd m σ) (kHd m u)) : Ch vs fs os σ u := by
  obtain ⟨⟨e1, e2, e3, e4⟩, c2, c3, c4⟩ := ch
  have e3 : u.2.2.2.2.1 + (u.2.2.2.2.2.1 - 1) = σ.2.2.2.2.1 + (σ.2.2.2.2.2.1 - 1) := e3
  have e4 : u.2.2.2.2.2.2 - 4 * m ≤ σ.2.2.2.2.2.2 - 4 * m := e4
  exact ⟨⟨e1, e2, by omega, by omega⟩, c2, c3, c4⟩
theorem KO.br_ (ty : kTY σ) (g : KO B σ ws nm ks) {b : Nat} (hb : b ∈ payB) {l w : List Int32} (j : JN b σ l) {r : Option Value} (h : opP σ b l w r u) (hl : l.length + w.length ≤ 100000) : jP B b σ ws nm ks (l ++ w) r u := by
  obtain ⟨b1, b2, b3, -, -⟩ := P_ok b hb
  obtain ⟨j1, j2, j3⟩ := j
  obtain ⟨h0, ch, ow, po, l', h1, h2⟩ := h
  obtain ⟨e1, e2⟩ := h2 j2 (by rw [b2]; omega)
  rw [e1] at h1
  have k := (g.1.by_ ty b1 ch ow po h1).1
  have fF : ∀ x, u.1 53 x = σ.1 53 x ∧ u.2.1 53 x = σ.2.1 53 x ∧ u.2.2.1 53 x = σ.2.2.1 53 x := fun x => ch.fld ty (h := 53) (c := 3) (by decide) rfl (by decide) (fun z => b3 (by
    have f1 : ∀ p ∈ [(b, 1), (b, 2), (b, 3)], p.1 = b := by simp
    exact (f1 _ z).symm))
  obtain ⟨gg, M, ⟨a1, a2, a3⟩, ⟨p, hp, a4⟩, ⟨a5, a6⟩, a7⟩ := g.2.1
  have hne := j3 gg a1
  have q1 : ∀ p ∈ RQo, p ∈ OWs ∧ p.1 < 76 ∧ (kd0 p.1).1 = 0 ∧ p.2 = 1 := by decide +kernel
  obtain ⟨p1, p2, p3, p4⟩ := q1 p hp
  have hpb : ¬ p.1 = b := fun z => hne (by rw [← a4, p4, z])
  have f1 : ∀ q ∈ [(b, 1), (b, 2), (b, 3)], q.1 = b := by simp
  have ho : ∀ q ∈ [(b, 1)], q ∈ OWs := fun q hq => by rw [List.mem_singleton.mp hq]; exact ow_b b1
  obtain ⟨r1, r1', -⟩ := ch.row ty g.1.1.1 ho p1 (fun z => hpb (congrArg Prod.fst (List.mem_singleton.mp z))) a4 a2 (by decide)
  have k53 : (σ.2.2.2.1 53).1 = 3 := ty.k (by decide) rfl
  have f54 : σ.2.2.1 53 1 = some 54 := (ty.2.2.2.2.2.2.2.1 53 1 (by rw [k53]; decide) (by rw [k53]; decide) |> fun z => by rw [k53] at z; exact z.1)
  have f55 : σ.2.2.1 53 2 = some 55 := (ty.2.2.2.2.2.2.2.1 53 2 (by rw [k53]; decide) (by rw [k53]; decide) |> fun z => by rw [k53] at z; exact z.1)
  obtain ⟨-, r2', -⟩ := ch.row ty g.1.1.1 ho (p := (53, 1)) (by decide) (fun z => b3 (congrArg Prod.fst (List.mem_singleton.mp z)).symm) f54 (ty.kl (h := 54) (c := (20, 1024)) (by decide) rfl) (by decide)
  obtain ⟨-, r3', -⟩ := ch.row ty g.1.1.1 ho (p := (53, 2)) (by decide) (fun z => b3 (congrArg Prod.fst (List.mem_singleton.mp z)).symm) f55 (ty.kl (h := 55) (c := (20, 1024)) (by decide) rfl) (by decide)
  have hpF : u.2.2.1 p.1 p.2 = some gg := by
    rw [(ch.fld ty p2 p3 (by decide) (fun z => hpb (f1 _ z))).2.2]; exact a4
  have rq : RQ u ws := ⟨gg, M, ⟨by rw [(fF 3).2.2]; exact a1, r1, a3⟩, ⟨p, hp, hpF⟩, ⟨(fF 4).1.trans a5, a6⟩, fun i w hi => by rw [r1', r2', r3']; exact a7 i w hi⟩
  refine ⟨h0, ⟨k, rq, ?_⟩, ⟨h1, e2, fun g' hg' z => ?_⟩, ch⟩
  · obtain ⟨bb, hbb, e⟩ := g.2.2
    exact ⟨bb, hbb, by rw [(fF 6).2.2]; exact e⟩
  · rw [(fF 3).2.2, a1] at hg'
    obtain rfl := Option.some.inj hg'
    have := ow p p1 (b, 1) (ow_b b1) (by rw [hpF]; exact z.symm)
    exact hpb (congrArg Prod.fst this)
theorem b_arg (ty : kTY σ) (g : KO B σ ws nm ks) {b : Nat} (hb : b ∈ payB) {l : List Int32} (j : JN b σ l) {i : Nat} {w : List Int32} (hw : ws[i]? = some w) (x : Int32) (ex : x = nI i) (hq : opQ σ b l (wordL w).length) (hl : l.length + (wordL w).length ≤ 100000) : kjY kPP (kQQ Y) (d + 5) 104 0 (mjL0 3 [.ref 53, .int x, .ref b]) [] σ (jP B b σ ws nm ks (l ++ wordL w)) := by
  obtain ⟨b1, -⟩ := P_ok b hb
  have kb := ob_k ty b1
  obtain ⟨gg, M, h1, h2, ⟨h3, h4⟩, h5⟩ := g.2.1
  have hi := (List.getElem?_eq_some_iff.mp hw).1
  obtain ⟨a, a1, a2, a3, a4⟩ := h5 i _ hw
  have vx : vp_in x 1024 := by rw [ex]; exact vp_in_nI (by omega) (by decide)
  have cx : x.toNatClampNeg = i := by rw [ex]; exact nI_clamp (by omega)
  refine kjZ_y rfl rfl 2 _ _ _ _ ty ?_
  refine And.intro (fun c => ?_) (fun c => ?_)
  · exact absurd (show x < 0 from c) (by rw [ex]; exact nI_n0 (by omega))
  refine kjZ_y rfl rfl 4 _ _ _ _ ty ?_
  refine (And.intro (ty.k (by decide) rfl) (And.intro (fun c2 => ?_) (fun c2 => ?_)))
  · refine absurd (show σ.1 53 4 ≤ x from c2) ?_
    rw [h3, ex, nle (by omega) (by omega)]; omega
  refine kjZ_y rfl rfl 12 _ _ _ _ ty ?_
  refine (And.intro (ty.k (by decide) rfl) (Exists.intro _ (And.intro h1.1 (And.intro (ty.k (by decide) rfl) (Or.inl (And.intro (ty.k (by decide) rfl) (And.intro (kdw ty (by decide) rfl vx) (And.intro (ty.k (by decide) rfl) (Or.inl (And.intro (ty.k (by decide) rfl) (And.intro (kdw ty (by decide) rfl vx) (And.intro (Nat.le_of_ble_eq_true rfl) (And.intro (Or.inl ⟨(Nat.le_of_ble_eq_true rfl), (by assumption)⟩) (And.intro (Nat.le_of_ble_eq_true rfl) (And.intro (Nat.le_of_ble_eq_true rfl) (kjY_mono ty (fun q_ u1 ty1 xu1 h_ => ?_) (k_word ty g.1.1.1 b1 j.1 h1.2.1 h1.2.2 a3 (j.2.2 gg h1.1) _ _ (by rw [cx]; exact a1) (by rw [cx]; exact a2) (by rw [a4]; exact hq))))))))))))))))))
  have q1 := h_
  intro _ _
  rw [a4] at q1
  have q2 := g.br_ ty hb j q1 hl
  obtain ⟨rfl, -⟩ := id q2
  refine kjZ_y rfl rfl 1 _ _ _ _ ty1 ?_
  refine And.intro rfl (And.intro rfl ?_)
  exact q2
def bP (B : List (List Int32)) (b m : Nat) (σ : kS) (ws nm : List (List Int32)) (ks : List KC) (l : List Int32) : kK := fun r u => r = none ∧ (4 * m ≤ u.2.2.2.2.2.2 ∧ 1 ≤ u.2.2.2.2.2.1) ∧ KO B (kHd m u) ws nm ks ∧ JN b u l ∧ Ch false (jnF b) [(b, 1)] σ u
/-- a row that writes in a block, in the room that is kept back for it -/
theorem b_wr (ty : kTY σ) {m k : Nat} (hm : 4 * m ≤ σ.2.2.2.2.2.2 ∧ 1 ≤ σ.2.2.2.2.2.1) {b i' M : Nat} {lv : mjL} {st : List Value} {l : List Int32} (h : kjY kPP (kQQ Y) d M i' lv st (kHd (m - k) σ) (jP B b (kHd (m - k) σ) ws nm ks l)) : kjY kPP (kQQ Y) d M i' lv st σ (bP B b (m - k) σ ws nm ks l) := by
  have hm' : 4 * (m - k) ≤ σ.2.2.2.2.2.2 ∧ 1 ≤ σ.2.2.2.2.2.1 := by omega
  refine kjY_mono ty (fun r u _ _ q => ?_) (kjY_un ty hm'.1 hm'.2 h)
  obtain ⟨-, hu, h0, g1, j1, c1⟩ := q
  exact ⟨h0, hu, g1, j1, Ch.un hm' hu c1⟩
theorem b_head (ty : kTY σ) (g : KO B σ ws nm ks) {b : Nat} (hb : b ∈ payB) {l : List Int32} (j : JN b σ l) {n : Nat} (hn : n ≤ 1024) (x : Int32) (ex : x = nI n) (hq : opQ σ b l ((dec (lN n)).length + 3)) (hl : l.length + ((dec (lN n)).length + 3) ≤ 100000) : kjY kPP (kQQ Y) (d + 5) 60 0 (mjL0 2 [.ref b, .int x]) [] σ (jP B b σ ws nm ks (l ++ (42 :: dec (lN n) ++ [13, 10]))) := by
  refine kjY_mono ty (fun r z _ _ h => g.br_ ty hb j h ?_) (k_rowHead ty g.1.1.1 (P_ok b hb).1 j.1 x ex (by omega) hq)
  rw [List.length_append, List.length_cons, List.length_cons, List.length_cons, List.length_nil]; omega
end KBLOCK
