/-! What a change notes in the log. -/
theorem wdsL_cons (w : List Int32) (r : List (List Int32)) : wordsL (w :: r) = wordL w ++ wordsL r := rfl
/-- the log, or a block: a row of bytes that has not burst and is not the request's -/
def JN (b : Nat) (σ : kS) (l : List Int32) : Prop := kBY σ b l ∧ σ.1 b 3 = 0 ∧ ∀ g, σ.2.2.1 53 3 = some g → ¬ σ.2.2.1 b 1 = some g
def jnF (b : Nat) : List (Nat × Nat) := [(b, 1), (b, 2), (b, 3)]
def jP (B : List (List Int32)) (b : Nat) (σ : kS) (ws nm : List (List Int32)) (ks : List KC) (l : List Int32) : kK := fun r u => r = none ∧ KO B u ws nm ks ∧ JN b u l ∧ Ch false (jnF b) [(b, 1)] σ u
section KNOTE
variable {Y : Nat → MethodName × ByteArray} {d : Nat} {σ u : kS} {B ws nm nm' : List (List Int32)} {ks ks' : List KC}
theorem opQ_j {b k : Nat} (hb : b ∈ [5, 7]) (po : POT σ) (l : List Int32) (h : l.length + k ≤ 210000) : opQ σ b l k := by
  have q : ∀ b ∈ [5, 7], ¬ b ∈ payB ∧ kNd b = 210000 := by decide +kernel
  obtain ⟨q1, q2⟩ := q b hb
  exact ⟨PO_of q1 po, fun _ _ _ => by rw [q2]; exact h⟩
theorem J_ok : ∀ b ∈ [5, 7], b ∈ OWb ∧ kMo b = 67108864 ∧ ¬ b = 53 ∧ ¬ b = 0 ∧ b < 76 := by decide +kernel
theorem KO.jr (ty : kTY σ) (g : KO B σ ws nm ks) {b : Nat} (hb : b ∈ [5, 7]) {l w : List Int32} (j : JN b σ l) {r : Option Value} (h : opP σ b l w r u) (hl : l.length + w.length ≤ 210000) : jP B b σ ws nm ks (l ++ w) r u := by
  obtain ⟨b1, b2, b3, -, -⟩ := J_ok b hb
  obtain ⟨j1, j2, j3⟩ := j
  obtain ⟨h0, ch, ow, po, l', h1, h2⟩ := h
  obtain ⟨e1, e2⟩ := h2 j2 (by rw [b2]; omega)
  rw [e1] at h1
  have k := (g.1.by_ ty b1 ch ow po h1).1
  have fF : ∀ x, u.1 53 x = σ.1 53 x ∧ u.2.1 53 x = σ.2.1 53 x ∧ u.2.2.1 53 x = σ.2.2.1 53 x := fun x => ch.fld ty (h := 53) (c := 3) (by decide) rfl (by decide) (fun z => b3 (by
    have f1 : ∀ p ∈ [(b, 1), (b, 2), (b, 3)], p.1 = b := by simp
    exact (f1 _ z).symm))
  obtain ⟨gg, M, ⟨a1, a2, a3⟩, ⟨p, hp, a4⟩, ⟨a5, a6⟩, a7⟩ := g.2.1
  have hne := j3 gg a1
  have q1 : ∀ p ∈ RQo, p ∈ OWs ∧ p.1 < 76 ∧ (kd0 p.1).1 = 0 ∧ p.2 = 1 := by decide +kernel
  obtain ⟨p1, p2, p3, p4⟩ := q1 p hp
  have hpb : ¬ p.1 = b := fun z => hne (by rw [← a4, p4, z])
  have f1 : ∀ q ∈ [(b, 1), (b, 2), (b, 3)], q.1 = b := by simp
  have ho : ∀ q ∈ [(b, 1)], q ∈ OWs := fun q hq => by rw [List.mem_singleton.mp hq]; exact ow_b b1
  obtain ⟨r1, r1', -⟩ := ch.row ty g.1.1.1 ho p1 (fun z => hpb (congrArg Prod.fst (List.mem_singleton.mp z))) a4 a2 (by decide)
  have k53 : (σ.2.2.2.1 53).1 = 3 := ty.k (by decide) rfl
  have f54 : σ.2.2.1 53 1 = some 54 := (ty.2.2.2.2.2.2.2.1 53 1 (by rw [k53]; decide) (by rw [k53]; decide) |> fun z => by rw [k53] at z; exact z.1)
  have f55 : σ.2.2.1 53 2 = some 55 := (ty.2.2.2.2.2.2.2.1 53 2 (by rw [k53]; decide) (by rw [k53]; decide) |> fun z => by rw [k53] at z; exact z.1)
  obtain ⟨-, r2', -⟩ := ch.row ty g.1.1.1 ho (p := (53, 1)) (by decide) (fun z => b3 (congrArg Prod.fst (List.mem_singleton.mp z)).symm) f54 (ty.kl (h := 54) (c := (20, 1024)) (by decide) rfl) (by decide)
  obtain ⟨-, r3', -⟩ := ch.row ty g.1.1.1 ho (p := (53, 2)) (by decide) (fun z => b3 (congrArg Prod.fst (List.mem_singleton.mp z)).symm) f55 (ty.kl (h := 55) (c := (20, 1024)) (by decide) rfl) (by decide)
  have hpF : u.2.2.1 p.1 p.2 = some gg := by
    rw [(ch.fld ty p2 p3 (by decide) (fun z => hpb (f1 _ z))).2.2]; exact a4
  have rq : RQ u ws := ⟨gg, M, ⟨by rw [(fF 3).2.2]; exact a1, r1, a3⟩, ⟨p, hp, hpF⟩, ⟨(fF 4).1.trans a5, a6⟩, fun i w hi => by rw [r1', r2', r3']; exact a7 i w hi⟩
  refine ⟨h0, ⟨k, rq, ?_⟩, ⟨h1, e2, fun g' hg' z => ?_⟩, ch⟩
  · obtain ⟨bb, hbb, e⟩ := g.2.2
    exact ⟨bb, hbb, by rw [(fF 6).2.2]; exact e⟩
  · rw [(fF 3).2.2, a1] at hg'
    obtain rfl := Option.some.inj hg'
    have := ow p p1 (b, 1) (ow_b b1) (by rw [hpF]; exact z.symm)
    exact hpb (congrArg Prod.fst this)
theorem jP.tr {b : Nat} {u0 : kS} {l : List Int32} {r : Option Value} (ts : kTY σ) (hb : b ∈ [5, 7]) (h : jP B b u0 ws nm ks l r u) (c : Ch false (jnF b) [(b, 1)] σ u0) : jP B b σ ws nm ks l r u := ⟨h.1, h.2.1, h.2.2.1, Ch.tr ts (fun q hq => by rw [List.mem_singleton.mp hq]; exact ow_b (J_ok b hb).1) c h.2.2.2⟩
theorem j_head (ty : kTY σ) (g : KO B σ ws nm ks) {b : Nat} (hb : b ∈ [5, 7]) {l : List Int32} (j : JN b σ l) {n : Nat} (hn : n ≤ 1024) (hl : l.length + 40 ≤ 210000) (x : Int32) (ex : x = nI n) : kjY kPP (kQQ Y) (d + 5) 60 0 (mjL0 2 [.ref b, .int x]) [] σ (jP B b σ ws nm ks (l ++ (42 :: dec (lN n) ++ [13, 10]))) := by
  have hd := dec_len (lN n)
  refine kjY_mono ty (fun r z _ _ h => g.jr ty hb j h ?_) (k_rowHead ty g.1.1.1 (J_ok b hb).1 j.1 x ex (by omega) (opQ_j hb g.1.1.2 l (by omega)))
  rw [List.length_append, List.length_cons, List.length_cons, List.length_cons, List.length_nil]; omega
theorem j_text (ty : kTY σ) (g : KO B σ ws nm ks) {b : Nat} (hb : b ∈ [5, 7]) {l : List Int32} (j : JN b σ l) {i : Nat} (hi : i < 185) (hl : l.length + (wordL (tb i)).length ≤ 210000) : kjY kPP (kQQ Y) (d + 6) 51 0 (mjL0 4 [.ref b, .ref (2000000 + i)]) [] σ (jP B b σ ws nm ks (l ++ wordL (tb i))) :=
  kjY_mono ty (fun r z _ _ h => g.jr ty hb j h hl) (k_text ty g.1.1.1 (J_ok b hb).1 j.1 hi (opQ_j hb g.1.1.2 l hl))
theorem j_num (ty : kTY σ) (g : KO B σ ws nm ks) {b : Nat} (hb : b ∈ [5, 7]) {l : List Int32} (j : JN b σ l) (v : Int64) (hl : l.length + (wordL (dec v)).length ≤ 210000) : kjY kPP (kQQ Y) (d + 4) 52 0 (mjL0 5 [.ref b, .long v]) [] σ (jP B b σ ws nm ks (l ++ wordL (dec v))) :=
  kjY_mono ty (fun r z _ _ h => g.jr ty hb j h hl) (k_numberWord ty g.1.1.1 (J_ok b hb).1 j.1 v (opQ_j hb g.1.1.2 l hl))
theorem j_arg (ty : kTY σ) (g : KO B σ ws nm ks) {b : Nat} (hb : b ∈ [5, 7]) {l : List Int32} (j : JN b σ l) {i : Nat} {w : List Int32} (hw : ws[i]? = some w) (x : Int32) (ex : x = nI i) (hl : l.length + (wordL w).length ≤ 210000) : kjY kPP (kQQ Y) (d + 5) 104 0 (mjL0 3 [.ref 53, .int x, .ref b]) [] σ (jP B b σ ws nm ks (l ++ wordL w)) := by
  obtain ⟨b1, -⟩ := J_ok b hb
  have kb := ob_k ty b1
  obtain ⟨gg, M, h1, h2, ⟨h3, h4⟩, h5⟩ := g.2.1
  have hi := (List.getElem?_eq_some_iff.mp hw).1
  obtain ⟨a, a1, a2, a3, a4⟩ := h5 i _ hw
  have vx : vp_in x 1024 := by rw [ex]; exact vp_in_nI (by omega) (by decide)
  have cx : x.toNatClampNeg = i := by rw [ex]; exact nI_clamp (by omega)
  refine kjZ_y rfl rfl 2 _ _ _ _ ty ?_
  refine And.intro (fun c => ?_) (fun c => ?_)
  · exact absurd (show x < 0 from c) (by rw [ex]; exact nI_n0 (by omega))
  refine kjZ_y rfl rfl 4 _ _ _ _ ty ?_
  refine (And.intro (ty.k (by decide) rfl) (And.intro (fun c2 => ?_) (fun c2 => ?_)))
  · refine absurd (show σ.1 53 4 ≤ x from c2) ?_
    rw [h3, ex, nle (by omega) (by omega)]; omega
  refine kjZ_y rfl rfl 12 _ _ _ _ ty ?_
  refine (And.intro (ty.k (by decide) rfl) (Exists.intro _ (And.intro h1.1 (And.intro (ty.k (by decide) rfl) (Or.inl (And.intro (ty.k (by decide) rfl) (And.intro (kdw ty (by decide) rfl vx) (And.intro (ty.k (by decide) rfl) (Or.inl (And.intro (ty.k (by decide) rfl) (And.intro (kdw ty (by decide) rfl vx) (And.intro (Nat.le_of_ble_eq_true rfl) (And.intro (Or.inl ⟨(Nat.le_of_ble_eq_true rfl), (by assumption)⟩) (And.intro (Nat.le_of_ble_eq_true rfl) (And.intro (Nat.le_of_ble_eq_true rfl) (kjY_mono ty (fun q_ u1 ty1 xu1 h_ => ?_) (k_word ty g.1.1.1 b1 j.1 h1.2.1 h1.2.2 a3 (j.2.2 gg h1.1) _ _ (by rw [cx]; exact a1) (by rw [cx]; exact a2) (by rw [a4]; exact opQ_j hb g.1.1.2 l hl))))))))))))))))))
  have q1 := h_
  intro _ _
  rw [a4] at q1
  have q2 := g.jr ty hb j q1 hl
  obtain ⟨rfl, -⟩ := id q2
  refine kjZ_y rfl rfl 1 _ _ _ _ ty1 ?_
  refine And.intro rfl (And.intro rfl ?_)
  exact q2
theorem k_note_l {b : Nat} (hb : b ∈ [5, 7]) (ts : kTY σ) (K : kK)
    {L : List Int32}
    (hK2 : ∀ (u : kS) (x1 : Int32), kTY u → KO B u ws nm ks → JN b u L → Ch false (jnF b) [(b, 1)] σ u → kjY kPP (kQQ Y) (d + 6) 29 94 [some (.ref 0), some (.int x1)] [] u K) (hL : L.length ≤ 210000) :
    ∀ (f i : Nat) (x1 : Int32) (l : List Int32) (u : kS), i + f = ws.length → x1 = nI i → kTY u → KO B u ws nm ks → σ.2.2.1 0 10 = some b → JN b u l → Ch false (jnF b) [(b, 1)] σ u → l ++ wordsL (ws.drop i) = L →
    kjY kPP (kQQ Y) (d + 6) 29 81 [some (.ref 0), some (.int x1)] [] u K := by
  obtain ⟨b1, -, b3, b4, -⟩ := J_ok b hb
  intro f
  induction f with
  | zero =>
    intro i x1 l u hi e1 tu g h10 j hu hl
    obtain ⟨-, -, -, -, ⟨h4, h1024⟩, -⟩ := g.2.1
    rw [List.drop_eq_nil_of_le (by omega)] at hl
    have hl : l ++ [] = L := hl
    rw [List.append_nil] at hl
    refine kjZ_y rfl rfl 5 _ _ _ _ tu ?_
    refine (And.intro (tu.k (by decide) rfl) (And.intro (tu.k (by decide) rfl) (And.intro (fun c => ?_) (fun c => ?_))))
    rotate_left
    · refine absurd (show u.1 53 4 ≤ x1 from ?_) c
      rw [h4, e1, nle (by omega) (by omega)]; omega
    rw [hl] at j
    exact hK2 u x1 tu g j hu
  | succ f ih =>
    intro i x1 l u hi e1 tu g h10 j hu hl
    obtain ⟨-, -, -, -, ⟨h4, h1024⟩, -⟩ := g.2.1
    have u10 : u.2.2.1 0 10 = some b := by
      have f1 : ∀ q ∈ jnF b, q.1 = b := by unfold jnF; simp
      rw [(hu.fld ts (h := 0) (c := 9) (by decide) rfl (by decide) (fun z => b4 (f1 _ z).symm)).2.2]; exact h10
    have kb := ob_k tu b1
    have hv := List.getElem?_eq_getElem (show i < ws.length by omega)
    have hd : ws.drop i = ws[i] :: ws.drop (i + 1) := List.drop_eq_getElem_cons (by omega)
    generalize ws[i] = v at hv hd
    rw [hd, wdsL_cons, ← List.append_assoc] at hl
    have hlen : l.length + (wordL v).length ≤ 210000 := by
      have := congrArg List.length hl
      rw [List.length_append, List.length_append] at this; omega
    refine kjZ_y rfl rfl 5 _ _ _ _ tu ?_
    refine (And.intro (tu.k (by decide) rfl) (And.intro (tu.k (by decide) rfl) (And.intro (fun c => ?_) (fun c => ?_))))
    · refine absurd (show u.1 53 4 ≤ x1 from c) ?_
      rw [h4, e1, nle (by omega) (by omega)]; omega
    refine kjZ_y rfl rfl 6 _ _ _ _ tu ?_
    refine (And.intro (tu.k (by decide) rfl) (And.intro (tu.k (by decide) rfl) (Exists.intro _ (And.intro u10 (And.intro (Nat.le_of_ble_eq_true rfl) (And.intro (Or.inl ⟨(Nat.le_of_ble_eq_true rfl), (tu.k (by decide) rfl)⟩) (And.intro (Nat.le_of_ble_eq_true rfl) (And.intro (Nat.le_of_ble_eq_true rfl) (kjY_mono tu (fun q_ u1 ty1 xu1 h_ => ?_) (j_arg (d := d) tu g hb j hv _ e1 hlen))))))))))
    obtain ⟨rfl, g1, j1, c1⟩ := h_
    intro _ _
    refine kjZ_y rfl rfl 2 _ _ _ _ ty1 ?_
    exact ih (i + 1) _ _ u1 (by omega) (by rw [e1]; exact nI_1 i) ty1 g1 h10 j1 (Ch.tr ts (fun q hq => by rw [List.mem_singleton.mp hq]; exact ow_b b1) hu c1) hl
end KNOTE
