/-! The command of the log that begins at a place. -/
theorem tx_inj : ∀ j, j < 105 → ∀ k, k < 105 → tb (txC j) = tb (txC k) → j = k := by decide +kernel
/-- a request of the log: its command, whose number is j -/
def QC (q : Req) (j : Nat) : Prop := j < 105 ∧ (∃ w, q[0]? = some w ∧ w.map up = tb (txC j)) ∧ q.length ≤ 1024 ∧ (∀ w ∈ q, w.length ≤ 16384) ∧ tkP j (nI (q.length - 1))
theorem cmO_j {q : Req} {j : Nat} (h : QC q j) {o : Option Nat} (ho : cmO q o) : o = some (1000000 + j) := by
  obtain ⟨h1, ⟨w, h2, h3⟩, -⟩ := h
  rcases ho with ⟨j', w', a1, a2, a3, a4⟩ | ⟨-, b2⟩
  · rw [h2] at a1; cases a1
    rw [a3, tx_inj j' a2 j h1 (a4.symm.trans h3)]
  · exact absurd h3 (b2 w h2 j h1)
section KLOGGED
variable {Y : Nat → MethodName × ByteArray} {d : Nat} {σ u : kS} {B ws nmm nmm' : List (List Int32)} {ks ks' : List KC}
/-- what stays -/
def LGo (σ u : kS) : Prop := (∀ b' ∈ OWb, ∀ l, kBY σ b' l → kBY u b' l ∧ u.1 b' 3 = σ.1 b' 3) ∧ Ch true nxF rdO σ u ∧ (∀ h x, ¬ h = 53 → u.2.2.1 h x = σ.2.2.1 h x) ∧ u.2.2.2.1 = σ.2.2.2.1 ∧ ∀ h x, ¬ h = 53 → ¬ h = 54 → ¬ h = 55 → u.1 h x = σ.1 h x
theorem LGo.rf : LGo σ σ := ⟨fun _ _ _ h => ⟨h, rfl⟩, Ch.rf, fun _ _ _ => rfl, rfl, fun _ _ _ _ _ => rfl⟩
theorem LGo.tr {v : kS} (ty : kTY σ) (a : LGo σ u) (b : LGo u v) : LGo σ v := ⟨fun x hx l h => ⟨(b.1 x hx l (a.1 x hx l h).1).1, ((b.1 x hx l (a.1 x hx l h).1).2).trans (a.1 x hx l h).2⟩, Ch.tr ty nxF_in.2.2.2.2 a.2.1 b.2.1, fun h x n => (b.2.2.1 h x n).trans (a.2.2.1 h x n), b.2.2.2.1.trans a.2.2.2.1, fun h x n1 n2 n3 => (b.2.2.2.2 h x n1 n2 n3).trans (a.2.2.2.2 h x n1 n2 n3)⟩
/-- begin leaves -/
theorem bg_lo (ty : kTY σ) (g : KG B σ nmm ks) {b : Nat} {o : Option Nat} (eu : u = (σ.1, σ.2.1, kFu (kFu σ.2.2.1 53 6 (some b)) 53 8 o, σ.2.2.2)) : LGo σ u := by
  have k53 : (σ.2.2.2.1 53).1 = 3 := ty.k (by decide) rfl
  have n6 : ¬ (53, 6) ∈ OWs ∧ ¬ (53, 8) ∈ OWs := by decide +kernel
  have eF : ∀ h x, ¬ h = 53 → u.2.2.1 h x = σ.2.2.1 h x := fun h x n => by
    rw [eu]; show kFu (kFu σ.2.2.1 53 6 (some b)) 53 8 o h x = _
    rw [kFu_at, kFu_at, if_neg (fun z => n z.1), if_neg (fun z => n z.1)]
  have eI : u.1 = σ.1 := by rw [eu]
  have eD : u.2.2.2.1 = σ.2.2.2.1 := by rw [eu]
  have q53 : ∀ b ∈ OWb, ¬ b = 53 := by decide
  refine ⟨fun b' hb' l hl => ⟨?_, by rw [eI]⟩, ?_, eF, eD, fun h x _ _ _ => by rw [eI]⟩
  · obtain ⟨r, M, t1, t2, t3, t4, t5, t6, t7⟩ := hl
    exact ⟨r, M, by rw [eF b' 1 (q53 b' hb')]; exact t1, by rw [eD]; exact t2, t3, by rw [eI]; exact t4, by rw [eI]; exact t5, t6, by rw [eI]; exact t7⟩
  · have a := Ch_f (vs := true) (os := rdO) (σ := σ) (a := 53) (x := 6) (o := some b) (by rw [k53]; decide) (fun z => absurd z n6.1)
    have c := Ch_f (vs := true) (os := rdO) (σ := (σ.1, σ.2.1, kFu σ.2.2.1 53 6 (some b), σ.2.2.2)) (a := 53) (x := 8) (o := o) (by show (σ.2.2.2.1 53).1 < 20; rw [k53]; decide) (fun z => absurd z n6.2)
    rw [eu]
    exact Ch.tr ty nxF_in.2.2.2.2 (a.up (fun z => z) (fun p hp => by rw [List.mem_singleton.mp hp]; exact nxF_in.2.2.1) (fun p hp => hp)) (c.up (fun z => z) (fun p hp => by rw [List.mem_singleton.mp hp]; exact nxF_in.2.2.2.1) (fun p hp => hp))
theorem KG.rd_lo (ty : kTY σ) (g : KG B σ nmm ks) {h p : Nat} {z : kS} (ez : z = ((mjIu (mjIu σ.1 53 4 0) 53 5 (nI p)), σ.2.1, kFu σ.2.2.1 53 3 (some h), σ.2.2.2)) (rx : RWx z u) : KG B u nmm ks ∧ LGo σ u ∧ u.2.2.1 53 3 = some h := by
  obtain ⟨g1, o1, c1, f3, eD, ecz, eF, eI⟩ := g.rd ty ez rx
  exact ⟨g1, ⟨o1, c1.up (fun _ => rfl) nxF_in.1 (fun p hp => hp), eF, eD, eI⟩, f3⟩
/-- the log's request at a place: it is whole, or torn -/
def lgP (B : List (List Int32)) (σ : kS) (nmm : List (List Int32)) (ks : List KC) (p e : Nat) (q : Req) (j : Nat) : kK := fun r u => LGo σ u ∧ ((p + (encR q).length ≤ e ∧ r = some (.ref (1000000 + j)) ∧ KO B u q nmm ks ∧ u.1 53 5 = nI (p + (encR q).length)) ∨ (e < p + (encR q).length ∧ r = some .null ∧ KG B u nmm ks))
theorem kx_logged (ty : kTY σ) (g : KG B σ nmm ks) {b : Nat} (hb : b ∈ [5, 7]) (h10 : σ.2.2.1 0 10 = some b) {r N : Nat} {L : List Int32} (hr : BR σ b r N L) {p : Nat} (hp : p ≤ L.length) {q : Req} {j : Nat} (hq : QC q j) (hlg : ¬ (kCmd j).2.2.2.1 &&& 2 = 0) (hA : AT (σ.1 r) p L.length (encR q)) (x : Int32) (ex : x = nI p) : kjY kPP (kQQ Y) (d + 8) 33 0 (mjL0 4 [.ref 0, .int x]) [] σ (lgP B σ nmm ks p L.length q j) := by
  obtain ⟨b1, b2, b3, b4, b5⟩ := J_ok b hb
  have hpr : ∀ b ∈ [5, 7], (b, 1) ∈ RQo := by decide
  have kb := ob_k ty b1
  obtain ⟨s1, s2, s3, s4, s5, s6, s7⟩ := hr
  obtain ⟨hj, ⟨w0, hw0, hw1⟩, h1024, hwl, htk⟩ := id hq
  have hql : 1 ≤ q.length := by have := (List.getElem?_eq_some_iff.mp hw0).1; omega
  have hel : (encR q).length = (dec (lN q.length) ++ [13, 10] ++ wordsL q).length + 1 := by rw [encR_hd]; rfl
  have no : ∀ u, kTY u → LGo σ u → KG B u nmm ks → L.length < p + (encR q).length → kjY kPP (kQQ Y) (d + 8) 33 26 [some (.ref 0), some (.int x), none, none] [] u (lgP B σ nmm ks p L.length q j) := by
    intro u tu lu gu hlt
    refine kjZ_y rfl rfl 2 _ _ _ _ tu ?_
    refine And.intro rfl (And.intro (Nat.le_of_ble_eq_true rfl) ?_)
    exact ⟨lu, Or.inr ⟨hlt, rfl, gu⟩⟩
  refine kjZ_y rfl rfl 5 _ _ _ _ ty ?_
  refine (And.intro (ty.k (by decide) rfl) (Exists.intro _ (And.intro h10 (And.intro (by assumption) (And.intro (fun c => ?_) (fun c => ?_))))))
  · have c : σ.1 b 2 ≤ x := c
    rw [s5, ex, nle (by omega) (by omega)] at c
    exact no σ ty LGo.rf g (by omega)
  have c : ¬ σ.1 b 2 ≤ x := c
  rw [s5, ex, nle (by omega) (by omega)] at c
  have h42 : σ.1 r p = 42 := hA 0 42 (by rw [encR_hd]; rfl) (by omega)
  refine kjZ_y rfl rfl 4 _ _ _ _ ty ?_
  refine (And.intro (ty.k (by decide) rfl) (Exists.intro _ (And.intro h10 (And.intro (Nat.le_of_ble_eq_true rfl) (And.intro (Or.inl ⟨(Nat.le_of_ble_eq_true rfl), (by assumption)⟩) (And.intro (Nat.le_of_ble_eq_true rfl) (And.intro (Nat.le_of_ble_eq_true rfl) (kjY_mono ty (fun q_ u1 ty1 xu1 h_ => ?_) (k_at (d := d + 7) ty b1 s1 s2 s3.2 x)))))))))
  obtain ⟨rfl, y, rfl, hy⟩ := h_
  intro _ _
  have ey : y = 42 := by rw [hy p ex (by omega), h42]; decide
  refine kjZ_y rfl rfl 2 _ _ _ _ ty1 ?_
  refine And.intro (fun c2 => ?_) (fun c2 => ?_)
  · exact absurd (show y = Int32.ofInt 42 by rw [ey]; rfl) c2
  refine kjZ_y rfl rfl 10 _ _ _ _ ty1 ?_
  refine (And.intro (ty1.k (by decide) rfl) (And.intro (ty1.k (by decide) rfl) (Exists.intro _ (And.intro h10 (And.intro (by assumption) (Exists.intro _ (And.intro s1 (And.intro (ty1.k (by decide) rfl) (Exists.intro _ (And.intro h10 (And.intro (by assumption) (And.intro (Nat.le_of_ble_eq_true rfl) (And.intro (Or.inl ⟨(Nat.le_of_ble_eq_true rfl), (ty1.k (by decide) rfl)⟩) (And.intro (Nat.le_of_ble_eq_true rfl) (And.intro (Nat.le_of_ble_eq_true rfl) (kjY_mono ty1 (fun q_ u2 ty2 xu2 h_ => ?_) (k_read (d := d + 4) ty1 s2 s3.2 s6 (p := p) hp _ _ ex s5)))))))))))))))))
  have q2 := h_
  intro _ _
  by_cases hw : p + (encR q).length ≤ L.length
  · obtain ⟨⟨z, ez, rx⟩, rfl, a4, a5, aw⟩ := rdQ_E h1024 hwl hA hw q2
    obtain ⟨g2, l2, f3⟩ := g.rd_lo ty1 ez rx
    have rq2 := RQ_of ty1 g.1.1 (hpr b hb) s1 s2 s3.2 s6 f3 l2.2.2.2.1 l2.2.2.1 l2.2.2.2.2 a4 h1024 aw
    refine kjZ_y rfl rfl 1 _ _ _ _ ty2 ?_
    refine And.intro (fun c3 => ?_) (fun c3 => ?_)
    · exact absurd rfl c3
    refine kjZ_y rfl rfl 4 _ _ _ _ ty2 ?_
    refine (And.intro (ty2.k (by decide) rfl) (And.intro (ty2.k (by decide) rfl) (And.intro (fun c4 => ?_) (fun c4 => ?_))))
    rotate_left
    · refine absurd (show u2.1 53 4 = 0 from Decidable.not_not.mp c4) ?_
      rw [a4]; exact fun w => by have := (nI_eq (a := q.length) (b := 0) (by omega) (by decide)).mp w; omega
    have k3 := ob_k ty2 (b := 3) (by decide)
    refine kjZ_y rfl rfl 5 _ _ _ _ ty2 ?_
    refine (And.intro (ty2.k (by decide) rfl) (And.intro (ty2.k (by decide) rfl) (And.intro (Nat.le_of_ble_eq_true rfl) (And.intro (Or.inl ⟨(Nat.le_of_ble_eq_true rfl), (ty2.k (by decide) rfl)⟩) (And.intro (Nat.le_of_ble_eq_true rfl) (And.intro (Nat.le_of_ble_eq_true rfl) (kjY_mono ty2 (fun q_ u3 ty3 xu3 h_ => ?_) (k_begin (d := d) ty2 rq2 k3))))))))
    obtain ⟨rfl, o, eu3, ho⟩ := h_
    intro _ _
    obtain ⟨ko3, -, -, eI3, ⟨g6, g8⟩, eF3⟩ := g2.bg ty2 rq2 (b := 3) (by decide) eu3
    have l3 := l2.tr ty1 (bg_lo ty2 g2 eu3)
    have eo := cmO_j hq ho
    rw [eo] at g8
    have kj : kCm (1000000 + j) := ⟨j, hj, rfl⟩
    have e4 : u3.1 53 4 - Int32.ofInt 1 = nI (q.length - 1) := by rw [eI3, a4]; exact pk_sub hql
    have i5 : u3.1 53 5 = nI (p + (encR q).length) := by rw [eI3]; exact a5
    refine kjZ_y rfl rfl 4 _ _ _ _ ty3 ?_
    refine (And.intro (ty3.k (by decide) rfl) (And.intro (ty3.k (by decide) rfl) (Exists.intro _ (And.intro g8 (And.intro (Nat.le_of_ble_eq_true rfl) ?_)))))
    refine kjZ_y rfl rfl 2 _ _ _ _ ty3 ?_
    refine kjZ_y rfl rfl 3 _ _ _ _ ty3 ?_
    refine (And.intro (Nat.le_of_ble_eq_true rfl) (And.intro (Or.inr (Or.inl ⟨rfl, by assumption⟩)) (And.intro (Nat.le_of_ble_eq_true rfl) (And.intro (Nat.le_of_ble_eq_true rfl) (kjY_mono ty3 (fun q_ u4 ty4 xu4 h_ => ?_) (k_has (d := d + 7) ty3 hj _))))))
    obtain ⟨rfl, q4⟩ := h_
    intro _ _
    rcases q4 with ⟨rfl, -⟩ | ⟨rfl, q4⟩
    rotate_left
    · exact absurd q4 hlg
    refine kjZ_y rfl rfl 1 _ _ _ _ ty4 ?_
    refine And.intro (fun c5 => ?_) (fun c5 => ?_)
    · exact absurd (show (1 : Int32) = 0 from c5) (by decide)
    refine kjZ_y rfl rfl 7 _ _ _ _ ty4 ?_
    refine (And.intro (ty4.k (by decide) rfl) (And.intro (ty4.k (by decide) rfl) (And.intro (Nat.le_of_ble_eq_true rfl) (And.intro (Or.inr (Or.inl ⟨rfl, by assumption⟩)) (And.intro (Nat.le_of_ble_eq_true rfl) (And.intro (Nat.le_of_ble_eq_true rfl) (kjY_mono ty4 (fun q_ u5 ty5 xu5 h_ => ?_) (k_takes (d := d + 6) ty4 hj _))))))))
    obtain ⟨rfl, q5⟩ := h_
    intro _ _
    rcases q5 with ⟨rfl, -⟩ | ⟨rfl, q5⟩
    rotate_left
    · exact absurd (show tkP j (u5.1 53 4 - Int32.ofInt 1) by rw [e4]; exact htk) q5
    refine kjZ_y rfl rfl 1 _ _ _ _ ty5 ?_
    refine And.intro (fun c6 => ?_) (fun c6 => ?_)
    · exact absurd (show (1 : Int32) = 0 from c6) (by decide)
    refine kjZ_y rfl rfl 2 _ _ _ _ ty5 ?_
    refine kjZ_y rfl rfl 3 _ _ _ _ ty5 ?_
    refine (And.intro (Nat.le_of_ble_eq_true rfl) (And.intro (fun c7 => ?_) (fun c7 => ?_)))
    · exact absurd (show (1 : Int32) = 0 from c7) (by decide)
    refine kjZ_y rfl rfl 3 _ _ _ _ ty5 ?_
    refine And.intro rfl (And.intro (Nat.le_of_ble_eq_true rfl) ?_)
    exact ⟨l3, Or.inl ⟨hw, rfl, ko3, i5⟩⟩
  · have hw : L.length < p + (encR q).length := by omega
    have ht := star_torn h1024 hwl hA hw
    obtain ⟨⟨z, ez, rx⟩, h2⟩ := q2
    obtain ⟨g2, l2, f3⟩ := g.rd_lo ty1 ez rx
    rcases h2 with ⟨q', nx, a1, a2, a3, a4, a5, a6, a7, a8, a9⟩ | ⟨-, ⟨cc, rfl, hc1, hc2⟩, -, -⟩
    · have := a9 h42
      rw [ht] at this; cases this
    · refine kjZ_y rfl rfl 1 _ _ _ _ ty2 ?_
      refine And.intro (fun c3 => ?_) (fun c3 => ?_)
      rotate_left
      · refine absurd (show nI cc = 0 from Decidable.not_not.mp c3) (fun w => ?_)
        have := (nI_eq (a := cc) (b := 0) (by omega) (by decide)).mp w; omega
      exact no u2 ty2 l2 g2 hw
end KLOGGED
