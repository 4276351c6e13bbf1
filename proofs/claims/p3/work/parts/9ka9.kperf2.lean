/-! A request is performed: the answer to it, the note of it. -/
/-- what is noted behind an effect -/
def PFn (rp rb nb : Int32) : Eff → List Int32
  | none => []
  | some (_, i, as) => if rp = 0 then mlC rb nb ++ encR (nm i :: as) else []
def PFf (b : Nat) : List (Nat × Nat) := njF b ++ OFf
def PFo (b : Nat) : List (Nat × Nat) := (b, 1) :: OFo
/-- how an effect is marked -/
def NTZ (ws : Req) (j : Nat) (u : kS) : Eff → Prop
  | none => u.1 59 18 = 0
  | some (_, i, as) => u.1 59 18 = 1 ∧ ∃ w1 wv, NTF u ws j w1 wv ∧ ntC (u.1 53 13) (u.1 53 15) (u.2.1 53 16) j ws w1 wv = nm i :: as
/-- the journal's mark of a block begun -/
def PFb (rp : Int32) (σ u : kS) (e : Eff) : Prop := ((e = none ∨ ¬ rp = 0) → u.1 0 14 = σ.1 0 14) ∧ ((¬ e = none) → rp = 0 → (¬ σ.1 0 13 = 0) → ¬ u.1 0 14 = 0) ∧ u.1 0 13 = σ.1 0 13
section KPERF2
variable {Y : Nat → MethodName × ByteArray} {d : Nat} {σ u : kS} {B ws nmm nmm' : List (List Int32)} {ks ks' : List KC} {j : Nat}
theorem PF_ok : ∀ b ∈ [5, 7], (∀ p ∈ OFf, (¬ p.1 = b) ∧ ¬ p = (53, 3)) ∧ (∀ p ∈ OFo, p ∈ OWs ∧ ¬ p.1 = b) ∧ b ∈ OWb ∧ (b, 1) ∈ OWs := by decide +kernel
theorem PF_0 : ∀ p ∈ OFf, ¬ p.1 = 0 := by decide +kernel
theorem PF_59 : (¬ (59, 16) ∈ OFf) ∧ (¬ (59, 17) ∈ OFf) := by decide +kernel
theorem PFo_in {b : Nat} (hb : b ∈ [5, 7]) : ∀ p ∈ PFo b, p ∈ OWs := fun p hp => by
  rcases List.mem_cons.mp hp with rfl | hp
  · exact (PF_ok b hb).2.2.2
  · exact OFo_in p hp
theorem OF_PF {b : Nat} (h : Ch true OFf OFo σ u) : Ch true (PFf b) (PFo b) σ u := h.up (fun z => z) (fun p hp => List.mem_append_right _ hp) (fun p hp => List.mem_cons_of_mem _ hp)
theorem NJ_PF {b : Nat} (h : Ch false (njF b) [(b, 1)] σ u) : Ch true (PFf b) (PFo b) σ u := h.up (fun z => by cases z) (fun p hp => List.mem_append_left _ hp) (fun p hp => by rw [List.mem_singleton.mp hp]; exact List.mem_cons_self ..)
theorem OF_fl (ty : kTY σ) (h : Ch true OFf OFo σ u) : (∀ x, u.1 0 x = σ.1 0 x ∧ u.2.2.1 0 x = σ.2.2.1 0 x) ∧ (u.1 59 17 = σ.1 59 17 ∧ u.2.1 59 16 = σ.2.1 59 16) := by
  refine ⟨fun x => ?_, ?_, ?_⟩
  · have := h.fld ty (h := 0) (x := x) (c := 9) (by decide) rfl (by decide) (fun z => PF_0 _ z rfl)
    exact ⟨this.1, this.2.2⟩
  · exact (h.fld ty (h := 59) (x := 17) (c := 4) (by decide) rfl (by decide) PF_59.2).1
  · exact (h.fld ty (h := 59) (x := 16) (c := 4) (by decide) rfl (by decide) PF_59.1).2.1
theorem nj_als : ∀ b ∈ [5, 7], (∀ p ∈ njF b, (¬ p.1 ∈ OFb) ∧ ∀ c ∈ CNs, (¬ p = (c, 0)) ∧ (¬ p = (c, 3)) ∧ ¬ p = (c, 7)) ∧ ∀ p ∈ [((b, 1) : Nat × Nat)], p ∈ OWs ∧ ¬ p.1 ∈ OFb := by decide +kernel
/-- behind the command's run -/
theorem kx_perf52 (ty : kTY σ) (g : KO B σ ws nmm ks) {b : Nat} (hb : b ∈ [5, 7]) {l : List Int32} (jn : JN b σ l) (h10 : σ.2.2.1 0 10 = some b) {e : Eff} (hE : NTZ ws j σ e) (hlen : (l ++ PFn (σ.1 59 17) (σ.1 0 13) (σ.1 0 14) e).length ≤ 210000) (v1 v2 : Option Value) :
    kjY kPP (kQQ Y) (d + 10) 27 52 [some (.ref 0), v1, v2] [] σ (fun r u => r = none ∧ KO B u ws nmm ks ∧ JN b u (l ++ PFn (σ.1 59 17) (σ.1 0 13) (σ.1 0 14) e) ∧ (u.1 59 17 = σ.1 59 17 ∧ u.2.1 59 16 = σ.2.1 59 16) ∧ (Ch true (PFf b) (PFo b) σ u ∧ CQ [] σ u) ∧ PFb (σ.1 59 17) σ u e) := by
  obtain ⟨o1, o2, o3, o4⟩ := PF_ok b hb
  refine kjZ_y rfl rfl 3 _ _ _ _ ty ?_
  refine (And.intro (ty.k (by decide) rfl) (And.intro (Nat.le_of_ble_eq_true rfl) (And.intro (Or.inl ⟨(Nat.le_of_ble_eq_true rfl), (ty.k (by decide) rfl)⟩) (And.intro (Nat.le_of_ble_eq_true rfl) (And.intro (Nat.le_of_ble_eq_true rfl) (kjY_mono ty (fun q_ z1 t1 xx1 h_ => ?_) (kx_tellRefusal (d := d + 2) ty (g.in_ ty))))))))
  have q1 := h_
  intro _ _
  obtain ⟨rfl, g1, a1, b1⟩ := g.wq ty q1
  obtain ⟨f0, f17, f16⟩ := OF_fl ty b1.1
  have jz : JN b z1 l := jn.fr ty g.1.1.1 o3 b1.1 o1 o2
  have e18 : z1.1 59 18 = σ.1 59 18 := (a1 (59, 18) (by decide)).1
  have done : ∀ z, z = z1 → (e = none ∨ ¬ σ.1 59 17 = 0) → (none = (none : Option Value) ∧ KO B z ws nmm ks ∧ JN b z (l ++ PFn (σ.1 59 17) (σ.1 0 13) (σ.1 0 14) e) ∧ (z.1 59 17 = σ.1 59 17 ∧ z.2.1 59 16 = σ.2.1 59 16) ∧ (Ch true (PFf b) (PFo b) σ z ∧ CQ [] σ z) ∧ PFb (σ.1 59 17) σ z e) := by
    intro z ez hz
    subst ez
    have en : PFn (σ.1 59 17) (σ.1 0 13) (σ.1 0 14) e = [] := by
      cases e with
      | none => rfl
      | some x =>
        have hz := hz.resolve_left (fun y => by cases y)
        exact if_neg hz
    refine ⟨rfl, g1, by rw [en, List.append_nil]; exact jz, ⟨f17, f16⟩, ⟨OF_PF b1.1, b1.2⟩, fun _ => (f0 14).1, fun y1 y2 => ?_, (f0 13).1⟩
    rcases hz with hz | hz
    · exact absurd hz y1
    · exact absurd y2 hz
  refine kjZ_y rfl rfl 4 _ _ _ _ t1 ?_
  refine (And.intro (t1.k (by decide) rfl) (And.intro (t1.k (by decide) rfl) (And.intro (fun c => ?_) (fun c => ?_))))
  · have c : z1.1 59 18 = 0 := c
    rw [e18] at c
    refine kjZ_y rfl rfl 1 _ _ _ _ t1 ?_
    refine And.intro rfl (And.intro rfl ?_)
    refine done z1 rfl (Or.inl ?_)
    cases e with
    | none => rfl
    | some x => have := hE.1; rw [c] at this; exact absurd this (by decide)
  · have c : ¬ z1.1 59 18 = 0 := c
    rw [e18] at c
    refine kjZ_y rfl rfl 4 _ _ _ _ t1 ?_
    refine (And.intro (t1.k (by decide) rfl) (And.intro (t1.k (by decide) rfl) (And.intro (fun c2 => ?_) (fun c2 => ?_))))
    · have c2 : ¬ z1.1 59 17 = 0 := c2
      rw [f17] at c2
      refine kjZ_y rfl rfl 1 _ _ _ _ t1 ?_
      refine And.intro rfl (And.intro rfl ?_)
      exact done z1 rfl (Or.inr c2)
    · have c2 : σ.1 59 17 = 0 := by
        have c2 := Decidable.of_not_not c2
        rw [← f17]; exact c2
      cases e with
      | none => exact absurd hE c
      | some x =>
        obtain ⟨A', i, as⟩ := x
        obtain ⟨h18, w1, wv, hn, en⟩ := hE
        have hf : ∀ x, (53, x) ∈ scA → z1.1 53 x = σ.1 53 x ∧ z1.2.1 53 x = σ.2.1 53 x ∧ z1.2.2.1 53 x = σ.2.2.1 53 x := fun x hx => a1 (53, x) hx
        have hn1 : NTF z1 ws j w1 wv := by
          obtain ⟨k1, k2, k3⟩ := hn
          refine ⟨⟨by rw [(hf 8 (by decide)).2.2]; exact k1.1, k1.2⟩, k2, ?_⟩
          rw [(hf 13 (by decide)).1, (hf 14 (by decide)).1]; exact k3
        have en1 : ntC (z1.1 53 13) (z1.1 53 15) (z1.2.1 53 16) j ws w1 wv = nm i :: as := by
          rw [(hf 13 (by decide)).1, (hf 15 (by decide)).1, (hf 16 (by decide)).2.1]; exact en
        have eP : PFn (σ.1 59 17) (σ.1 0 13) (σ.1 0 14) (some (A', i, as)) = mlC (σ.1 0 13) (σ.1 0 14) ++ encR (nm i :: as) := if_pos c2
        have hl1 : (l ++ mlC (z1.1 0 13) (z1.1 0 14) ++ encR (ntC (z1.1 53 13) (z1.1 53 15) (z1.2.1 53 16) j ws w1 wv)).length ≤ 210000 := by
          rw [en1, (f0 13).1, (f0 14).1, List.append_assoc, ← eP]; exact hlen
        refine kjZ_y rfl rfl 2 _ _ _ _ t1 ?_
        refine (And.intro (Nat.le_of_ble_eq_true rfl) (And.intro (Or.inl ⟨(Nat.le_of_ble_eq_true rfl), (t1.k (by decide) rfl)⟩) (And.intro (Nat.le_of_ble_eq_true rfl) (And.intro (Nat.le_of_ble_eq_true rfl) (kjY_mono t1 (fun q_ z2 t2 xx2 h_ => ?_) (kx_note (d := d + 1) t1 g1 hb jz (by rw [(f0 10).2]; exact h10) hn1 hl1))))))
        obtain ⟨rfl, k2, k3, k4, k5⟩ := h_
        intro _ _
        refine kjZ_y rfl rfl 1 _ _ _ _ t2 ?_
        refine And.intro rfl (And.intro rfl ?_)
        rw [en1, (f0 13).1, (f0 14).1, List.append_assoc, ← eP] at k3
        obtain ⟨-, b2, b3, b4, -⟩ := J_ok b hb
        have n59 : ∀ p ∈ njF b, ¬ p.1 = 59 ∧ ¬ p = (0, 13) := by
          rcases List.mem_cons.mp hb with rfl | hb
          · decide
          · obtain rfl := List.mem_singleton.mp hb; decide
        have g59 := fun x => k4.fld t1 (h := 59) (x := x) (c := 4) (by decide) rfl (by decide) (fun z => (n59 _ z).1 rfl)
        have g13 := k4.fld t1 (h := 0) (x := 13) (c := 9) (by decide) rfl (by decide) (fun z => (n59 _ z).2 rfl)
        refine ⟨rfl, k2, k3, ⟨(g59 17).1.trans f17, (g59 16).2.1.trans f16⟩, ⟨Ch.tr ty (PFo_in hb) (OF_PF b1.1) (NJ_PF k4), b1.2.tr (ALS.ch t1 g1.1.1.1 k4 (nj_als b hb).1 (nj_als b hb).2).cq⟩, fun y => ?_, fun _ _ y => ?_, g13.1.trans (f0 13).1⟩
        · exact absurd c2 (y.resolve_left (fun y => by cases y))
        · rcases k5 (by rw [(f0 13).1]; exact y) with q | ⟨q1, q2⟩
          · rw [q]; decide
          · rw [q1]; exact q2
end KPERF2
