/-! All keys go. -/
abbrev fgF : List (Nat × Nat) := [(59, 9), (59, 12), (59, 13), (59, 14), (59, 15)]
section KFORG
variable {Y : Nat → MethodName × ByteArray} {d : Nat} {σ u : kS} {B ws nm nm' : List (List Int32)} {ks ks' : List KC}
theorem RST.zero9 (ty : kTY σ) {sl : List Nat} {vs : List VR} {M T : Int32} (h : RST σ [] sl vs M T) (hf : ∀ s ∈ sl, ∃ r, vs[s]? = some r ∧ r.2.2.2.2.2.2.2 = flC r.2.1) (e2 : u.2 = σ.2) (eI : ∀ h x, u.1 h x = if h = 59 ∧ (x = 9 ∨ x = 12) then 0 else σ.1 h x) : RST u [] sl vs M T := by
  obtain ⟨ri, rs, rh, NK, rt, NT, rn, Nn, te, rc, NC, rm, Nm, ce, ls, hG⟩ := h
  obtain ⟨⟨⟨i1, i2⟩, ⟨i3, i4⟩, ⟨i5, i6⟩, i7, i8⟩, ⟨⟨t1, t2⟩, ⟨t3, t4⟩, t5, t6, t7, t8, t9, t10⟩, ⟨⟨c1, c2⟩, ⟨c3, c4⟩, c5, c6, c7, c8, c9, c10⟩, ⟨⟨b1, b2, b3, b4, b5⟩, ⟨b6, b6b, b6c⟩, b7, b8, b9, b10⟩, a5, a6, a7⟩ := hG
  have eF : u.2.2.1 = σ.2.2.1 := congrArg (fun t => t.2.1) e2
  have eD : u.2.2.2.1 = σ.2.2.2.1 := congrArg (fun t => t.2.2.1) e2
  have eL : u.2.1 = σ.2.1 := congrArg (fun t => t.1) e2
  have o59 : ∀ x, ¬ x = 9 → ¬ x = 12 → u.1 59 x = σ.1 59 x := fun x z1 z2 => by rw [eI, if_neg (fun q => q.2.elim z1 z2)]
  have on : ∀ h x, ¬ h = 59 → u.1 h x = σ.1 h x := fun h x z => by rw [eI, if_neg (fun q => z q.1)]
  have k59 : (σ.2.2.2.1 59).1 = 4 := ty.k (by decide) rfl
  have n59 : ∀ {g k N : Nat}, σ.2.2.2.1 g = (k, N) → ¬ k = 4 → ¬ g = 59 := fun e z q => by rw [q] at e; rw [e] at k59; exact z k59
  have hp := sl_perm b6 b6b b6c
  have room : ∀ (i : Nat) r l, vs[i]? = some r → ls[i]? = some l → l.2 = 0 ∧ spc r.2.1 l.2 = 0 := by
    intro i r l hr hl
    have hv := a5.2.1 i r l hr hl
    have hi : i ∈ sl := hp.mem_iff.mpr (List.mem_range.mpr (List.getElem?_eq_some_iff.mp hr).1)
    obtain ⟨r', e1, e3⟩ := hf i hi
    rw [hr] at e1; cases e1
    have h0 : l.2 = 0 := by
      by_cases z : r.2.1 = 0
      · rcases (hv.2.2.2.1 z).2.1 with y | y
        · rw [e3, z] at y; exact absurd y (by decide)
        · exact y.2
      · rcases (hv.2.2.2.2 z).2.1 with y | y
        · have := pts_pos z
          rw [e3] at y; unfold flC at y; rw [if_neg z] at y
          have y : 0 = pts r.2.1 := y
          omega
        · exact y.2
    refine ⟨h0, ?_⟩
    unfold spc; rw [h0]
    by_cases z : r.2.1 = 0
    · rw [if_pos z]
    · rw [if_neg z, Nat.mul_zero]
  refine ⟨ri, rs, rh, NK, rt, NT, rn, Nn, 0, rc, NC, rm, Nm, 0, ls, ⟨⟨by rw [eF]; exact i1, by rw [eD]; exact i2⟩, ⟨by rw [eF]; exact i3, by rw [eD]; exact i4⟩, ⟨by rw [eF]; exact i5, by rw [eD]; exact i6⟩, i7, i8⟩, ⟨⟨by rw [eF]; exact t1, by rw [eD]; exact t2⟩, ⟨by rw [eF]; exact t3, by rw [eD]; exact t4⟩, t5, t6, t7, t8, by rw [eI, if_pos ⟨rfl, Or.inl rfl⟩]; rfl, Nat.zero_le _⟩, ⟨⟨by rw [eF]; exact c1, by rw [eD]; exact c2⟩, ⟨by rw [eF]; exact c3, by rw [eD]; exact c4⟩, c5, c6, c7, c8, by rw [eI, if_pos ⟨rfl, Or.inr rfl⟩]; rfl, Nat.zero_le _⟩, ⟨⟨(o59 13 (by decide) (by decide)).trans b1, (o59 6 (by decide) (by decide)).trans b2, b3, b4, b5⟩, ⟨b6, b6b, b6c⟩, fun i k hk => by simp at hk, fun i k hk => by rw [on rs _ (n59 i4 (by decide))]; exact b8 i k hk, fun i r hr => by rw [eF]; exact b9 i r hr, b10⟩, ⟨a5.1, fun i r l hr hl => ?_, fun i j r l r' l' hij q1 q2 q3 q4 _ => Or.inr (Or.inr (Or.inl (room i r l q1 q2).2))⟩, (o59 14 (by decide) (by decide)).trans a6, (o59 15 (by decide) (by decide)).trans a7⟩
  have hv := a5.2.1 i r l hr hl
  have h0 := (room i r l hr hl).1
  obtain ⟨⟨v1, v2, v3, v4, v5, v6, v7⟩, ⟨w1, w2, w3⟩, x1, x2, x3⟩ := hv
  have nv : ¬ r.1 = 59 := fun z => k11 ty v1 (show 59 < 76 by decide) z.symm
  refine ⟨⟨by rw [eD]; exact v1, v2, (on _ 1 nv).trans v3, (on _ 2 nv).trans v4, by rw [eL]; exact v5, (on _ 4 nv).trans v6, (on _ 5 nv).trans v7⟩, ⟨(on _ 6 nv).trans w1, (on _ 7 nv).trans w2, (on _ 8 nv).trans w3⟩, x1, fun z => ?_, fun z => ?_⟩
  · obtain ⟨d1, d2, d3, d4, d5⟩ := x2 z
    refine ⟨d1, d2, d3, Or.inr ⟨h0, ?_⟩, Eq.trans (wd_congr fun k hk => on rt _ (n59 t2 (by decide))) d5⟩
    rw [t2] at d4
    have d4 : l.1 + l.2 ≤ te ∨ (l.2 = 0 ∧ l.1 ≤ NT) := d4
    rw [eD, t2]; show l.1 ≤ NT
    omega
  · obtain ⟨d1, d2, d3, d4⟩ := x3 z
    refine ⟨d1, d2, Or.inr ⟨h0, by rw [h0, Nat.mul_zero], ?_⟩, fun p q hp => by rw [eL]; exact d4 p q hp⟩
    rw [c2] at d3
    have d3 : l.1 + pts r.2.1 * l.2 ≤ ce ∨ (l.2 = 0 ∧ pts r.2.1 * l.2 = 0 ∧ l.1 ≤ NC) := d3
    rw [eD, c2]; show l.1 ≤ NC
    omega
theorem STO.cnt {σ : kS} {nm : List (List Int32)} {ks : List KC} (h : STO σ nm ks) : σ.1 59 13 = nI ks.length ∧ ks.length ≤ 2600 := by
  obtain ⟨fr, vs, hR, -⟩ := h
  obtain ⟨ri, rs, rh, NK, rt, NT, rn, Nn, te, rc, NC, rm, Nm, ce, ls, hG⟩ := hR
  obtain ⟨b1, b2, b3, b4, b5⟩ := hG.2.2.2.1.1
  rw [List.length_map] at b1 b3
  exact ⟨b1, by omega⟩
/-- the ends of the rows are set to 0 -/
theorem fg_fin (ty : kTY σ) (g : KG B σ nm []) (eu : u = (mjIu (mjIu σ.1 59 9 (Int32.ofInt 0)) 59 12 (Int32.ofInt 0), σ.2)) : KG B u nm [] ∧ Ch true fgF drO σ u := by
  have e2 : u.2 = σ.2 := by rw [eu]
  have eI : ∀ h x, u.1 h x = if h = 59 ∧ (x = 9 ∨ x = 12) then 0 else σ.1 h x := by
    intro h x
    rw [eu]; show mjIu (mjIu σ.1 59 9 _) 59 12 _ h x = _
    rw [mjIu_at, mjIu_at]
    by_cases z : h = 59 ∧ x = 12
    · rw [if_pos z, if_pos ⟨z.1, Or.inr z.2⟩]; rfl
    · rw [if_neg z]
      by_cases y : h = 59 ∧ x = 9
      · rw [if_pos y, if_pos ⟨y.1, Or.inl y.2⟩]; rfl
      · rw [if_neg y, if_neg (fun q => q.2.elim (fun a => y ⟨q.1, a⟩) (fun a => z ⟨q.1, a⟩))]
  have eF : u.2.2.1 = σ.2.2.1 := congrArg (fun t => t.2.1) e2
  have eD : u.2.2.2.1 = σ.2.2.2.1 := congrArg (fun t => t.2.2.1) e2
  have ex : kEx σ u := ⟨by rw [e2]; exact Nat.le_refl _, fun h _ => by rw [eD], by rw [e2], by rw [e2]; exact Nat.le_refl _⟩
  have ch : Ch true fgF drO σ u := Ch_ints e2 (fun h x n => by rw [eI, if_neg (fun q => n ?_)]; rcases q.2 with z | z <;> rw [q.1, z] <;> decide) (fun p hp => by
    have q : ∀ p ∈ fgF, p.1 = 59 := by decide
    rw [q p hp, ty.k (h := 59) (c := 4) (by decide) rfl]; decide)
  obtain ⟨fr, vs, hR, hV⟩ := g.2.2.1
  have hb : ∀ b ∈ OWb, ¬ b = 59 := by decide
  refine ⟨g.sto ty ch (by decide) (by decide) (g.1.1.same (fun p _ => by rw [eF])) (g.1.2.same (fun p hp => kl_eq ty ex hp (by rw [eF])) (fun b q => by rw [eI, if_neg (fun z => hb b q z.1)]) (by rw [eI, if_neg (fun z => by omega)]) ⟨by rw [e2], by rw [e2]⟩) ⟨fr, vs, RST.zero9 ty hR (fun s hs => ?_) e2 eI, hV⟩, ch⟩
  obtain ⟨r, a1, -, -, -, a5⟩ := hV.2.1 s hs
  exact ⟨r, a1, a5⟩
theorem kG_forget_l {n : Nat} (ts : kTY σ) (hn : n ≤ 2600) (x1 : Int32) (e1 : x1 = nI n) : ∀ (f i : Nat) (x2 : Int32) (u : kS) (ks : List KC), ks.length = f → i + f = n → x2 = nI i → kTY u → KG B u nm ks → Ch true fgF drO σ u →
    kjY kPP (kQQ Y) (d + 3) 127 5 [some (.ref 59), some (.int x1), some (.int x2)] [] u (fun r z => r = none ∧ KG B z nm [] ∧ Ch true fgF drO σ z) := by
  intro f
  induction f with
  | zero =>
    intro i x2 u ks hks hi e2 tu gu cu
    obtain rfl := List.length_eq_zero_iff.mp hks
    refine kjZ_y rfl rfl 3 _ _ _ _ tu ?_
    refine And.intro (fun c => ?_) (fun c => ?_)
    rotate_left
    · exact absurd (show x1 ≤ x2 by rw [e1, e2, nle (by omega) (by omega)]; omega) c
    refine kjZ_y rfl rfl 7 _ _ _ _ tu ?_
    refine (And.intro (tu.k (by decide) rfl) (And.intro (Or.inl rfl) (fun tu' => (And.intro (tu'.k (by decide) rfl) (And.intro (Or.inl rfl) (fun tu'' => And.intro rfl (And.intro rfl ?_)))))))
    obtain ⟨z1, z2⟩ := fg_fin (u := (mjIu (mjIu u.1 59 9 (Int32.ofInt 0)) 59 12 (Int32.ofInt 0), u.2)) tu gu rfl
    exact ⟨rfl, z1, Ch.tr ts (by decide) cu z2⟩
  | succ f ih =>
    intro i x2 u ks hks hi e2 tu gu cu
    rcases List.eq_nil_or_concat ks with z | ⟨P, y, z⟩
    · rw [z] at hks; cases hks
    rw [z, List.concat_eq_append] at gu
    have hPl : P.length = f := by rw [z, List.concat_eq_append, List.length_append, List.length_singleton] at hks; omega
    have hc := gu.2.2.1.cnt.1
    rw [List.length_append, List.length_singleton] at hc
    have e13 : u.1 59 13 - Int32.ofInt 1 = nI P.length := by rw [hc]; exact pk_sub (a := P.length + 1) (b := 1) (by omega)
    refine kjZ_y rfl rfl 3 _ _ _ _ tu ?_
    refine And.intro (fun c => ?_) (fun c => ?_)
    · exact absurd (show x1 ≤ x2 from c) (by rw [e1, e2, nle (by omega) (by omega)]; omega)
    refine kjZ_y rfl rfl 6 _ _ _ _ tu ?_
    refine (And.intro (tu.k (by decide) rfl) (And.intro (Nat.le_of_ble_eq_true rfl) (And.intro (Or.inl ⟨(Nat.le_of_ble_eq_true rfl), (tu.k (by decide) rfl)⟩) (And.intro (Nat.le_of_ble_eq_true rfl) (And.intro (Nat.le_of_ble_eq_true rfl) (kjY_mono tu (fun q_ u1 ty1 xu1 h_ => ?_) (kG_dropAt tu gu _ e13)))))))
    obtain ⟨rfl, g1, c1⟩ := h_
    intro _ _
    rw [List.append_nil] at g1
    refine kjZ_y rfl rfl 2 _ _ _ _ ty1 ?_
    exact ih (i + 1) _ u1 P hPl (by omega) (by rw [e2]; exact nI_1 i) ty1 g1 (Ch.tr ts (by decide) cu (c1.up (fun z => z) (by decide) (by decide)))
theorem kG_forget (ty : kTY σ) (g : KG B σ nm ks) : kjY kPP (kQQ Y) (d + 3) 127 0 (mjL0 3 [.ref 59]) [] σ (fun r z => r = none ∧ KG B z nm [] ∧ Ch true fgF drO σ z) := by
  obtain ⟨h1, h2⟩ := g.2.2.1.cnt
  refine kjZ_y rfl rfl 5 _ _ _ _ ty ?_
  refine (And.intro (ty.k (by decide) rfl) (And.intro (Nat.le_of_ble_eq_true rfl) (And.intro (Nat.le_of_ble_eq_true rfl) ?_)))
  exact kG_forget_l ty h2 _ h1 ks.length 0 _ σ ks rfl (by omega) rfl ty g Ch.rf
end KFORG
