/-! A request is looked at ahead of its command. -/
def adF (c : Nat) : List (Nat × Nat) := bbF c ++ [(53, 6), (53, 8)]
theorem adF_b {c : Nat} : ∀ p ∈ bbF c, p ∈ adF c := fun p hp => List.mem_append_left _ hp
theorem adF_5 {c : Nat} : ∀ p ∈ [((53, 6) : Nat × Nat), (53, 8)], p ∈ adF c := fun p hp => List.mem_append_right _ hp
section KADMIT
variable {Y : Nat → MethodName × ByteArray} {d : Nat} {σ u : kS} {B ws nm nm' : List (List Int32)} {ks ks' : List KC}
/-- a request has begun -/
theorem KG.bg (ty : kTY σ) (g : KG B σ nm ks) (hq : RQ σ ws) {b : Nat} (hb : b ∈ ANb) {o : Option Nat} (eu : u = (σ.1, σ.2.1, kFu (kFu σ.2.2.1 53 6 (some b)) 53 8 o, σ.2.2.2)) : KO B u ws nm ks ∧ KPb σ u ∧ Ch true [(53, 6), (53, 8)] [] σ u ∧ u.1 = σ.1 ∧ (u.2.2.1 53 6 = some b ∧ u.2.2.1 53 8 = o) ∧ ∀ h x, ¬ h = 53 → u.2.2.1 h x = σ.2.2.1 h x := by
  have k53 : (σ.2.2.2.1 53).1 = 3 := ty.k (by decide) rfl
  have eF : ∀ h x, u.2.2.1 h x = if h = 53 ∧ x = 8 then o else if h = 53 ∧ x = 6 then some b else σ.2.2.1 h x := fun h x => by
    rw [eu]; show kFu (kFu σ.2.2.1 53 6 (some b)) 53 8 o h x = _
    rw [kFu_at, kFu_at]
  have eI : u.1 = σ.1 := by rw [eu]
  have eD : u.2.2.2.1 = σ.2.2.2.1 := by rw [eu]
  have n6 : ¬ (53, 6) ∈ OWs ∧ ¬ (53, 8) ∈ OWs := by decide +kernel
  have ch : Ch false [(53, 6), (53, 8)] [] σ u := by
    have a := Ch_f (vs := false) (os := []) (σ := σ) (a := 53) (x := 6) (o := some b) (by rw [k53]; decide) (fun z => absurd z n6.1)
    have c := Ch_f (vs := false) (os := []) (σ := (σ.1, σ.2.1, kFu σ.2.2.1 53 6 (some b), σ.2.2.2)) (a := 53) (x := 8) (o := o) (by show (σ.2.2.2.1 53).1 < 20; rw [k53]; decide) (fun z => absurd z n6.2)
    rw [eu]
    exact Ch.tr ty (fun p hp => by cases hp) (a.up (fun z => z) (fun p hp => by rw [List.mem_singleton.mp hp]; exact List.mem_cons_self) (fun p hp => hp)) (c.up (fun z => z) (fun p hp => by rw [List.mem_singleton.mp hp]; exact List.mem_cons_of_mem _ List.mem_cons_self) (fun p hp => hp))
  have eO : ∀ p ∈ OWs, u.2.2.1 p.1 p.2 = σ.2.2.1 p.1 p.2 := fun p hp => by
    rw [eF, if_neg (fun z => n6.2 (by rw [← z.1, ← z.2]; exact hp)), if_neg (fun z => n6.1 (by rw [← z.1, ← z.2]; exact hp))]
  have kg : KG B u nm ks := g.fl ty ch (by
    have q : ∀ p ∈ [(53, 6), (53, 8)], p ∈ ouF := by decide +kernel
    exact q) (g.1.1.same eO) (g.1.2.same (fun p hp => kl_eq ty ch.1 hp (eO p hp)) (fun b hb => by rw [eI]) (by rw [eI]) (by rw [eu]; exact ⟨rfl, rfl⟩))
  have e53 : ∀ h x, ¬ h = 53 → u.2.2.1 h x = σ.2.2.1 h x := fun h x n => by rw [eF, if_neg (fun z => n z.1), if_neg (fun z => n z.1)]
  obtain ⟨gg, M, ⟨a1, a2, a3⟩, ⟨p, hp, a4⟩, a5, a7⟩ := hq
  have hp53 : ∀ p ∈ RQo, ¬ p.1 = 53 := by decide
  have f6 : u.2.2.1 53 6 = some b := by rw [eF, if_neg (fun z => absurd z.2 (by decide)), if_pos ⟨rfl, rfl⟩]
  refine ⟨⟨kg, ⟨gg, M, ⟨by rw [eF, if_neg (fun z => absurd z.2 (by decide)), if_neg (fun z => absurd z.2 (by decide))]; exact a1, by rw [eD]; exact a2, a3⟩, ⟨p, hp, by rw [e53 _ _ (hp53 p hp)]; exact a4⟩, by rw [eI]; exact a5, by rw [eI]; exact a7⟩, b, hb, f6⟩, fun b' hb' l hl => ⟨?_, by rw [eI]⟩, ch.up (fun _ => rfl) (fun p hp => hp) (fun p hp => hp), eI, ⟨f6, by rw [eF, if_pos ⟨rfl, rfl⟩]⟩, e53⟩
  · refine hl.fr ty g.1.1 (P_ok b' hb').1 ch (fun p hp z => ?_) (fun p hp => by cases hp)
    have f1 : ∀ p ∈ [(53, 6), (53, 8)], p.1 = 53 := by decide
    exact (P_ok b' hb').2.2.1 (by rw [← z]; exact f1 p hp)
/-- what a request's look leaves: nothing to run; one command; a command kept; a block -/
def admP (B : List (List Int32)) (σ : kS) (ws nm : List (List Int32)) (ks : List KC) (c bk rn m : Nat) (l : List Int32) : kK := fun r u => ∃ m' o, (4 * m' ≤ u.2.2.2.2.2.2 ∧ 1 ≤ u.2.2.2.2.2.1) ∧ KO B (kHd m' u) ws nm ks ∧ Ch true (adF c) AFo σ u ∧ u.2.2.1 53 6 = some (c + 3) ∧ u.2.2.1 53 8 = o ∧ cmO ws o ∧
  ((r = some (.int 0) ∧ m' = m ∧ (u.2.2.1 c 3 = some bk ∧ u.2.2.1 0 12 = some rn ∧ u.1 0 13 = σ.1 0 13 ∧ u.1 c 7 = σ.1 c 7) ∧ KPb σ u) ∨
   (∃ j, o = some (1000000 + j) ∧ j < 105 ∧ tkP j (nI (ws.length - 1)) ∧
     ((r = some (.int 1) ∧ m' = m ∧ (u.2.2.1 c 3 = some bk ∧ u.2.2.1 0 12 = some rn ∧ u.1 0 13 = σ.1 0 13 ∧ u.1 c 7 = σ.1 c 7) ∧ KPb σ u) ∨
      (r = some (.int 0) ∧ (u.2.2.1 c 3 = some bk ∧ u.2.2.1 0 12 = some rn ∧ u.1 0 13 = σ.1 0 13) ∧ ∃ l', JN bk u l' ∧ m' + l'.length = m + l.length ∧ (∀ b ∈ payB, ¬ b = bk → ∀ l, kBY σ b l → kBY u b l ∧ u.1 b 3 = σ.1 b 3) ∧ ((l' = l ∧ u.1 c 7 = σ.1 c 7) ∨ (l' = l ++ encR ws ∧ σ.1 c 7 < nI 200 ∧ u.1 c 7 = σ.1 c 7 + 1))) ∨
      (m' = m ∧ u.1 c 4 = 0 ∧ u.1 c 7 = 0 ∧ ((r = some (.int 0) ∧ u.2.2.1 c 3 = some bk ∧ u.2.2.1 0 12 = some rn ∧ u.1 0 13 = σ.1 0 13 ∧ emB_ σ u bk) ∨ (r = some (.int (σ.1 c 7)) ∧ u.2.2.1 c 3 = some rn ∧ u.2.2.1 0 12 = some bk ∧ (u.1 0 13 = 1 ∧ u.1 0 14 = 0 ∧ u.1 0 15 = 0) ∧ emB_ σ u rn))))))
end KADMIT
