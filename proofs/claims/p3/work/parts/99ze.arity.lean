/-! arityFits. -/
section ARITY
variable {Y : Nat → MethodName × ByteArray} {d : Nat}
def afC (i n : Nat) : Bool := if i = 9 ∨ i = 10 then decide (n % 2 = 0) else if i = 52 then decide (n % 2 = 1) else !decide (i = 21 ∧ n = 2)
def afB (lo hi : Int32) (i n : Nat) : Bool := if nI n < lo ∨ ((0 : Int32) ≤ hi ∧ hi < nI n) then false else afC i n
set_option maxRecDepth 100000 in
theorem c_arityFits {σ : mjS} {ws : List (List Int32)} (har : AR σ ws) (ty : mjTY σ) (h1 : 1 ≤ ws.length) (i1 : Nat) (hi : i1 < 128) {x : Int32} (ex : x = nI i1) : mjY mjPP (mjQQ Y) (d + 4) 58 0 (mjL0 3 [.ref 0, .int x]) [] σ (fun r u => r = some (.int (bI (afB (σ.2.2.1 r_least i1) (σ.2.2.1 r_most i1) i1 (ws.length - 1)))) ∧ u = σ) := by
  have h1024 := har.2.1
  have E : ∀ c : Nat, c < 128 → ((x = nI c) ↔ i1 = c) := fun c hc => by rw [ex, nI_eq (by omega) (by omega)]
  have vx : vp_in x 128 := by rw [ex]; exact vp_in_nI hi (by decide)
  have cx : x.toNatClampNeg = i1 := by rw [ex]; exact nI_clamp (by omega)
  have en : σ.1 f_words - Int32.ofInt 1 = nI (ws.length - 1) := by rw [har.1]; exact pk_sub (b := 1) (by omega)
  generalize hn : ws.length - 1 = n at en
  have hnl : n < 2000 := by omega
  have go : ∀ x2 : Int32, x2 = nI n → mjY mjPP (mjQQ Y) (d + 4) 58 5 [some (.ref 0), some (.int x), some (.int x2)] [] σ (fun r u => r = some (.int (bI (afB (σ.2.2.1 r_least i1) (σ.2.2.1 r_most i1) i1 n))) ∧ u = σ) := by
    intro x2 e2
    have er : x2 - x2 / Int32.ofInt 2 * Int32.ofInt 2 = nI (n % 2) := by rw [e2]; exact pk_rem (d := 2) (by omega) (by decide) (by decide)
    have bad : (nI n < σ.2.2.1 r_least i1 ∨ ((0 : Int32) ≤ σ.2.2.1 r_most i1 ∧ σ.2.2.1 r_most i1 < nI n)) → mjY mjPP (mjQQ Y) (d + 4) 58 22 [some (.ref 0), some (.int x), some (.int x2)] [] σ (fun r u => r = some (.int (bI (afB (σ.2.2.1 r_least i1) (σ.2.2.1 r_most i1) i1 n))) ∧ u = σ) := by
      intro y
      rw [show afB (σ.2.2.1 r_least i1) (σ.2.2.1 r_most i1) i1 n = false from if_pos y]
      refine mjZ_y rfl rfl 2 _ _ _ _ ty ?_
      refine And.intro rfl (And.intro (Or.inr ⟨rfl, Or.inl rfl⟩) ?_)
      exact ⟨rfl, rfl⟩
    have good : ¬ (nI n < σ.2.2.1 r_least i1 ∨ ((0 : Int32) ≤ σ.2.2.1 r_most i1 ∧ σ.2.2.1 r_most i1 < nI n)) → mjY mjPP (mjQQ Y) (d + 4) 58 24 [some (.ref 0), some (.int x), some (.int x2)] [] σ (fun r u => r = some (.int (bI (afB (σ.2.2.1 r_least i1) (σ.2.2.1 r_most i1) i1 n))) ∧ u = σ) := by
      intro y
      rw [show afB (σ.2.2.1 r_least i1) (σ.2.2.1 r_most i1) i1 n = afC i1 n from if_neg y]
      have ev : (i1 = 9 ∨ i1 = 10) → mjY mjPP (mjQQ Y) (d + 4) 58 30 [some (.ref 0), some (.int x), some (.int x2)] [] σ (fun r u => r = some (.int (bI (afC i1 n))) ∧ u = σ) := by
        intro c
        rw [show afC i1 n = decide (n % 2 = 0) from if_pos c]
        refine mjZ_y rfl rfl 4 _ _ _ _ ty ?_
        refine (And.intro (by decide) (And.intro (fun b => ?_) (fun b => ?_)))
        · have b : ¬ n % 2 = 0 := fun z => b (er.trans (by rw [z]; rfl))
          rw [decide_eq_false b]
          refine mjZ_y rfl rfl 2 _ _ _ _ ty ?_
          refine And.intro rfl (And.intro (Or.inr ⟨rfl, Or.inl rfl⟩) ?_)
          exact ⟨rfl, rfl⟩
        · have b : n % 2 = 0 := (nI_eq (by omega) (by decide)).mp (show nI (n % 2) = nI 0 from er.symm.trans (Decidable.of_not_not b))
          rw [decide_eq_true b]
          refine mjZ_y rfl rfl 3 _ _ _ _ ty ?_
          refine And.intro rfl (And.intro (Or.inr ⟨rfl, Or.inr rfl⟩) ?_)
          exact ⟨rfl, rfl⟩
      refine mjZ_y rfl rfl 3 _ _ _ _ ty ?_
      refine And.intro (fun c => ?_) (fun c => ?_)
      · exact ev (Or.inl ((E 9 (by decide)).mp c))
      · refine mjZ_y rfl rfl 3 _ _ _ _ ty ?_
        refine And.intro (fun b => ?_) (fun b => ?_)
        · have nc : ¬ (i1 = 9 ∨ i1 = 10) := fun z => z.elim (fun z => c ((E 9 (by decide)).mpr z)) (fun z => b ((E 10 (by decide)).mpr z))
          refine mjZ_y rfl rfl 3 _ _ _ _ ty ?_
          refine And.intro (fun k => ?_) (fun k => ?_)
          · have k : ¬ i1 = 52 := fun z => k ((E 52 (by decide)).mpr z)
            rw [show afC i1 n = !decide (i1 = 21 ∧ n = 2) by unfold afC; rw [if_neg nc, if_neg k]]
            have yes : ¬ (i1 = 21 ∧ n = 2) → mjY mjPP (mjQQ Y) (d + 4) 58 56 [some (.ref 0), some (.int x), some (.int x2)] [] σ (fun r u => r = some (.int (bI (!decide (i1 = 21 ∧ n = 2)))) ∧ u = σ) := by
              intro z
              rw [decide_eq_false z]
              refine mjZ_y rfl rfl 3 _ _ _ _ ty ?_
              refine And.intro rfl (And.intro (Or.inr ⟨rfl, Or.inr rfl⟩) ?_)
              exact ⟨rfl, rfl⟩
            refine mjZ_y rfl rfl 3 _ _ _ _ ty ?_
            refine And.intro (fun g => ?_) (fun g => ?_)
            · exact yes (fun z => g ((E 21 (by decide)).mpr z.1))
            · refine mjZ_y rfl rfl 3 _ _ _ _ ty ?_
              refine And.intro (fun e => ?_) (fun e => ?_)
              · have e : n = 2 := (nI_eq (by omega) (by decide)).mp (show nI n = nI 2 from e2.symm.trans e)
                rw [decide_eq_true (p := i1 = 21 ∧ n = 2) ⟨(E 21 (by decide)).mp (Decidable.of_not_not g), e⟩]
                refine mjZ_y rfl rfl 2 _ _ _ _ ty ?_
                refine And.intro rfl (And.intro (Or.inr ⟨rfl, Or.inl rfl⟩) ?_)
                exact ⟨rfl, rfl⟩
              · exact yes (fun z => e (show x2 = nI 2 by rw [e2, z.2]))
          · have k : i1 = 52 := (E 52 (by decide)).mp (Decidable.of_not_not k)
            rw [show afC i1 n = decide (n % 2 = 1) by unfold afC; rw [if_neg nc, if_pos k]]
            refine mjZ_y rfl rfl 5 _ _ _ _ ty ?_
            refine (And.intro (by decide) (And.intro (fun e => ?_) (fun e => ?_)))
            · have e : ¬ n % 2 = 1 := fun z => e (er.trans (by rw [z]; rfl))
              rw [decide_eq_false e]
              refine mjZ_y rfl rfl 2 _ _ _ _ ty ?_
              refine And.intro rfl (And.intro (Or.inr ⟨rfl, Or.inl rfl⟩) ?_)
              exact ⟨rfl, rfl⟩
            · have e : n % 2 = 1 := (nI_eq (by omega) (by decide)).mp (show nI (n % 2) = nI 1 from er.symm.trans (Decidable.of_not_not e))
              rw [decide_eq_true e]
              refine mjZ_y rfl rfl 3 _ _ _ _ ty ?_
              refine And.intro rfl (And.intro (Or.inr ⟨rfl, Or.inr rfl⟩) ?_)
              exact ⟨rfl, rfl⟩
        · exact ev (Or.inr ((E 10 (by decide)).mp (Decidable.of_not_not b)))
    refine mjZ_y rfl rfl 6 _ _ _ _ ty ?_
    refine (And.intro rfl (And.intro rfl (And.intro vx (And.intro (fun a => ?_) (fun a => ?_)))))
    · rw [cx, e2] at a
      exact bad (Or.inl a)
    · rw [cx, e2] at a
      refine mjZ_y rfl rfl 5 _ _ _ _ ty ?_
      refine (And.intro rfl (And.intro rfl (And.intro vx (And.intro (fun b => ?_) (fun b => ?_)))))
      · rw [cx] at b
        exact good (fun z => z.elim a (fun z => Int32.not_lt.mpr z.1 b))
      · rw [cx] at b
        have b : (0 : Int32) ≤ σ.2.2.1 r_most i1 := Int32.not_lt.mp b
        refine mjZ_y rfl rfl 6 _ _ _ _ ty ?_
        refine (And.intro rfl (And.intro rfl (And.intro vx (And.intro (fun c => ?_) (fun c => ?_)))))
        · rw [cx, e2] at c
          exact good (fun z => z.elim a (fun z => Int32.not_lt.mpr c z.2))
        · rw [cx, e2] at c
          exact bad (Or.inr ⟨b, Int32.not_le.mp c⟩)
  refine mjZ_y rfl rfl 5 _ _ _ _ ty ?_
  refine (And.intro rfl (And.intro (Nat.le_of_ble_eq_true rfl) ?_))
  exact go _ en
end ARITY
