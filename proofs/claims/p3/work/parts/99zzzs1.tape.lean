/-! What becomes of the tape's size in the reference. -/
def tsJ (ins : Instr) : Bool := match ins with
  | .goto _ => true
  | .if_icmp _ _ => true
  | .ifCond _ _ => true
  | _ => false
def tsC (ins : Instr) : Bool := match ins with
  | .invokevirtual _ => true
  | .invokestatic _ => true
  | _ => false
set_option maxHeartbeats 4000000 in
/-- an instruction goes on, calls, or ends -/
theorem mjI_nft {q : mjQm} {rt : Nat} {ins : Instr} {x : Nat} {z : Int} {i : Nat} {lv : mjL} {st : List Value} {σ : mjS} {G : mjG} {C : Nat → List Value → mjS → mjK → Prop} {K : mjK} (ty : mjTY σ) (hp : ∀ k, ins = .putfield k → ¬ x = 113) (h : mjI q rt ins x z i lv st σ G C K) :
    (∃ i' lv' st' σ', mjTY σ' ∧ G i' lv' st' σ' ∧ (σ'.1 113 = σ.1 113 ∧ (i' = i + 1 ∨ (i' = x ∧ tsJ ins = true))) ∧ ∀ (G' : mjG) (C' : Nat → List Value → mjS → mjK → Prop) (K' : mjK), G' i' lv' st' σ' → mjI q rt ins x z i lv st σ G' C' K') ∨
    (∃ x' ar r, C x' ar σ (fun v u => mjTY u → G (i + 1) lv (mjPush v r) u) ∧ (x' = x ∧ tsC ins = true) ∧ ∀ (G' : mjG) (C' : Nat → List Value → mjS → mjK → Prop) (K' : mjK), C' x' ar σ (fun v u => mjTY u → G' (i + 1) lv (mjPush v r) u) → mjI q rt ins x z i lv st σ G' C' K') ∨
    (∃ v, K v σ ∧ ∀ (G' : mjG) (C' : Nat → List Value → mjS → mjK → Prop) (K' : mjK), K' v σ → mjI q rt ins x z i lv st σ G' C' K') := by
  cases ins with
  | iconst n =>
    exact Or.inl ⟨_, _, _, _, ty, h, ⟨rfl, by first | exact Or.inl rfl | exact Or.inr ⟨rfl, rfl⟩⟩, fun G' C' K' g => g⟩
  | bipush n =>
    exact Or.inl ⟨_, _, _, _, ty, h, ⟨rfl, by first | exact Or.inl rfl | exact Or.inr ⟨rfl, rfl⟩⟩, fun G' C' K' g => g⟩
  | sipush n =>
    exact Or.inl ⟨_, _, _, _, ty, h, ⟨rfl, by first | exact Or.inl rfl | exact Or.inr ⟨rfl, rfl⟩⟩, fun G' C' K' g => g⟩
  | lconst n =>
    exact Or.inl ⟨_, _, _, _, ty, h, ⟨rfl, by first | exact Or.inl rfl | exact Or.inr ⟨rfl, rfl⟩⟩, fun G' C' K' g => g⟩
  | ldc n =>
    exact Or.inl ⟨_, _, _, _, ty, h, ⟨rfl, by first | exact Or.inl rfl | exact Or.inr ⟨rfl, rfl⟩⟩, fun G' C' K' g => g⟩
  | ldc_w n =>
    exact Or.inl ⟨_, _, _, _, ty, h, ⟨rfl, by first | exact Or.inl rfl | exact Or.inr ⟨rfl, rfl⟩⟩, fun G' C' K' g => g⟩
  | ldc2_w n =>
    exact Or.inl ⟨_, _, _, _, ty, h, ⟨rfl, by first | exact Or.inl rfl | exact Or.inr ⟨rfl, rfl⟩⟩, fun G' C' K' g => g⟩
  | goto n =>
    exact Or.inl ⟨_, _, _, _, ty, h, ⟨rfl, by first | exact Or.inl rfl | exact Or.inr ⟨rfl, rfl⟩⟩, fun G' C' K' g => g⟩
  | iload k =>
    obtain ⟨v, hv, h⟩ := mjLdI_x h
    refine Or.inl ⟨_, _, _, _, ty, h, ⟨rfl, by first | exact Or.inl rfl | exact Or.inr ⟨rfl, rfl⟩⟩, fun G' C' K' g => ?_⟩
    show mjLdI _ lv _
    unfold mjLdI; rw [hv]; exact g
  | iload_n k =>
    obtain ⟨v, hv, h⟩ := mjLdI_x h
    refine Or.inl ⟨_, _, _, _, ty, h, ⟨rfl, by first | exact Or.inl rfl | exact Or.inr ⟨rfl, rfl⟩⟩, fun G' C' K' g => ?_⟩
    show mjLdI _ lv _
    unfold mjLdI; rw [hv]; exact g
  | lload k =>
    obtain ⟨v, hv, h⟩ := mjLdL_x h
    refine Or.inl ⟨_, _, _, _, ty, h, ⟨rfl, by first | exact Or.inl rfl | exact Or.inr ⟨rfl, rfl⟩⟩, fun G' C' K' g => ?_⟩
    show mjLdL _ lv _
    unfold mjLdL; rw [hv]; exact g
  | lload_n k =>
    obtain ⟨v, hv, h⟩ := mjLdL_x h
    refine Or.inl ⟨_, _, _, _, ty, h, ⟨rfl, by first | exact Or.inl rfl | exact Or.inr ⟨rfl, rfl⟩⟩, fun G' C' K' g => ?_⟩
    show mjLdL _ lv _
    unfold mjLdL; rw [hv]; exact g
  | aload k =>
    obtain ⟨v, hv, h⟩ := mjLdA_x h
    refine Or.inl ⟨_, _, _, _, ty, h, ⟨rfl, by first | exact Or.inl rfl | exact Or.inr ⟨rfl, rfl⟩⟩, fun G' C' K' g => ?_⟩
    show mjLdA _ lv _
    unfold mjLdA; rw [hv]; exact g
  | aload_n k =>
    obtain ⟨v, hv, h⟩ := mjLdA_x h
    refine Or.inl ⟨_, _, _, _, ty, h, ⟨rfl, by first | exact Or.inl rfl | exact Or.inr ⟨rfl, rfl⟩⟩, fun G' C' K' g => ?_⟩
    show mjLdA _ lv _
    unfold mjLdA; rw [hv]; exact g
  | istore k =>
    obtain ⟨v, r, rfl, hk, h⟩ := mjI1_x h
    exact Or.inl ⟨_, _, _, _, ty, h, ⟨rfl, by first | exact Or.inl rfl | exact Or.inr ⟨rfl, rfl⟩⟩, fun G' C' K' g => ⟨hk, g⟩⟩
  | istore_n k =>
    obtain ⟨v, r, rfl, hk, h⟩ := mjI1_x h
    exact Or.inl ⟨_, _, _, _, ty, h, ⟨rfl, by first | exact Or.inl rfl | exact Or.inr ⟨rfl, rfl⟩⟩, fun G' C' K' g => ⟨hk, g⟩⟩
  | lstore k =>
    obtain ⟨v, r, rfl, hk, h⟩ := mjJ1_x h
    exact Or.inl ⟨_, _, _, _, ty, h, ⟨rfl, by first | exact Or.inl rfl | exact Or.inr ⟨rfl, rfl⟩⟩, fun G' C' K' g => ⟨hk, g⟩⟩
  | lstore_n k =>
    obtain ⟨v, r, rfl, hk, h⟩ := mjJ1_x h
    exact Or.inl ⟨_, _, _, _, ty, h, ⟨rfl, by first | exact Or.inl rfl | exact Or.inr ⟨rfl, rfl⟩⟩, fun G' C' K' g => ⟨hk, g⟩⟩
  | iinc k n =>
    obtain ⟨v, hv, h⟩ := mjLdI_x h
    refine Or.inl ⟨_, _, _, _, ty, h, ⟨rfl, by first | exact Or.inl rfl | exact Or.inr ⟨rfl, rfl⟩⟩, fun G' C' K' g => ?_⟩
    show mjLdI _ lv _
    unfold mjLdI; rw [hv]; exact g
  | iadd =>
    obtain ⟨a, b, r, rfl, h⟩ := mjI2_x h
    exact Or.inl ⟨_, _, _, _, ty, h, ⟨rfl, by first | exact Or.inl rfl | exact Or.inr ⟨rfl, rfl⟩⟩, fun G' C' K' g => g⟩
  | isub =>
    obtain ⟨a, b, r, rfl, h⟩ := mjI2_x h
    exact Or.inl ⟨_, _, _, _, ty, h, ⟨rfl, by first | exact Or.inl rfl | exact Or.inr ⟨rfl, rfl⟩⟩, fun G' C' K' g => g⟩
  | imul =>
    obtain ⟨a, b, r, rfl, h⟩ := mjI2_x h
    exact Or.inl ⟨_, _, _, _, ty, h, ⟨rfl, by first | exact Or.inl rfl | exact Or.inr ⟨rfl, rfl⟩⟩, fun G' C' K' g => g⟩
  | iand =>
    obtain ⟨a, b, r, rfl, h⟩ := mjI2_x h
    exact Or.inl ⟨_, _, _, _, ty, h, ⟨rfl, by first | exact Or.inl rfl | exact Or.inr ⟨rfl, rfl⟩⟩, fun G' C' K' g => g⟩
  | ior =>
    obtain ⟨a, b, r, rfl, h⟩ := mjI2_x h
    exact Or.inl ⟨_, _, _, _, ty, h, ⟨rfl, by first | exact Or.inl rfl | exact Or.inr ⟨rfl, rfl⟩⟩, fun G' C' K' g => g⟩
  | ixor =>
    obtain ⟨a, b, r, rfl, h⟩ := mjI2_x h
    exact Or.inl ⟨_, _, _, _, ty, h, ⟨rfl, by first | exact Or.inl rfl | exact Or.inr ⟨rfl, rfl⟩⟩, fun G' C' K' g => g⟩
  | ishl =>
    obtain ⟨a, b, r, rfl, h⟩ := mjI2_x h
    exact Or.inl ⟨_, _, _, _, ty, h, ⟨rfl, by first | exact Or.inl rfl | exact Or.inr ⟨rfl, rfl⟩⟩, fun G' C' K' g => g⟩
  | ishr =>
    obtain ⟨a, b, r, rfl, h⟩ := mjI2_x h
    exact Or.inl ⟨_, _, _, _, ty, h, ⟨rfl, by first | exact Or.inl rfl | exact Or.inr ⟨rfl, rfl⟩⟩, fun G' C' K' g => g⟩
  | idiv =>
    obtain ⟨a, b, r, rfl, hne, h⟩ := mjI2_x h
    exact Or.inl ⟨_, _, _, _, ty, h, ⟨rfl, by first | exact Or.inl rfl | exact Or.inr ⟨rfl, rfl⟩⟩, fun G' C' K' g => ⟨hne, g⟩⟩
  | irem =>
    obtain ⟨a, b, r, rfl, hne, h⟩ := mjI2_x h
    exact Or.inl ⟨_, _, _, _, ty, h, ⟨rfl, by first | exact Or.inl rfl | exact Or.inr ⟨rfl, rfl⟩⟩, fun G' C' K' g => ⟨hne, g⟩⟩
  | ladd =>
    obtain ⟨a, b, r, rfl, h⟩ := mjJ2_x h
    exact Or.inl ⟨_, _, _, _, ty, h, ⟨rfl, by first | exact Or.inl rfl | exact Or.inr ⟨rfl, rfl⟩⟩, fun G' C' K' g => g⟩
  | lsub =>
    obtain ⟨a, b, r, rfl, h⟩ := mjJ2_x h
    exact Or.inl ⟨_, _, _, _, ty, h, ⟨rfl, by first | exact Or.inl rfl | exact Or.inr ⟨rfl, rfl⟩⟩, fun G' C' K' g => g⟩
  | lmul =>
    obtain ⟨a, b, r, rfl, h⟩ := mjJ2_x h
    exact Or.inl ⟨_, _, _, _, ty, h, ⟨rfl, by first | exact Or.inl rfl | exact Or.inr ⟨rfl, rfl⟩⟩, fun G' C' K' g => g⟩
  | land =>
    obtain ⟨a, b, r, rfl, h⟩ := mjJ2_x h
    exact Or.inl ⟨_, _, _, _, ty, h, ⟨rfl, by first | exact Or.inl rfl | exact Or.inr ⟨rfl, rfl⟩⟩, fun G' C' K' g => g⟩
  | lor =>
    obtain ⟨a, b, r, rfl, h⟩ := mjJ2_x h
    exact Or.inl ⟨_, _, _, _, ty, h, ⟨rfl, by first | exact Or.inl rfl | exact Or.inr ⟨rfl, rfl⟩⟩, fun G' C' K' g => g⟩
  | lxor =>
    obtain ⟨a, b, r, rfl, h⟩ := mjJ2_x h
    exact Or.inl ⟨_, _, _, _, ty, h, ⟨rfl, by first | exact Or.inl rfl | exact Or.inr ⟨rfl, rfl⟩⟩, fun G' C' K' g => g⟩
  | lcmp =>
    obtain ⟨a, b, r, rfl, h⟩ := mjJ2_x h
    exact Or.inl ⟨_, _, _, _, ty, h, ⟨rfl, by first | exact Or.inl rfl | exact Or.inr ⟨rfl, rfl⟩⟩, fun G' C' K' g => g⟩
  | ldiv =>
    obtain ⟨a, b, r, rfl, hne, h⟩ := mjJ2_x h
    exact Or.inl ⟨_, _, _, _, ty, h, ⟨rfl, by first | exact Or.inl rfl | exact Or.inr ⟨rfl, rfl⟩⟩, fun G' C' K' g => ⟨hne, g⟩⟩
  | lrem =>
    obtain ⟨a, b, r, rfl, hne, h⟩ := mjJ2_x h
    exact Or.inl ⟨_, _, _, _, ty, h, ⟨rfl, by first | exact Or.inl rfl | exact Or.inr ⟨rfl, rfl⟩⟩, fun G' C' K' g => ⟨hne, g⟩⟩
  | lshl =>
    obtain ⟨a, b, r, rfl, h⟩ := mjJI_x h
    exact Or.inl ⟨_, _, _, _, ty, h, ⟨rfl, by first | exact Or.inl rfl | exact Or.inr ⟨rfl, rfl⟩⟩, fun G' C' K' g => g⟩
  | lshr =>
    obtain ⟨a, b, r, rfl, h⟩ := mjJI_x h
    exact Or.inl ⟨_, _, _, _, ty, h, ⟨rfl, by first | exact Or.inl rfl | exact Or.inr ⟨rfl, rfl⟩⟩, fun G' C' K' g => g⟩
  | ineg =>
    obtain ⟨a, r, rfl, h⟩ := mjI1_x h
    exact Or.inl ⟨_, _, _, _, ty, h, ⟨rfl, by first | exact Or.inl rfl | exact Or.inr ⟨rfl, rfl⟩⟩, fun G' C' K' g => g⟩
  | i2l =>
    obtain ⟨a, r, rfl, h⟩ := mjI1_x h
    exact Or.inl ⟨_, _, _, _, ty, h, ⟨rfl, by first | exact Or.inl rfl | exact Or.inr ⟨rfl, rfl⟩⟩, fun G' C' K' g => g⟩
  | i2b =>
    obtain ⟨a, r, rfl, h⟩ := mjI1_x h
    exact Or.inl ⟨_, _, _, _, ty, h, ⟨rfl, by first | exact Or.inl rfl | exact Or.inr ⟨rfl, rfl⟩⟩, fun G' C' K' g => g⟩
  | pop =>
    obtain ⟨a, r, rfl, h⟩ := mjI1_x h
    exact Or.inl ⟨_, _, _, _, ty, h, ⟨rfl, by first | exact Or.inl rfl | exact Or.inr ⟨rfl, rfl⟩⟩, fun G' C' K' g => g⟩
  | lneg =>
    obtain ⟨a, r, rfl, h⟩ := mjJ1_x h
    exact Or.inl ⟨_, _, _, _, ty, h, ⟨rfl, by first | exact Or.inl rfl | exact Or.inr ⟨rfl, rfl⟩⟩, fun G' C' K' g => g⟩
  | l2i =>
    obtain ⟨a, r, rfl, h⟩ := mjJ1_x h
    exact Or.inl ⟨_, _, _, _, ty, h, ⟨rfl, by first | exact Or.inl rfl | exact Or.inr ⟨rfl, rfl⟩⟩, fun G' C' K' g => g⟩
  | dup =>
    rcases mjDp_x h with ⟨a, r, rfl, h⟩ | ⟨a, r, rfl, h⟩
    · exact Or.inl ⟨_, _, _, _, ty, h, ⟨rfl, by first | exact Or.inl rfl | exact Or.inr ⟨rfl, rfl⟩⟩, fun G' C' K' g => g⟩
    · exact Or.inl ⟨_, _, _, _, ty, h, ⟨rfl, by first | exact Or.inl rfl | exact Or.inr ⟨rfl, rfl⟩⟩, fun G' C' K' g => g⟩
  | dup2 =>
    obtain ⟨j, a, r, rfl, h⟩ := mjIA_x h
    exact Or.inl ⟨_, _, _, _, ty, h, ⟨rfl, by first | exact Or.inl rfl | exact Or.inr ⟨rfl, rfl⟩⟩, fun G' C' K' g => g⟩
  | if_icmp cd off =>
    obtain ⟨a, b, r, rfl, h⟩ := mjI2_x h
    by_cases cc : mjCc cd a b
    · exact Or.inl ⟨_, _, _, _, ty, h.1 cc, ⟨rfl, by first | exact Or.inl rfl | exact Or.inr ⟨rfl, rfl⟩⟩, fun G' C' K' g => ⟨fun _ => g, fun n => absurd cc n⟩⟩
    · exact Or.inl ⟨_, _, _, _, ty, h.2 cc, ⟨rfl, by first | exact Or.inl rfl | exact Or.inr ⟨rfl, rfl⟩⟩, fun G' C' K' g => ⟨fun n => absurd n cc, fun _ => g⟩⟩
  | ifCond cd off =>
    obtain ⟨a, r, rfl, h⟩ := mjI1_x h
    by_cases cc : mjCc cd a 0
    · exact Or.inl ⟨_, _, _, _, ty, h.1 cc, ⟨rfl, by first | exact Or.inl rfl | exact Or.inr ⟨rfl, rfl⟩⟩, fun G' C' K' g => ⟨fun _ => g, fun n => absurd cc n⟩⟩
    · exact Or.inl ⟨_, _, _, _, ty, h.2 cc, ⟨rfl, by first | exact Or.inl rfl | exact Or.inr ⟨rfl, rfl⟩⟩, fun G' C' K' g => ⟨fun n => absurd n cc, fun _ => g⟩⟩
  | getfield k =>
    obtain ⟨a, r, rfl, rfl, h0⟩ := mjA1_x h
    exact Or.inl ⟨_, _, _, _, ty, h0, ⟨rfl, by first | exact Or.inl rfl | exact Or.inr ⟨rfl, rfl⟩⟩, fun G' C' K' g => ⟨rfl, g⟩⟩
  | putfield k =>
    rcases mjPf_x h with ⟨v, a, r, rfl, rfl, hc, h0⟩ | ⟨v, a, r, rfl, rfl, hc, h0⟩
    · exact Or.inl ⟨_, _, _, _, mjTY_i ty hc, h0 (mjTY_i ty hc), ⟨if_neg (fun y => hp _ rfl y.symm), by first | exact Or.inl rfl | exact Or.inr ⟨rfl, rfl⟩⟩, fun G' C' K' g => ⟨rfl, hc, fun _ => g⟩⟩
    · exact Or.inl ⟨_, _, _, _, mjTY_l ty, h0 (mjTY_l ty), ⟨rfl, by first | exact Or.inl rfl | exact Or.inr ⟨rfl, rfl⟩⟩, fun G' C' K' g => ⟨rfl, hc, fun _ => g⟩⟩
  | iaload =>
    obtain ⟨j, a, r, rfl, hk, hj, h⟩ := mjIA_x h
    exact Or.inl ⟨_, _, _, _, ty, h, ⟨rfl, by first | exact Or.inl rfl | exact Or.inr ⟨rfl, rfl⟩⟩, fun G' C' K' g => ⟨hk, hj, g⟩⟩
  | baload =>
    obtain ⟨j, a, r, rfl, hk, hj, h⟩ := mjIA_x h
    exact Or.inl ⟨_, _, _, _, ty, h, ⟨rfl, by first | exact Or.inl rfl | exact Or.inr ⟨rfl, rfl⟩⟩, fun G' C' K' g => ⟨hk, hj, g⟩⟩
  | laload =>
    obtain ⟨j, a, r, rfl, hk, hj, h⟩ := mjIA_x h
    exact Or.inl ⟨_, _, _, _, ty, h, ⟨rfl, by first | exact Or.inl rfl | exact Or.inr ⟨rfl, rfl⟩⟩, fun G' C' K' g => ⟨hk, hj, g⟩⟩
  | iastore =>
    obtain ⟨v, j, a, r, rfl, hk, hj, h⟩ := mjIIA_x h
    exact Or.inl ⟨_, _, _, _, mjTY_a ty (Or.inl hk), h (mjTY_a ty (Or.inl hk)), ⟨rfl, by first | exact Or.inl rfl | exact Or.inr ⟨rfl, rfl⟩⟩, fun G' C' K' g => ⟨hk, hj, fun _ => g⟩⟩
  | bastore =>
    obtain ⟨v, j, a, r, rfl, hk, hj, h⟩ := mjIIA_x h
    exact Or.inl ⟨_, _, _, _, mjTY_a ty (Or.inr hk), h (mjTY_a ty (Or.inr hk)), ⟨rfl, by first | exact Or.inl rfl | exact Or.inr ⟨rfl, rfl⟩⟩, fun G' C' K' g => ⟨hk, hj, fun _ => g⟩⟩
  | lastore =>
    obtain ⟨v, j, a, r, rfl, hk, hj, h⟩ := mjJIA_x h
    exact Or.inl ⟨_, _, _, _, mjTY_j ty, h (mjTY_j ty), ⟨rfl, by first | exact Or.inl rfl | exact Or.inr ⟨rfl, rfl⟩⟩, fun G' C' K' g => ⟨hk, hj, fun _ => g⟩⟩
  | invokevirtual k =>
    obtain ⟨hn, h⟩ := h
    obtain ⟨a, r, er, rfl, hcat, hc⟩ := mjA1_x h
    refine Or.inr (Or.inl ⟨_, _, r, hc, ⟨rfl, rfl⟩, fun G' C' K' g => ⟨hn, ?_⟩⟩)
    rw [er]
    exact ⟨rfl, hcat, g⟩
  | invokestatic k =>
    obtain ⟨hn, hcat, hc⟩ := h
    exact Or.inr (Or.inl ⟨_, _, _, hc, ⟨rfl, rfl⟩, fun G' C' K' g => ⟨hn, hcat, g⟩⟩)
  | ireturn =>
    obtain ⟨v, r, rfl, rfl, hrt, hk⟩ := mjI1_x h
    exact Or.inr (Or.inr ⟨_, hk, fun G' C' K' g => ⟨rfl, hrt, g⟩⟩)
  | lreturn =>
    obtain ⟨v, r, rfl, rfl, hrt, hk⟩ := mjJ1_x h
    exact Or.inr (Or.inr ⟨_, hk, fun G' C' K' g => ⟨rfl, hrt, g⟩⟩)
  | return_ =>
    obtain ⟨rfl, hrt, hk⟩ := h
    exact Or.inr (Or.inr ⟨_, hk, fun G' C' K' g => ⟨rfl, hrt, g⟩⟩)
  | _ => exact False.elim h

def tsP (ins : Instr) (x : Nat) : Bool := match ins with
  | .putfield _ => !decide (x = 113)
  | _ => true
/-- from where on the tape's size stays -/
def tsA (m i : Nat) : Bool := if m = 173 then decide (11 ≤ i) else !decide (m = 0) && (!decide (m = 1) && (!decide (m = 2) && (!decide (m = 171) && !decide (m = 172))))
def tsE (m i : Nat) (e : mjEn) : Bool := !tsA m i || (tsP e.2.1 e.2.2.1 && (tsA m (i + 1) && ((!tsJ e.2.1 || tsA m e.2.2.1) && (!tsC e.2.1 || tsA e.2.2.1 0))))
def tsOk (P : Nat → List mjEn) : Prop := ∀ m i e, (P m)[i]? = some e → tsE m i e = true
theorem mjX_ts {P : Nat → List mjEn} {q : mjQm} (hP : tsOk P) : ∀ (f d m i : Nat) (lv : mjL) (st : List Value) (σ : mjS) (K : mjK), mjTY σ → tsA m i = true → mjX P q f d m i lv st σ K → mjX P q f d m i lv st σ (fun v u => K v u ∧ u.1 113 = σ.1 113) := by
  intro f
  induction f with
  | zero => intro d m i lv st σ K _ _ h; exact False.elim h
  | succ f ih =>
    intro d m i lv st σ K ty ha h
    unfold mjX at h ⊢
    cases he : (P m)[i]? with
    | none => rw [he] at h; exact False.elim h
    | some e0 =>
      have ht := hP m i e0 he
      obtain ⟨pc, ins, x, z⟩ := e0
      rw [he] at h
      dsimp only at h ⊢
      unfold tsE at ht
      rw [ha] at ht
      simp only [Bool.not_true, Bool.false_or, Bool.and_eq_true] at ht
      obtain ⟨t1, t2, t3, t4⟩ := ht
      have hp : ∀ k, ins = .putfield k → ¬ x = 113 := fun k e9 y => by
        subst e9; subst y; cases t1
      rcases mjI_nft ty hp h with ⟨i', lv', st', σ', ty', h1, ⟨e1, e2⟩, h2⟩ | ⟨x', ar, r, h1, ⟨ex, ec⟩, h2⟩ | ⟨v, h1, h2⟩
      · have ha' : tsA m i' = true := by
          rcases e2 with rfl | ⟨rfl, e2⟩
          · exact t2
          · rw [e2] at t3; exact t3
        refine h2 _ _ _ (mjX_mono f f d m i' lv' st' σ' _ _ (Nat.le_refl _) (fun v u _ g => ⟨g.1, g.2.trans e1⟩) ty' (ih d m i' lv' st' σ' K ty' ha' h1))
      · subst ex
        refine h2 _ _ _ ?_
        cases d with
        | zero => exact False.elim h1
        | succ d' =>
          have hc : tsA x' 0 = true := by rw [ec] at t4; exact t4
          exact ⟨h1.1, mjX_mono f f d' x' 0 _ _ _ _ _ (Nat.le_refl _) (fun v u tu g _ => mjX_mono f f (d' + 1) m (i + 1) lv _ u _ _ (Nat.le_refl _) (fun v2 u2 _ g2 => ⟨g2.1, g2.2.trans g.2⟩) tu (ih (d' + 1) m (i + 1) lv _ u K tu t2 (g.1 tu))) ty (ih d' x' 0 _ _ _ _ ty hc h1.2)⟩
      · exact h2 _ _ _ ⟨h1, rfl⟩
theorem mjY_ts {P : Nat → List mjEn} {q : mjQm} (hP : tsOk P) {d m i : Nat} {lv : mjL} {st : List Value} {σ : mjS} {K : mjK} (ty : mjTY σ) (ha : tsA m i = true) (h : mjY P q d m i lv st σ K) : mjY P q d m i lv st σ (fun v u => K v u ∧ u.1 113 = σ.1 113) := by
  obtain ⟨f, h⟩ := h
  exact ⟨f, mjX_ts hP f d m i lv st σ K ty ha h⟩
def tsL (m : Nat) : List mjEn → Nat → Bool
  | [], _ => true
  | e :: r, i => tsE m i e && tsL m r (i + 1)
theorem tsL_ok {m : Nat} : ∀ (l : List mjEn) (k : Nat), tsL m l k = true → ∀ i e, l[i]? = some e → tsE m (k + i) e = true := by
  intro l
  induction l with
  | nil => intro k _ i e h; cases h
  | cons a r ih =>
    intro k h i e he
    unfold tsL at h
    rw [Bool.and_eq_true] at h
    cases i with
    | zero => cases he; exact h.1
    | succ i =>
      have := ih (k + 1) h.2 i e he
      rw [show k + (i + 1) = k + 1 + i from by omega]; exact this
theorem ts_chk : ((List.range 197).all (fun m => tsL m (mjPP m) 0)) = true := by decide +kernel
theorem ts_hi : ∀ m, 197 ≤ m → mjPP m = [] := fun m hm => by
  unfold mjPP
  rw [List.getD_eq_getElem?_getD, List.getElem?_eq_none (Nat.le_trans (show mjTabs.length ≤ 197 by decide +kernel) hm)]; rfl
theorem ts_ok : tsOk mjPP := fun m i e he => by
  by_cases c : m < 197
  · have := tsL_ok (mjPP m) 0 (List.all_eq_true.mp ts_chk m (List.mem_range.mpr c)) i e he
    rw [Nat.zero_add] at this; exact this
  · rw [ts_hi m (by omega)] at he; cases he
