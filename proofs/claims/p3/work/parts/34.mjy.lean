/-! The reader without a number of steps. -/
set_option maxHeartbeats 4000000 in
/-- an instruction goes on, calls, or ends -/
theorem mjI_nf {q : mjQm} {rt : Nat} {ins : Instr} {x : Nat} {z : Int} {i : Nat} {lv : mjL} {st : List Value} {σ : mjS} {G : mjG} {C : Nat → List Value → mjS → mjK → Prop} {K : mjK} (ty : mjTY σ) (h : mjI q rt ins x z i lv st σ G C K) :
    (∃ i' lv' st' σ', mjTY σ' ∧ G i' lv' st' σ' ∧ ∀ (G' : mjG) (C' : Nat → List Value → mjS → mjK → Prop) (K' : mjK), G' i' lv' st' σ' → mjI q rt ins x z i lv st σ G' C' K') ∨
    (∃ x' ar r, C x' ar σ (fun v u => mjTY u → G (i + 1) lv (mjPush v r) u) ∧ ∀ (G' : mjG) (C' : Nat → List Value → mjS → mjK → Prop) (K' : mjK), C' x' ar σ (fun v u => mjTY u → G' (i + 1) lv (mjPush v r) u) → mjI q rt ins x z i lv st σ G' C' K') ∨
    (∃ v, K v σ ∧ ∀ (G' : mjG) (C' : Nat → List Value → mjS → mjK → Prop) (K' : mjK), K' v σ → mjI q rt ins x z i lv st σ G' C' K') := by
  cases ins with
  | iconst n =>
    exact Or.inl ⟨_, _, _, _, ty, h, fun G' C' K' g => g⟩
  | bipush n =>
    exact Or.inl ⟨_, _, _, _, ty, h, fun G' C' K' g => g⟩
  | sipush n =>
    exact Or.inl ⟨_, _, _, _, ty, h, fun G' C' K' g => g⟩
  | lconst n =>
    exact Or.inl ⟨_, _, _, _, ty, h, fun G' C' K' g => g⟩
  | ldc n =>
    exact Or.inl ⟨_, _, _, _, ty, h, fun G' C' K' g => g⟩
  | ldc_w n =>
    exact Or.inl ⟨_, _, _, _, ty, h, fun G' C' K' g => g⟩
  | ldc2_w n =>
    exact Or.inl ⟨_, _, _, _, ty, h, fun G' C' K' g => g⟩
  | goto n =>
    exact Or.inl ⟨_, _, _, _, ty, h, fun G' C' K' g => g⟩
  | iload k =>
    obtain ⟨v, hv, h⟩ := mjLdI_x h
    refine Or.inl ⟨_, _, _, _, ty, h, fun G' C' K' g => ?_⟩
    show mjLdI _ lv _
    unfold mjLdI; rw [hv]; exact g
  | iload_n k =>
    obtain ⟨v, hv, h⟩ := mjLdI_x h
    refine Or.inl ⟨_, _, _, _, ty, h, fun G' C' K' g => ?_⟩
    show mjLdI _ lv _
    unfold mjLdI; rw [hv]; exact g
  | lload k =>
    obtain ⟨v, hv, h⟩ := mjLdL_x h
    refine Or.inl ⟨_, _, _, _, ty, h, fun G' C' K' g => ?_⟩
    show mjLdL _ lv _
    unfold mjLdL; rw [hv]; exact g
  | lload_n k =>
    obtain ⟨v, hv, h⟩ := mjLdL_x h
    refine Or.inl ⟨_, _, _, _, ty, h, fun G' C' K' g => ?_⟩
    show mjLdL _ lv _
    unfold mjLdL; rw [hv]; exact g
  | aload k =>
    obtain ⟨v, hv, h⟩ := mjLdA_x h
    refine Or.inl ⟨_, _, _, _, ty, h, fun G' C' K' g => ?_⟩
    show mjLdA _ lv _
    unfold mjLdA; rw [hv]; exact g
  | aload_n k =>
    obtain ⟨v, hv, h⟩ := mjLdA_x h
    refine Or.inl ⟨_, _, _, _, ty, h, fun G' C' K' g => ?_⟩
    show mjLdA _ lv _
    unfold mjLdA; rw [hv]; exact g
  | istore k =>
    obtain ⟨v, r, rfl, hk, h⟩ := mjI1_x h
    exact Or.inl ⟨_, _, _, _, ty, h, fun G' C' K' g => ⟨hk, g⟩⟩
  | istore_n k =>
    obtain ⟨v, r, rfl, hk, h⟩ := mjI1_x h
    exact Or.inl ⟨_, _, _, _, ty, h, fun G' C' K' g => ⟨hk, g⟩⟩
  | lstore k =>
    obtain ⟨v, r, rfl, hk, h⟩ := mjJ1_x h
    exact Or.inl ⟨_, _, _, _, ty, h, fun G' C' K' g => ⟨hk, g⟩⟩
  | lstore_n k =>
    obtain ⟨v, r, rfl, hk, h⟩ := mjJ1_x h
    exact Or.inl ⟨_, _, _, _, ty, h, fun G' C' K' g => ⟨hk, g⟩⟩
  | iinc k n =>
    obtain ⟨v, hv, h⟩ := mjLdI_x h
    refine Or.inl ⟨_, _, _, _, ty, h, fun G' C' K' g => ?_⟩
    show mjLdI _ lv _
    unfold mjLdI; rw [hv]; exact g
  | iadd =>
    obtain ⟨a, b, r, rfl, h⟩ := mjI2_x h
    exact Or.inl ⟨_, _, _, _, ty, h, fun G' C' K' g => g⟩
  | isub =>
    obtain ⟨a, b, r, rfl, h⟩ := mjI2_x h
    exact Or.inl ⟨_, _, _, _, ty, h, fun G' C' K' g => g⟩
  | imul =>
    obtain ⟨a, b, r, rfl, h⟩ := mjI2_x h
    exact Or.inl ⟨_, _, _, _, ty, h, fun G' C' K' g => g⟩
  | iand =>
    obtain ⟨a, b, r, rfl, h⟩ := mjI2_x h
    exact Or.inl ⟨_, _, _, _, ty, h, fun G' C' K' g => g⟩
  | ior =>
    obtain ⟨a, b, r, rfl, h⟩ := mjI2_x h
    exact Or.inl ⟨_, _, _, _, ty, h, fun G' C' K' g => g⟩
  | ixor =>
    obtain ⟨a, b, r, rfl, h⟩ := mjI2_x h
    exact Or.inl ⟨_, _, _, _, ty, h, fun G' C' K' g => g⟩
  | ishl =>
    obtain ⟨a, b, r, rfl, h⟩ := mjI2_x h
    exact Or.inl ⟨_, _, _, _, ty, h, fun G' C' K' g => g⟩
  | ishr =>
    obtain ⟨a, b, r, rfl, h⟩ := mjI2_x h
    exact Or.inl ⟨_, _, _, _, ty, h, fun G' C' K' g => g⟩
  | idiv =>
    obtain ⟨a, b, r, rfl, hne, h⟩ := mjI2_x h
    exact Or.inl ⟨_, _, _, _, ty, h, fun G' C' K' g => ⟨hne, g⟩⟩
  | irem =>
    obtain ⟨a, b, r, rfl, hne, h⟩ := mjI2_x h
    exact Or.inl ⟨_, _, _, _, ty, h, fun G' C' K' g => ⟨hne, g⟩⟩
  | ladd =>
    obtain ⟨a, b, r, rfl, h⟩ := mjJ2_x h
    exact Or.inl ⟨_, _, _, _, ty, h, fun G' C' K' g => g⟩
  | lsub =>
    obtain ⟨a, b, r, rfl, h⟩ := mjJ2_x h
    exact Or.inl ⟨_, _, _, _, ty, h, fun G' C' K' g => g⟩
  | lmul =>
    obtain ⟨a, b, r, rfl, h⟩ := mjJ2_x h
    exact Or.inl ⟨_, _, _, _, ty, h, fun G' C' K' g => g⟩
  | land =>
    obtain ⟨a, b, r, rfl, h⟩ := mjJ2_x h
    exact Or.inl ⟨_, _, _, _, ty, h, fun G' C' K' g => g⟩
  | lor =>
    obtain ⟨a, b, r, rfl, h⟩ := mjJ2_x h
    exact Or.inl ⟨_, _, _, _, ty, h, fun G' C' K' g => g⟩
  | lxor =>
    obtain ⟨a, b, r, rfl, h⟩ := mjJ2_x h
    exact Or.inl ⟨_, _, _, _, ty, h, fun G' C' K' g => g⟩
  | lcmp =>
    obtain ⟨a, b, r, rfl, h⟩ := mjJ2_x h
    exact Or.inl ⟨_, _, _, _, ty, h, fun G' C' K' g => g⟩
  | ldiv =>
    obtain ⟨a, b, r, rfl, hne, h⟩ := mjJ2_x h
    exact Or.inl ⟨_, _, _, _, ty, h, fun G' C' K' g => ⟨hne, g⟩⟩
  | lrem =>
    obtain ⟨a, b, r, rfl, hne, h⟩ := mjJ2_x h
    exact Or.inl ⟨_, _, _, _, ty, h, fun G' C' K' g => ⟨hne, g⟩⟩
  | lshl =>
    obtain ⟨a, b, r, rfl, h⟩ := mjJI_x h
    exact Or.inl ⟨_, _, _, _, ty, h, fun G' C' K' g => g⟩
  | lshr =>
    obtain ⟨a, b, r, rfl, h⟩ := mjJI_x h
    exact Or.inl ⟨_, _, _, _, ty, h, fun G' C' K' g => g⟩
  | ineg =>
    obtain ⟨a, r, rfl, h⟩ := mjI1_x h
    exact Or.inl ⟨_, _, _, _, ty, h, fun G' C' K' g => g⟩
  | i2l =>
    obtain ⟨a, r, rfl, h⟩ := mjI1_x h
    exact Or.inl ⟨_, _, _, _, ty, h, fun G' C' K' g => g⟩
  | i2b =>
    obtain ⟨a, r, rfl, h⟩ := mjI1_x h
    exact Or.inl ⟨_, _, _, _, ty, h, fun G' C' K' g => g⟩
  | pop =>
    obtain ⟨a, r, rfl, h⟩ := mjI1_x h
    exact Or.inl ⟨_, _, _, _, ty, h, fun G' C' K' g => g⟩
  | lneg =>
    obtain ⟨a, r, rfl, h⟩ := mjJ1_x h
    exact Or.inl ⟨_, _, _, _, ty, h, fun G' C' K' g => g⟩
  | l2i =>
    obtain ⟨a, r, rfl, h⟩ := mjJ1_x h
    exact Or.inl ⟨_, _, _, _, ty, h, fun G' C' K' g => g⟩
  | dup =>
    rcases mjDp_x h with ⟨a, r, rfl, h⟩ | ⟨a, r, rfl, h⟩
    · exact Or.inl ⟨_, _, _, _, ty, h, fun G' C' K' g => g⟩
    · exact Or.inl ⟨_, _, _, _, ty, h, fun G' C' K' g => g⟩
  | dup2 =>
    obtain ⟨j, a, r, rfl, h⟩ := mjIA_x h
    exact Or.inl ⟨_, _, _, _, ty, h, fun G' C' K' g => g⟩
  | if_icmp cd off =>
    obtain ⟨a, b, r, rfl, h⟩ := mjI2_x h
    by_cases cc : mjCc cd a b
    · exact Or.inl ⟨_, _, _, _, ty, h.1 cc, fun G' C' K' g => ⟨fun _ => g, fun n => absurd cc n⟩⟩
    · exact Or.inl ⟨_, _, _, _, ty, h.2 cc, fun G' C' K' g => ⟨fun n => absurd n cc, fun _ => g⟩⟩
  | ifCond cd off =>
    obtain ⟨a, r, rfl, h⟩ := mjI1_x h
    by_cases cc : mjCc cd a 0
    · exact Or.inl ⟨_, _, _, _, ty, h.1 cc, fun G' C' K' g => ⟨fun _ => g, fun n => absurd cc n⟩⟩
    · exact Or.inl ⟨_, _, _, _, ty, h.2 cc, fun G' C' K' g => ⟨fun n => absurd n cc, fun _ => g⟩⟩
  | getfield k =>
    obtain ⟨a, r, rfl, rfl, h0⟩ := mjA1_x h
    exact Or.inl ⟨_, _, _, _, ty, h0, fun G' C' K' g => ⟨rfl, g⟩⟩
  | putfield k =>
    rcases mjPf_x h with ⟨v, a, r, rfl, rfl, hc, h0⟩ | ⟨v, a, r, rfl, rfl, hc, h0⟩
    · exact Or.inl ⟨_, _, _, _, mjTY_i ty hc, h0 (mjTY_i ty hc), fun G' C' K' g => ⟨rfl, hc, fun _ => g⟩⟩
    · exact Or.inl ⟨_, _, _, _, mjTY_l ty, h0 (mjTY_l ty), fun G' C' K' g => ⟨rfl, hc, fun _ => g⟩⟩
  | iaload =>
    obtain ⟨j, a, r, rfl, hk, hj, h⟩ := mjIA_x h
    exact Or.inl ⟨_, _, _, _, ty, h, fun G' C' K' g => ⟨hk, hj, g⟩⟩
  | baload =>
    obtain ⟨j, a, r, rfl, hk, hj, h⟩ := mjIA_x h
    exact Or.inl ⟨_, _, _, _, ty, h, fun G' C' K' g => ⟨hk, hj, g⟩⟩
  | laload =>
    obtain ⟨j, a, r, rfl, hk, hj, h⟩ := mjIA_x h
    exact Or.inl ⟨_, _, _, _, ty, h, fun G' C' K' g => ⟨hk, hj, g⟩⟩
  | iastore =>
    obtain ⟨v, j, a, r, rfl, hk, hj, h⟩ := mjIIA_x h
    exact Or.inl ⟨_, _, _, _, mjTY_a ty (Or.inl hk), h (mjTY_a ty (Or.inl hk)), fun G' C' K' g => ⟨hk, hj, fun _ => g⟩⟩
  | bastore =>
    obtain ⟨v, j, a, r, rfl, hk, hj, h⟩ := mjIIA_x h
    exact Or.inl ⟨_, _, _, _, mjTY_a ty (Or.inr hk), h (mjTY_a ty (Or.inr hk)), fun G' C' K' g => ⟨hk, hj, fun _ => g⟩⟩
  | lastore =>
    obtain ⟨v, j, a, r, rfl, hk, hj, h⟩ := mjJIA_x h
    exact Or.inl ⟨_, _, _, _, mjTY_j ty, h (mjTY_j ty), fun G' C' K' g => ⟨hk, hj, fun _ => g⟩⟩
  | invokevirtual k =>
    obtain ⟨hn, h⟩ := h
    obtain ⟨a, r, er, rfl, hcat, hc⟩ := mjA1_x h
    refine Or.inr (Or.inl ⟨_, _, r, hc, fun G' C' K' g => ⟨hn, ?_⟩⟩)
    rw [er]
    exact ⟨rfl, hcat, g⟩
  | invokestatic k =>
    obtain ⟨hn, hcat, hc⟩ := h
    exact Or.inr (Or.inl ⟨_, _, _, hc, fun G' C' K' g => ⟨hn, hcat, g⟩⟩)
  | ireturn =>
    obtain ⟨v, r, rfl, rfl, hrt, hk⟩ := mjI1_x h
    exact Or.inr (Or.inr ⟨_, hk, fun G' C' K' g => ⟨rfl, hrt, g⟩⟩)
  | lreturn =>
    obtain ⟨v, r, rfl, rfl, hrt, hk⟩ := mjJ1_x h
    exact Or.inr (Or.inr ⟨_, hk, fun G' C' K' g => ⟨rfl, hrt, g⟩⟩)
  | return_ =>
    obtain ⟨rfl, hrt, hk⟩ := h
    exact Or.inr (Or.inr ⟨_, hk, fun G' C' K' g => ⟨rfl, hrt, g⟩⟩)
  | _ => exact False.elim h
/-- more steps, and less asked of the end -/
theorem mjX_mono {P : Nat → List mjEn} {q : mjQm} : ∀ (f f' d m i : Nat) (lv : mjL) (st : List Value) (σ : mjS) (K K' : mjK), f ≤ f' → (∀ v u, mjTY u → K v u → K' v u) → mjTY σ → mjX P q f d m i lv st σ K → mjX P q f' d m i lv st σ K' := by
  intro f
  induction f with
  | zero => intro f' d m i lv st σ K K' _ _ _ h; exact False.elim h
  | succ f ih =>
    intro f' d m i lv st σ K K' hf hK ty h
    cases f' with
    | zero => omega
    | succ f' =>
      unfold mjX at h ⊢
      cases he : (P m)[i]? with
      | none => rw [he] at h; exact False.elim h
      | some e0 =>
        obtain ⟨pc, ins, x, z⟩ := e0
        rw [he] at h
        dsimp only at h ⊢
        rcases mjI_nf ty h with ⟨i', lv', st', σ', ty', h1, h2⟩ | ⟨x', ar, r, h1, h2⟩ | ⟨v, h1, h2⟩
        · exact h2 _ _ _ (ih f' d m i' lv' st' σ' K K' (by omega) hK ty' h1)
        · refine h2 _ _ _ ?_
          cases d with
          | zero => exact False.elim h1
          | succ d' => exact ⟨h1.1, ih f' d' x' 0 _ _ _ _ _ (by omega) (fun v u tu g _ => ih f' (d' + 1) m (i + 1) lv _ u K K' (by omega) hK tu (g tu)) ty h1.2⟩
        · exact h2 _ _ _ (hK _ _ ty h1)
/-- there is one end -/
theorem mjX_det {P : Nat → List mjEn} {q : mjQm} : ∀ (f d m i : Nat) (lv : mjL) (st : List Value) (σ : mjS) (K : mjK), mjTY σ → mjX P q f d m i lv st σ K → ∃ v u, mjTY u ∧ K v u ∧ mjX P q f d m i lv st σ (fun v' u' => v' = v ∧ u' = u) := by
  intro f
  induction f with
  | zero => intro d m i lv st σ K _ h; exact False.elim h
  | succ f ih =>
    intro d m i lv st σ K ty h
    unfold mjX at h
    cases he : (P m)[i]? with
    | none => rw [he] at h; exact False.elim h
    | some e0 =>
      obtain ⟨pc, ins, x, z⟩ := e0
      rw [he] at h
      dsimp only at h
      have back : ∀ K2 : mjK, mjI q (q m).2.2.2.2 ins x z i lv st σ (fun i lv st σ => mjX P q f d m i lv st σ K2) (mjCl q (fun d' x' lv σ K' => mjX P q f d' x' 0 lv [] σ K') d) K2 → mjX P q (f + 1) d m i lv st σ K2 := by
        intro K2 g; unfold mjX; rw [he]; exact g
      rcases mjI_nf ty h with ⟨i', lv', st', σ', ty', h1, h2⟩ | ⟨x', ar, r, h1, h2⟩ | ⟨v, h1, h2⟩
      · obtain ⟨v, u, tu, a, b⟩ := ih d m i' lv' st' σ' K ty' h1
        exact ⟨v, u, tu, a, back _ (h2 _ _ _ b)⟩
      · cases d with
        | zero => exact False.elim h1
        | succ d' =>
          obtain ⟨v1, u1, tu1, a1, b1⟩ := ih d' x' 0 _ _ _ _ ty h1.2
          obtain ⟨v, u, tu, a, b⟩ := ih (d' + 1) m (i + 1) lv _ u1 K tu1 (a1 tu1)
          exact ⟨v, u, tu, a, back _ (h2 _ _ _ ⟨h1.1, mjX_mono f f d' x' 0 _ _ _ _ _ (Nat.le_refl _) (fun v' u' _ g => by obtain ⟨rfl, rfl⟩ := g; exact fun _ => b) ty b1⟩)⟩
      · exact ⟨v, σ, ty, h1, back _ (h2 _ _ _ ⟨rfl, rfl⟩)⟩
/-- from here on it comes to K -/
def mjY (P : Nat → List mjEn) (q : mjQm) (d m i : Nat) (lv : mjL) (st : List Value) (σ : mjS) (K : mjK) : Prop := ∃ f, mjX P q f d m i lv st σ K
def mjC (P : Nat → List mjEn) (q : mjQm) (d x : Nat) (ar : List Value) (σ : mjS) (K : mjK) : Prop := mjCl q (fun d' x' lv σ K' => mjY P q d' x' 0 lv [] σ K') d x ar σ K
theorem mjY_step {P : Nat → List mjEn} {q : mjQm} {d m i pc x : Nat} {ins : Instr} {z : Int} {lv : mjL} {st : List Value} {σ : mjS} {K : mjK} (ty : mjTY σ) (he : (P m)[i]? = some (pc, ins, x, z)) (h : mjI q (q m).2.2.2.2 ins x z i lv st σ (fun i lv st σ => mjY P q d m i lv st σ K) (mjC P q d) K) : mjY P q d m i lv st σ K := by
  have back : ∀ f : Nat, mjI q (q m).2.2.2.2 ins x z i lv st σ (fun i lv st σ => mjX P q f d m i lv st σ K) (mjCl q (fun d' x' lv σ K' => mjX P q f d' x' 0 lv [] σ K') d) K → mjY P q d m i lv st σ K := by
    intro f g; refine ⟨f + 1, ?_⟩; unfold mjX; rw [he]; exact g
  rcases mjI_nf ty h with ⟨i', lv', st', σ', ty', ⟨f, h1⟩, h2⟩ | ⟨x', ar, r, h1, h2⟩ | ⟨v, h1, h2⟩
  · exact back f (h2 _ _ _ h1)
  · cases d with
    | zero => exact False.elim h1
    | succ d' =>
      obtain ⟨har, f1, h1⟩ := h1
      obtain ⟨v1, u1, tu1, a0, b1⟩ := mjX_det f1 d' x' 0 _ _ _ _ ty h1
      obtain ⟨f2, a1⟩ := a0 tu1
      refine back (f1 + f2) (h2 _ _ _ ⟨har, mjX_mono f1 (f1 + f2) d' x' 0 _ _ _ _ _ (by omega) (fun v' u' _ g => ?_) ty b1⟩)
      obtain ⟨rfl, rfl⟩ := g
      exact fun _ => mjX_mono f2 (f1 + f2) (d' + 1) m (i + 1) _ _ _ _ _ (by omega) (fun _ _ _ g => g) tu1 a1
  · exact back 0 (h2 _ _ _ h1)
theorem mjY_mono {P : Nat → List mjEn} {q : mjQm} {d m i : Nat} {lv : mjL} {st : List Value} {σ : mjS} {K K' : mjK} (ty : mjTY σ) (hK : ∀ v u, mjTY u → K v u → K' v u) (h : mjY P q d m i lv st σ K) : mjY P q d m i lv st σ K' := by
  obtain ⟨f, h⟩ := h; exact ⟨f, mjX_mono f f d m i lv st σ K K' (Nat.le_refl _) hK ty h⟩
theorem mjC_mono {P : Nat → List mjEn} {q : mjQm} {d x : Nat} {ar : List Value} {σ : mjS} {K K' : mjK} (ty : mjTY σ) (hK : ∀ v u, mjTY u → K v u → K' v u) (h : mjC P q d x ar σ K) : mjC P q d x ar σ K' := by
  cases d with
  | zero => exact h
  | succ d => exact ⟨h.1, mjY_mono ty hK h.2⟩
/-- n instructions at once -/
def mjZ (P : Nat → List mjEn) (q : mjQm) (d m : Nat) (T : List mjEn) (rt : Nat) (K : mjK) : Nat → Nat → mjL → List Value → mjS → Prop
  | 0, i, lv, st, σ => mjY P q d m i lv st σ K
  | n + 1, i, lv, st, σ => match T[i]? with
    | none => False
    | some (_, ins, x, z) => mjI q rt ins x z i lv st σ (mjZ P q d m T rt K n) (mjC P q d) K
theorem mjZ_y {P : Nat → List mjEn} {q : mjQm} {d m rt : Nat} {T : List mjEn} {K : mjK} (hT : P m = T) (hr : (q m).2.2.2.2 = rt) : ∀ (n i : Nat) (lv : mjL) (st : List Value) (σ : mjS), mjTY σ → mjZ P q d m T rt K n i lv st σ → mjY P q d m i lv st σ K := by
  intro n
  induction n with
  | zero => intro i lv st σ _ h; exact h
  | succ n ih =>
    intro i lv st σ ty h
    unfold mjZ at h
    cases he : T[i]? with
    | none => rw [he] at h; exact False.elim h
    | some e0 =>
      obtain ⟨pc, ins, x, z⟩ := e0
      rw [he] at h
      dsimp only at h
      refine mjY_step ty (by rw [hT]; exact he) ?_
      rw [hr]
      rcases mjI_nf ty h with ⟨i', lv', st', σ', ty', h1, h2⟩ | ⟨x', ar, r, h1, h2⟩ | ⟨v, h1, h2⟩
      · exact h2 _ _ _ (ih i' lv' st' σ' ty' h1)
      · exact h2 _ _ _ (mjC_mono ty (fun v u tu g _ => ih _ _ _ _ tu (g tu)) h1)
      · exact h2 _ _ _ h1
theorem mjZ_of {P : Nat → List mjEn} {q : mjQm} {d m rt : Nat} {T : List mjEn} {K : mjK} (hT : P m = T) (hr : (q m).2.2.2.2 = rt) : ∀ (n i : Nat) (lv : mjL) (st : List Value) (σ : mjS), mjTY σ → mjY P q d m i lv st σ K → mjZ P q d m T rt K n i lv st σ := by
  intro n
  induction n with
  | zero => intro i lv st σ _ h; exact h
  | succ n ih =>
    intro i lv st σ ty h
    obtain ⟨f, h⟩ := h
    cases f with
    | zero => exact False.elim h
    | succ f =>
      unfold mjX at h
      unfold mjZ
      rw [hT, hr] at h
      cases he : T[i]? with
      | none => rw [he] at h; exact False.elim h
      | some e0 =>
        obtain ⟨pc, ins, x, z⟩ := e0
        rw [he] at h
        dsimp only at h ⊢
        rcases mjI_nf ty h with ⟨i', lv', st', σ', ty', h1, h2⟩ | ⟨x', ar, r, h1, h2⟩ | ⟨v, h1, h2⟩
        · exact h2 _ _ _ (ih i' lv' st' σ' ty' ⟨f, h1⟩)
        · refine h2 _ _ _ ?_
          cases d with
          | zero => exact False.elim h1
          | succ d' => exact ⟨h1.1, f, mjX_mono f f d' x' 0 _ _ _ _ _ (Nat.le_refl _) (fun v u tu g _ => ih _ _ _ _ tu ⟨f, g tu⟩) ty h1.2⟩
        · exact h2 _ _ _ h1
/-- another count of steps -/
theorem mjZ_re {P : Nat → List mjEn} {q : mjQm} {d m rt : Nat} {T : List mjEn} {K : mjK} (hT : P m = T) (hr : (q m).2.2.2.2 = rt) (n : Nat) {k i : Nat} {lv : mjL} {st : List Value} {σ : mjS} (ty : mjTY σ) (h : mjZ P q d m T rt K n i lv st σ) : mjZ P q d m T rt K k i lv st σ := mjZ_of hT hr k i lv st σ ty (mjZ_y hT hr n i lv st σ ty h)
