/-! The reader without a number of steps. -/
set_option maxHeartbeats 4000000 in
/-- an instruction goes on, calls, or ends -/
theorem kjI_nf {q : kQm} {rt d : Nat} {ins : Instr} {x : Nat} {z : Int} {i : Nat} {lv : mjL} {st : List Value} {σ : kS} {G : kG} {C : Nat → List Value → kS → kK → Prop} {K : kK} (ty : kTY σ) (h : kjI q rt d ins x z i lv st σ G C K) :
    (∃ i' lv' st' σ', (kTY σ' ∧ kEx σ σ') ∧ G i' lv' st' σ' ∧ ∀ (G' : kG) (C' : Nat → List Value → kS → kK → Prop) (K' : kK), G' i' lv' st' σ' → kjI q rt d ins x z i lv st σ G' C' K') ∨
    (∃ x' ar r, C x' ar σ (fun v u => kTY u → kEx σ u → G (i + 1) lv (mjPush v r) u) ∧ ∀ (G' : kG) (C' : Nat → List Value → kS → kK → Prop) (K' : kK), C' x' ar σ (fun v u => kTY u → kEx σ u → G' (i + 1) lv (mjPush v r) u) → kjI q rt d ins x z i lv st σ G' C' K') ∨
    (∃ v, K v σ ∧ ∀ (G' : kG) (C' : Nat → List Value → kS → kK → Prop) (K' : kK), K' v σ → kjI q rt d ins x z i lv st σ G' C' K') := by
  have tx : kTY σ ∧ kEx σ σ := ⟨ty, kEx.rf⟩
  cases ins with
  | iconst n =>
    exact Or.inl ⟨_, _, _, _, tx, h, fun G' C' K' g => g⟩
  | bipush n =>
    exact Or.inl ⟨_, _, _, _, tx, h, fun G' C' K' g => g⟩
  | sipush n =>
    exact Or.inl ⟨_, _, _, _, tx, h, fun G' C' K' g => g⟩
  | lconst n =>
    exact Or.inl ⟨_, _, _, _, tx, h, fun G' C' K' g => g⟩
  | ldc2_w n =>
    exact Or.inl ⟨_, _, _, _, tx, h, fun G' C' K' g => g⟩
  | goto n =>
    exact Or.inl ⟨_, _, _, _, tx, h, fun G' C' K' g => g⟩
  | aconst_null =>
    exact Or.inl ⟨_, _, _, _, tx, h, fun G' C' K' g => g⟩
  | ldc n =>
    have h : if x = 0 then _ else _ := h
    by_cases c : x = 0
    · rw [if_pos c] at h; exact Or.inl ⟨_, _, _, _, tx, h, fun G' C' K' g => by show (if x = 0 then _ else _); rw [if_pos c]; exact g⟩
    · rw [if_neg c] at h; exact Or.inl ⟨_, _, _, _, tx, h.2, fun G' C' K' g => by show (if x = 0 then _ else _); rw [if_neg c]; exact ⟨h.1, g⟩⟩
  | ldc_w n =>
    have h : if x = 0 then _ else _ := h
    by_cases c : x = 0
    · rw [if_pos c] at h; exact Or.inl ⟨_, _, _, _, tx, h, fun G' C' K' g => by show (if x = 0 then _ else _); rw [if_pos c]; exact g⟩
    · rw [if_neg c] at h; exact Or.inl ⟨_, _, _, _, tx, h.2, fun G' C' K' g => by show (if x = 0 then _ else _); rw [if_neg c]; exact ⟨h.1, g⟩⟩
  | iload k =>
    obtain ⟨v, hv, h⟩ := mjLdI_x h
    refine Or.inl ⟨_, _, _, _, tx, h, fun G' C' K' g => ?_⟩
    show mjLdI _ lv _
    unfold mjLdI; rw [hv]; exact g
  | iload_n k =>
    obtain ⟨v, hv, h⟩ := mjLdI_x h
    refine Or.inl ⟨_, _, _, _, tx, h, fun G' C' K' g => ?_⟩
    show mjLdI _ lv _
    unfold mjLdI; rw [hv]; exact g
  | lload k =>
    obtain ⟨v, hv, h⟩ := mjLdL_x h
    refine Or.inl ⟨_, _, _, _, tx, h, fun G' C' K' g => ?_⟩
    show mjLdL _ lv _
    unfold mjLdL; rw [hv]; exact g
  | lload_n k =>
    obtain ⟨v, hv, h⟩ := mjLdL_x h
    refine Or.inl ⟨_, _, _, _, tx, h, fun G' C' K' g => ?_⟩
    show mjLdL _ lv _
    unfold mjLdL; rw [hv]; exact g
  | aload k =>
    have h : kLdA k lv (fun v => G (i + 1) lv (v :: st) σ) := h
    rcases kLdA_x h with ⟨v, hv, h⟩ | ⟨hv, h⟩
    · refine Or.inl ⟨_, _, _, _, tx, h, fun G' C' K' g => ?_⟩
      show kLdA k lv (fun v => G' (i + 1) lv (v :: st) σ)
      unfold kLdA; rw [hv]; exact g
    · refine Or.inl ⟨_, _, _, _, tx, h, fun G' C' K' g => ?_⟩
      show kLdA k lv (fun v => G' (i + 1) lv (v :: st) σ)
      unfold kLdA; rw [hv]; exact g
  | aload_n k =>
    have h : kLdA k lv (fun v => G (i + 1) lv (v :: st) σ) := h
    rcases kLdA_x h with ⟨v, hv, h⟩ | ⟨hv, h⟩
    · refine Or.inl ⟨_, _, _, _, tx, h, fun G' C' K' g => ?_⟩
      show kLdA k lv (fun v => G' (i + 1) lv (v :: st) σ)
      unfold kLdA; rw [hv]; exact g
    · refine Or.inl ⟨_, _, _, _, tx, h, fun G' C' K' g => ?_⟩
      show kLdA k lv (fun v => G' (i + 1) lv (v :: st) σ)
      unfold kLdA; rw [hv]; exact g
  | istore k =>
    obtain ⟨v, r, rfl, hk, h⟩ := mjI1_x h
    exact Or.inl ⟨_, _, _, _, tx, h, fun G' C' K' g => ⟨hk, g⟩⟩
  | istore_n k =>
    obtain ⟨v, r, rfl, hk, h⟩ := mjI1_x h
    exact Or.inl ⟨_, _, _, _, tx, h, fun G' C' K' g => ⟨hk, g⟩⟩
  | lstore k =>
    obtain ⟨v, r, rfl, hk, h⟩ := mjJ1_x h
    exact Or.inl ⟨_, _, _, _, tx, h, fun G' C' K' g => ⟨hk, g⟩⟩
  | lstore_n k =>
    obtain ⟨v, r, rfl, hk, h⟩ := mjJ1_x h
    exact Or.inl ⟨_, _, _, _, tx, h, fun G' C' K' g => ⟨hk, g⟩⟩
  | astore k =>
    rcases kR1_x h with ⟨v, r, rfl, hk, h⟩ | ⟨r, rfl, hk, h⟩
    · exact Or.inl ⟨_, _, _, _, tx, h, fun G' C' K' g => ⟨hk, g⟩⟩
    · exact Or.inl ⟨_, _, _, _, tx, h, fun G' C' K' g => ⟨hk, g⟩⟩
  | astore_n k =>
    rcases kR1_x h with ⟨v, r, rfl, hk, h⟩ | ⟨r, rfl, hk, h⟩
    · exact Or.inl ⟨_, _, _, _, tx, h, fun G' C' K' g => ⟨hk, g⟩⟩
    · exact Or.inl ⟨_, _, _, _, tx, h, fun G' C' K' g => ⟨hk, g⟩⟩
  | iinc k n =>
    obtain ⟨v, hv, h⟩ := mjLdI_x h
    refine Or.inl ⟨_, _, _, _, tx, h, fun G' C' K' g => ?_⟩
    show mjLdI _ lv _
    unfold mjLdI; rw [hv]; exact g
  | iadd =>
    obtain ⟨a, b, r, rfl, h⟩ := mjI2_x h
    exact Or.inl ⟨_, _, _, _, tx, h, fun G' C' K' g => g⟩
  | isub =>
    obtain ⟨a, b, r, rfl, h⟩ := mjI2_x h
    exact Or.inl ⟨_, _, _, _, tx, h, fun G' C' K' g => g⟩
  | imul =>
    obtain ⟨a, b, r, rfl, h⟩ := mjI2_x h
    exact Or.inl ⟨_, _, _, _, tx, h, fun G' C' K' g => g⟩
  | iand =>
    obtain ⟨a, b, r, rfl, h⟩ := mjI2_x h
    exact Or.inl ⟨_, _, _, _, tx, h, fun G' C' K' g => g⟩
  | ior =>
    obtain ⟨a, b, r, rfl, h⟩ := mjI2_x h
    exact Or.inl ⟨_, _, _, _, tx, h, fun G' C' K' g => g⟩
  | ixor =>
    obtain ⟨a, b, r, rfl, h⟩ := mjI2_x h
    exact Or.inl ⟨_, _, _, _, tx, h, fun G' C' K' g => g⟩
  | ishl =>
    obtain ⟨a, b, r, rfl, h⟩ := mjI2_x h
    exact Or.inl ⟨_, _, _, _, tx, h, fun G' C' K' g => g⟩
  | ishr =>
    obtain ⟨a, b, r, rfl, h⟩ := mjI2_x h
    exact Or.inl ⟨_, _, _, _, tx, h, fun G' C' K' g => g⟩
  | iushr =>
    obtain ⟨a, b, r, rfl, h⟩ := mjI2_x h
    exact Or.inl ⟨_, _, _, _, tx, h, fun G' C' K' g => g⟩
  | idiv =>
    obtain ⟨a, b, r, rfl, hne, h⟩ := mjI2_x h
    exact Or.inl ⟨_, _, _, _, tx, h, fun G' C' K' g => ⟨hne, g⟩⟩
  | irem =>
    obtain ⟨a, b, r, rfl, hne, h⟩ := mjI2_x h
    exact Or.inl ⟨_, _, _, _, tx, h, fun G' C' K' g => ⟨hne, g⟩⟩
  | ladd =>
    obtain ⟨a, b, r, rfl, h⟩ := mjJ2_x h
    exact Or.inl ⟨_, _, _, _, tx, h, fun G' C' K' g => g⟩
  | lsub =>
    obtain ⟨a, b, r, rfl, h⟩ := mjJ2_x h
    exact Or.inl ⟨_, _, _, _, tx, h, fun G' C' K' g => g⟩
  | lmul =>
    obtain ⟨a, b, r, rfl, h⟩ := mjJ2_x h
    exact Or.inl ⟨_, _, _, _, tx, h, fun G' C' K' g => g⟩
  | land =>
    obtain ⟨a, b, r, rfl, h⟩ := mjJ2_x h
    exact Or.inl ⟨_, _, _, _, tx, h, fun G' C' K' g => g⟩
  | lxor =>
    obtain ⟨a, b, r, rfl, h⟩ := mjJ2_x h
    exact Or.inl ⟨_, _, _, _, tx, h, fun G' C' K' g => g⟩
  | lcmp =>
    obtain ⟨a, b, r, rfl, h⟩ := mjJ2_x h
    exact Or.inl ⟨_, _, _, _, tx, h, fun G' C' K' g => g⟩
  | ldiv =>
    obtain ⟨a, b, r, rfl, hne, h⟩ := mjJ2_x h
    exact Or.inl ⟨_, _, _, _, tx, h, fun G' C' K' g => ⟨hne, g⟩⟩
  | lrem =>
    obtain ⟨a, b, r, rfl, hne, h⟩ := mjJ2_x h
    exact Or.inl ⟨_, _, _, _, tx, h, fun G' C' K' g => ⟨hne, g⟩⟩
  | ineg =>
    obtain ⟨a, r, rfl, h⟩ := mjI1_x h
    exact Or.inl ⟨_, _, _, _, tx, h, fun G' C' K' g => g⟩
  | i2l =>
    obtain ⟨a, r, rfl, h⟩ := mjI1_x h
    exact Or.inl ⟨_, _, _, _, tx, h, fun G' C' K' g => g⟩
  | i2b =>
    obtain ⟨a, r, rfl, h⟩ := mjI1_x h
    exact Or.inl ⟨_, _, _, _, tx, h, fun G' C' K' g => g⟩
  | i2c =>
    obtain ⟨a, r, rfl, h⟩ := mjI1_x h
    exact Or.inl ⟨_, _, _, _, tx, h, fun G' C' K' g => g⟩
  | pop =>
    obtain ⟨a, r, rfl, h⟩ := mjI1_x h
    exact Or.inl ⟨_, _, _, _, tx, h, fun G' C' K' g => g⟩
  | tableswitch a1 a2 a3 a4 =>
    obtain ⟨a, r, rfl, h⟩ := mjI1_x h
    exact Or.inl ⟨_, _, _, _, tx, h, fun G' C' K' g => g⟩
  | lneg =>
    obtain ⟨a, r, rfl, h⟩ := mjJ1_x h
    exact Or.inl ⟨_, _, _, _, tx, h, fun G' C' K' g => g⟩
  | l2i =>
    obtain ⟨a, r, rfl, h⟩ := mjJ1_x h
    exact Or.inl ⟨_, _, _, _, tx, h, fun G' C' K' g => g⟩
  | dup =>
    rcases mjDp_x h with ⟨a, r, rfl, h⟩ | ⟨a, r, rfl, h⟩
    · exact Or.inl ⟨_, _, _, _, tx, h, fun G' C' K' g => g⟩
    · exact Or.inl ⟨_, _, _, _, tx, h, fun G' C' K' g => g⟩
  | if_icmp cd off =>
    obtain ⟨a, b, r, rfl, h⟩ := mjI2_x h
    by_cases cc : mjCc cd a b
    · exact Or.inl ⟨_, _, _, _, tx, h.1 cc, fun G' C' K' g => ⟨fun _ => g, fun n => absurd cc n⟩⟩
    · exact Or.inl ⟨_, _, _, _, tx, h.2 cc, fun G' C' K' g => ⟨fun n => absurd n cc, fun _ => g⟩⟩
  | ifCond cd off =>
    obtain ⟨a, r, rfl, h⟩ := mjI1_x h
    by_cases cc : mjCc cd a 0
    · exact Or.inl ⟨_, _, _, _, tx, h.1 cc, fun G' C' K' g => ⟨fun _ => g, fun n => absurd cc n⟩⟩
    · exact Or.inl ⟨_, _, _, _, tx, h.2 cc, fun G' C' K' g => ⟨fun n => absurd n cc, fun _ => g⟩⟩
  | ifnull off =>
    rcases kR1_x h with ⟨a, r, rfl, h⟩ | ⟨r, rfl, h⟩
    · exact Or.inl ⟨_, _, _, _, tx, h, fun G' C' K' g => g⟩
    · exact Or.inl ⟨_, _, _, _, tx, h, fun G' C' K' g => g⟩
  | ifnonnull off =>
    rcases kR1_x h with ⟨a, r, rfl, h⟩ | ⟨r, rfl, h⟩
    · exact Or.inl ⟨_, _, _, _, tx, h, fun G' C' K' g => g⟩
    · exact Or.inl ⟨_, _, _, _, tx, h, fun G' C' K' g => g⟩
  | if_acmp cd off =>
    obtain ⟨a, b, r, rfl, hc, h⟩ := kA2_x h
    by_cases cc : (cd = .eq ↔ a = b)
    · exact Or.inl ⟨_, _, _, _, tx, h.1 cc, fun G' C' K' g => ⟨hc, fun _ => g, fun n => absurd cc n⟩⟩
    · exact Or.inl ⟨_, _, _, _, tx, h.2 cc, fun G' C' K' g => ⟨hc, fun n => absurd n cc, fun _ => g⟩⟩
  | getstatic k =>
    exact Or.inl ⟨_, _, _, _, tx, h, fun G' C' K' g => g⟩
  | getfield k =>
    obtain ⟨a, r, rfl, w⟩ := mjA1_x h
    clear h
    by_cases c : x < 1000
    · rw [if_pos c] at w
      obtain ⟨h0, w⟩ := w
      have back : ∀ (G' : kG) (C' : Nat → List Value → kS → kK → Prop) (K' : kK), ((σ.2.2.2.1 a).1 = x / 32 ∧ (match (kT x).1 with
          | 0 => G' (i + 1) lv (.int (σ.1 a (x % 32)) :: r) σ
          | 1 => G' (i + 1) lv (.int (σ.1 a (x % 32)) :: r) σ
          | 8 => G' (i + 1) lv (.int (σ.1 a (x % 32)) :: r) σ
          | 2 => G' (i + 1) lv (.long (σ.2.1 a (x % 32)) :: r) σ
          | 3 => G' (i + 1) lv (.ref (kT x).2.1 :: r) σ
          | 4 => G' (i + 1) lv (.ref (a + (kT x).2.1) :: r) σ
          | _ => ∃ o, σ.2.2.1 a (x % 32) = o ∧ G' (i + 1) lv (va_rf o :: r) σ)) → kjI q rt d (.getfield k) x z i lv (.ref a :: r) σ G' C' K' := by
        intro G' C' K' g
        show (if x < 1000 then _ else _)
        rw [if_pos c]; exact g
      split at w
      · next e => exact Or.inl ⟨_, _, _, _, tx, w, fun G' C' K' g => back G' C' K' ⟨h0, by rw [e]; exact g⟩⟩
      · next e => exact Or.inl ⟨_, _, _, _, tx, w, fun G' C' K' g => back G' C' K' ⟨h0, by rw [e]; exact g⟩⟩
      · next e => exact Or.inl ⟨_, _, _, _, tx, w, fun G' C' K' g => back G' C' K' ⟨h0, by rw [e]; exact g⟩⟩
      · next e => exact Or.inl ⟨_, _, _, _, tx, w, fun G' C' K' g => back G' C' K' ⟨h0, by rw [e]; exact g⟩⟩
      · next e => exact Or.inl ⟨_, _, _, _, tx, w, fun G' C' K' g => back G' C' K' ⟨h0, by rw [e]; exact g⟩⟩
      · next e => exact Or.inl ⟨_, _, _, _, tx, w, fun G' C' K' g => back G' C' K' ⟨h0, by rw [e]; exact g⟩⟩
      · obtain ⟨o, ho, w⟩ := w
        refine Or.inl ⟨_, _, _, _, tx, w, fun G' C' K' g => back G' C' K' ⟨h0, ?_⟩⟩
        split
        · next e => exact absurd e (by assumption)
        · next e => exact absurd e (by assumption)
        · next e => exact absurd e (by assumption)
        · next e => exact absurd e (by assumption)
        · next e => exact absurd e (by assumption)
        · next e => exact absurd e (by assumption)
        · exact ⟨o, ho, g⟩
    · rw [if_neg c] at w
      obtain ⟨v, hv, w⟩ := w
      refine Or.inl ⟨_, _, _, _, tx, w, fun G' C' K' g => ?_⟩
      show (if x < 1000 then _ else _)
      rw [if_neg c]; exact ⟨v, hv, g⟩
  | putfield k =>
    rcases kPf_x h with ⟨v, a, r, rfl, h1, hc, h0⟩ | ⟨v, a, r, rfl, h1, hc, h0⟩ | ⟨v, a, r, rfl, h1, hc, h0⟩ | ⟨a, r, rfl, h1, hc, h0⟩
    · have t := kTY_i ty h1 hc
      exact Or.inl ⟨_, _, _, _, ⟨t, kEx_i⟩, h0 t, fun G' C' K' g => ⟨h1, hc, fun _ => g⟩⟩
    · have t : kTY (σ.1, mjLu σ.2.1 a (x % 32) v, σ.2.2) := kTY_l ty
      exact Or.inl ⟨_, _, _, _, ⟨t, kEx_l⟩, h0 t, fun G' C' K' g => ⟨h1, hc, fun _ => g⟩⟩
    · have t : kTY (σ.1, σ.2.1, kFu σ.2.2.1 a (x % 32) (some v), σ.2.2.2) := kTY_f ty h1 (by
        rcases hc with hc | hc | hc
        · exact Or.inl ⟨hc.1, v, rfl, hc.2⟩
        · exact Or.inr (Or.inl ⟨hc.1, fun g e => by cases e; exact hc.2⟩)
        · exact Or.inr (Or.inr ⟨hc.1, fun g e => by cases e; exact hc.2⟩))
      exact Or.inl ⟨_, _, _, _, ⟨t, kEx_f⟩, h0 t, fun G' C' K' g => ⟨h1, hc, fun _ => g⟩⟩
    · have t : kTY (σ.1, σ.2.1, kFu σ.2.2.1 a (x % 32) none, σ.2.2.2) := kTY_f ty h1 (by
        rcases hc with hc | hc
        · exact Or.inr (Or.inl ⟨hc, fun g e => by cases e⟩)
        · exact Or.inr (Or.inr ⟨hc, fun g e => by cases e⟩))
      exact Or.inl ⟨_, _, _, _, ⟨t, kEx_f⟩, h0 t, fun G' C' K' g => ⟨h1, hc, fun _ => g⟩⟩
  | arraylength =>
    obtain ⟨a, r, rfl, h⟩ := mjA1_x h
    rcases h with ⟨hk, h⟩ | ⟨t, N, f, hk, h⟩
    · exact Or.inl ⟨_, _, _, _, tx, h, fun G' C' K' g => Or.inl ⟨hk, g⟩⟩
    · exact Or.inl ⟨_, _, _, _, tx, h, fun G' C' K' g => Or.inr ⟨t, N, f, hk, g⟩⟩
  | iaload =>
    obtain ⟨j, a, r, rfl, h⟩ := mjIA_x h
    rcases h with ⟨hk, hj, h⟩ | ⟨N, f, hk, hj, v, hv, h⟩
    · exact Or.inl ⟨_, _, _, _, tx, h, fun G' C' K' g => Or.inl ⟨hk, hj, g⟩⟩
    · exact Or.inl ⟨_, _, _, _, tx, h, fun G' C' K' g => Or.inr ⟨N, f, hk, hj, v, hv, g⟩⟩
  | baload =>
    obtain ⟨j, a, r, rfl, h⟩ := mjIA_x h
    rcases h with ⟨hk, hj, h⟩ | ⟨N, f, hk, hj, v, hv, h⟩
    · exact Or.inl ⟨_, _, _, _, tx, h, fun G' C' K' g => Or.inl ⟨hk, hj, g⟩⟩
    · exact Or.inl ⟨_, _, _, _, tx, h, fun G' C' K' g => Or.inr ⟨N, f, hk, hj, v, hv, g⟩⟩
  | laload =>
    obtain ⟨j, a, r, rfl, hk, hj, h⟩ := mjIA_x h
    exact Or.inl ⟨_, _, _, _, tx, h, fun G' C' K' g => ⟨hk, hj, g⟩⟩
  | aaload =>
    obtain ⟨j, a, r, rfl, h⟩ := mjIA_x h
    rcases h with ⟨hk, hj, o, ho, h⟩ | ⟨hk, hj, h⟩
    · exact Or.inl ⟨_, _, _, _, tx, h, fun G' C' K' g => Or.inl ⟨hk, hj, o, ho, g⟩⟩
    · exact Or.inl ⟨_, _, _, _, tx, h, fun G' C' K' g => Or.inr ⟨hk, hj, g⟩⟩
  | iastore =>
    obtain ⟨v, j, a, r, rfl, hk, hj, h⟩ := mjIIA_x h
    have t := kTY_a (j := j.toNatClampNeg) (v := v) ty (Or.inl hk)
    exact Or.inl ⟨_, _, _, _, ⟨t, kEx_i⟩, h t, fun G' C' K' g => ⟨hk, hj, fun _ => g⟩⟩
  | bastore =>
    obtain ⟨v, j, a, r, rfl, hk, hj, h⟩ := mjIIA_x h
    have t := kTY_a (j := j.toNatClampNeg) (v := v) ty (Or.inr hk)
    exact Or.inl ⟨_, _, _, _, ⟨t, kEx_i⟩, h t, fun G' C' K' g => ⟨hk, hj, fun _ => g⟩⟩
  | lastore =>
    obtain ⟨v, j, a, r, rfl, hk, hj, h⟩ := mjJIA_x h
    have t : kTY (σ.1, mjLu σ.2.1 a j.toNatClampNeg v, σ.2.2) := kTY_l ty
    exact Or.inl ⟨_, _, _, _, ⟨t, kEx_l⟩, h t, fun G' C' K' g => ⟨hk, hj, fun _ => g⟩⟩
  | aastore =>
    obtain ⟨v, j, a, r, rfl, hk, hj, h⟩ := kAIA_x h
    have t := kTY_as (j := j.toNatClampNeg) ty hk.1 hk.2
    exact Or.inl ⟨_, _, _, _, ⟨t, kEx_f⟩, h t, fun G' C' K' g => ⟨hk, hj, fun _ => g⟩⟩
  | newarray at_ =>
    obtain ⟨v, r, rfl, N, hv, hN, hc, h⟩ := mjI1_x h
    have t := kTY_new (k := x) (N := N) ty (by omega) (by omega) hc.1
    exact Or.inl ⟨_, _, _, _, ⟨t, kNew_ex hc.1⟩, h t, fun G' C' K' g => ⟨N, hv, hN, hc, fun _ => g⟩⟩
  | anewarray at_ =>
    obtain ⟨v, r, rfl, N, hv, hN, hc, h⟩ := mjI1_x h
    have t := kTY_new (k := 25) (N := N) ty (by omega) (by omega) hc.1
    exact Or.inl ⟨_, _, _, _, ⟨t, kNew_ex hc.1⟩, h t, fun G' C' K' g => ⟨N, hv, hN, hc, fun _ => g⟩⟩
  | new at_ =>
    obtain ⟨h0, hc, h⟩ := h
    have t := kTY_val ty hc.2.1
    exact Or.inl ⟨_, _, _, _, ⟨t, kVal_ex hc.2.1⟩, h t, fun G' C' K' g => ⟨h0, hc, fun _ => g⟩⟩
  | invokevirtual k =>
    have h : if x = 1002 then _ else _ := h
    by_cases c : x = 1002
    · rw [if_pos c] at h
      obtain ⟨a, r, rfl, kk, hk, h⟩ := mjA1_x h
      refine Or.inl ⟨_, _, _, _, tx, h, fun G' C' K' g => ?_⟩
      show (if x = 1002 then _ else _)
      rw [if_pos c]; exact ⟨kk, hk, g⟩
    · rw [if_neg c] at h
      obtain ⟨hn, h⟩ := h
      obtain ⟨a, r, er, hr, hcat, hc⟩ := mjA1_x h
      refine Or.inr (Or.inl ⟨_, _, r, hc, fun G' C' K' g => ?_⟩)
      show (if x = 1002 then _ else _)
      rw [if_neg c]
      refine ⟨hn, ?_⟩
      rw [er]
      exact ⟨hr, hcat, g⟩
  | invokestatic k =>
    have h : if x = 1006 then _ else if x = 1008 then _ else _ := h
    by_cases c : x = 1006
    · rw [if_pos c] at h
      obtain ⟨s, sp, t, dp, n, r, rfl, a, b, cc, h1, h2, h3, h⟩ := kCpy_x h
      rcases h with ⟨h4, h⟩ | ⟨h4, h⟩
      · have t2 := kTY_cpy (a := a) (b := b) (n := cc) ty h2.1 h4
        refine Or.inl ⟨_, _, _, _, ⟨t2, kEx_i⟩, h t2, fun G' C' K' g => ?_⟩
        show (if x = 1006 then _ else _)
        rw [if_pos c]; exact ⟨a, b, cc, h1, h2, h3, Or.inl ⟨h4, fun _ => g⟩⟩
      · have t2 : kTY (σ.1, kUp σ.2.1 t (va_cpy (σ.2.1 s) (σ.2.1 t) a b cc), σ.2.2) := kTY_l ty
        refine Or.inl ⟨_, _, _, _, ⟨t2, kEx_l⟩, h t2, fun G' C' K' g => ?_⟩
        show (if x = 1006 then _ else _)
        rw [if_pos c]; exact ⟨a, b, cc, h1, h2, h3, Or.inr ⟨h4, fun _ => g⟩⟩
    · rw [if_neg c] at h
      by_cases c8 : x = 1008
      · rw [if_pos c8] at h
        obtain ⟨a, b, r, rfl, h0, h⟩ := mjI2_x h
        refine Or.inl ⟨_, _, _, _, tx, h, fun G' C' K' g => ?_⟩
        show (if x = 1006 then _ else if x = 1008 then _ else _)
        rw [if_neg c, if_pos c8]; exact ⟨h0, g⟩
      · rw [if_neg c8] at h
        obtain ⟨hn, hcat, hc⟩ := h
        refine Or.inr (Or.inl ⟨_, _, _, hc, fun G' C' K' g => ?_⟩)
        show (if x = 1006 then _ else if x = 1008 then _ else _)
        rw [if_neg c, if_neg c8]; exact ⟨hn, hcat, g⟩
  | ireturn =>
    obtain ⟨v, r, rfl, rfl, hrt, hk⟩ := mjI1_x h
    exact Or.inr (Or.inr ⟨_, hk, fun G' C' K' g => ⟨rfl, hrt, g⟩⟩)
  | lreturn =>
    obtain ⟨v, r, rfl, rfl, hrt, hk⟩ := mjJ1_x h
    exact Or.inr (Or.inr ⟨_, hk, fun G' C' K' g => ⟨rfl, hrt, g⟩⟩)
  | areturn =>
    rcases kR1_x h with ⟨v, r, rfl, rfl, hrt, hk⟩ | ⟨r, rfl, rfl, hrt, hk⟩
    · exact Or.inr (Or.inr ⟨_, hk, fun G' C' K' g => ⟨rfl, hrt, g⟩⟩)
    · exact Or.inr (Or.inr ⟨_, hk, fun G' C' K' g => ⟨rfl, hrt, g⟩⟩)
  | return_ =>
    obtain ⟨rfl, hrt, hk⟩ := h
    exact Or.inr (Or.inr ⟨_, hk, fun G' C' K' g => ⟨rfl, hrt, g⟩⟩)
  | _ => exact False.elim h
/-- more steps, and less asked of the end -/
theorem kjX_mono {P : Nat → List mjEn} {q : kQm} : ∀ (f f' d m i : Nat) (lv : mjL) (st : List Value) (σ : kS) (K K' : kK), f ≤ f' → (∀ v u, kTY u → kEx σ u → K v u → K' v u) → kTY σ → kjX P q f d m i lv st σ K → kjX P q f' d m i lv st σ K' := by
  intro f
  induction f with
  | zero => intro f' d m i lv st σ K K' _ _ _ h; exact False.elim h
  | succ f ih =>
    intro f' d m i lv st σ K K' hf hK ty h
    cases f' with
    | zero => omega
    | succ f' =>
      unfold kjX at h ⊢
      cases he : (P m)[i]? with
      | none => rw [he] at h; exact False.elim h
      | some e0 =>
        obtain ⟨pc, ins, x, z⟩ := e0
        rw [he] at h
        dsimp only at h ⊢
        rcases kjI_nf ty h with ⟨i', lv', st', σ', ⟨ty', ex'⟩, h1, h2⟩ | ⟨x', ar, r, h1, h2⟩ | ⟨v, h1, h2⟩
        · exact h2 _ _ _ (ih f' d m i' lv' st' σ' K K' (by omega) (fun v u tu eu => hK v u tu (ex'.tr eu)) ty' h1)
        · refine h2 _ _ _ ?_
          cases d with
          | zero => exact False.elim h1
          | succ d' => exact ⟨h1.1, ih f' d' x' 0 _ _ _ _ _ (by omega) (fun v u tu eu g _ _ => ih f' (d' + 1) m (i + 1) lv _ u K K' (by omega) (fun v2 u2 tu2 eu2 => hK v2 u2 tu2 (eu.tr eu2)) tu (g tu eu)) ty h1.2⟩
        · exact h2 _ _ _ (hK _ _ ty kEx.rf h1)
/-- there is one end -/
theorem kjX_det {P : Nat → List mjEn} {q : kQm} : ∀ (f d m i : Nat) (lv : mjL) (st : List Value) (σ : kS) (K : kK), kTY σ → kjX P q f d m i lv st σ K → ∃ v u, (kTY u ∧ kEx σ u) ∧ K v u ∧ kjX P q f d m i lv st σ (fun v' u' => v' = v ∧ u' = u) := by
  intro f
  induction f with
  | zero => intro d m i lv st σ K _ h; exact False.elim h
  | succ f ih =>
    intro d m i lv st σ K ty h
    unfold kjX at h
    cases he : (P m)[i]? with
    | none => rw [he] at h; exact False.elim h
    | some e0 =>
      obtain ⟨pc, ins, x, z⟩ := e0
      rw [he] at h
      dsimp only at h
      have back : ∀ K2 : kK, kjI q (q m).2.2.2.2.1 d ins x z i lv st σ (fun i lv st σ => kjX P q f d m i lv st σ K2) (kjCl q (fun d' x' lv σ K' => kjX P q f d' x' 0 lv [] σ K') d) K2 → kjX P q (f + 1) d m i lv st σ K2 := by
        intro K2 g; unfold kjX; rw [he]; exact g
      rcases kjI_nf ty h with ⟨i', lv', st', σ', ⟨ty', ex'⟩, h1, h2⟩ | ⟨x', ar, r, h1, h2⟩ | ⟨v, h1, h2⟩
      · obtain ⟨v, u, tu, a, b⟩ := ih d m i' lv' st' σ' K ty' h1
        exact ⟨v, u, ⟨tu.1, ex'.tr tu.2⟩, a, back _ (h2 _ _ _ b)⟩
      · cases d with
        | zero => exact False.elim h1
        | succ d' =>
          obtain ⟨v1, u1, tu1, a1, b1⟩ := ih d' x' 0 _ _ _ _ ty h1.2
          obtain ⟨v, u, tu, a, b⟩ := ih (d' + 1) m (i + 1) lv _ u1 K tu1.1 (a1 tu1.1 tu1.2)
          exact ⟨v, u, ⟨tu.1, tu1.2.tr tu.2⟩, a, back _ (h2 _ _ _ ⟨h1.1, kjX_mono f f d' x' 0 _ _ _ _ _ (Nat.le_refl _) (fun v' u' _ _ g => by obtain ⟨rfl, rfl⟩ := g; exact fun _ _ => b) ty b1⟩)⟩
      · exact ⟨v, σ, ⟨ty, kEx.rf⟩, h1, back _ (h2 _ _ _ ⟨rfl, rfl⟩)⟩
/-- from here on it comes to K -/
def kjY (P : Nat → List mjEn) (q : kQm) (d m i : Nat) (lv : mjL) (st : List Value) (σ : kS) (K : kK) : Prop := ∃ f, kjX P q f d m i lv st σ K
def kjC (P : Nat → List mjEn) (q : kQm) (d x : Nat) (ar : List Value) (σ : kS) (K : kK) : Prop := kjCl q (fun d' x' lv σ K' => kjY P q d' x' 0 lv [] σ K') d x ar σ K
theorem kjY_step {P : Nat → List mjEn} {q : kQm} {d m i pc x : Nat} {ins : Instr} {z : Int} {lv : mjL} {st : List Value} {σ : kS} {K : kK} (ty : kTY σ) (he : (P m)[i]? = some (pc, ins, x, z)) (h : kjI q (q m).2.2.2.2.1 d ins x z i lv st σ (fun i lv st σ => kjY P q d m i lv st σ K) (kjC P q d) K) : kjY P q d m i lv st σ K := by
  have back : ∀ f : Nat, kjI q (q m).2.2.2.2.1 d ins x z i lv st σ (fun i lv st σ => kjX P q f d m i lv st σ K) (kjCl q (fun d' x' lv σ K' => kjX P q f d' x' 0 lv [] σ K') d) K → kjY P q d m i lv st σ K := by
    intro f g; refine ⟨f + 1, ?_⟩; unfold kjX; rw [he]; exact g
  rcases kjI_nf ty h with ⟨i', lv', st', σ', ty', ⟨f, h1⟩, h2⟩ | ⟨x', ar, r, h1, h2⟩ | ⟨v, h1, h2⟩
  · exact back f (h2 _ _ _ h1)
  · cases d with
    | zero => exact False.elim h1
    | succ d' =>
      obtain ⟨har, f1, h1⟩ := h1
      obtain ⟨v1, u1, tu1, a0, b1⟩ := kjX_det f1 d' x' 0 _ _ _ _ ty h1
      obtain ⟨f2, a1⟩ := a0 tu1.1 tu1.2
      refine back (f1 + f2) (h2 _ _ _ ⟨har, kjX_mono f1 (f1 + f2) d' x' 0 _ _ _ _ _ (by omega) (fun v' u' _ _ g => ?_) ty b1⟩)
      obtain ⟨rfl, rfl⟩ := g
      exact fun _ _ => kjX_mono f2 (f1 + f2) (d' + 1) m (i + 1) _ _ _ _ _ (by omega) (fun _ _ _ _ g => g) tu1.1 a1
  · exact back 0 (h2 _ _ _ h1)
theorem kjY_mono {P : Nat → List mjEn} {q : kQm} {d m i : Nat} {lv : mjL} {st : List Value} {σ : kS} {K K' : kK} (ty : kTY σ) (hK : ∀ v u, kTY u → kEx σ u → K v u → K' v u) (h : kjY P q d m i lv st σ K) : kjY P q d m i lv st σ K' := by
  obtain ⟨f, h⟩ := h; exact ⟨f, kjX_mono f f d m i lv st σ K K' (Nat.le_refl _) hK ty h⟩
theorem kjC_mono {P : Nat → List mjEn} {q : kQm} {d x : Nat} {ar : List Value} {σ : kS} {K K' : kK} (ty : kTY σ) (hK : ∀ v u, kTY u → kEx σ u → K v u → K' v u) (h : kjC P q d x ar σ K) : kjC P q d x ar σ K' := by
  cases d with
  | zero => exact h
  | succ d => exact ⟨h.1, kjY_mono ty hK h.2⟩
/-- n instructions at once -/
def kjZ (P : Nat → List mjEn) (q : kQm) (d m : Nat) (T : List mjEn) (rt : Nat) (K : kK) : Nat → Nat → mjL → List Value → kS → Prop
  | 0, i, lv, st, σ => kjY P q d m i lv st σ K
  | n + 1, i, lv, st, σ => match T[i]? with
    | none => False
    | some (_, ins, x, z) => kjI q rt d ins x z i lv st σ (kjZ P q d m T rt K n) (kjC P q d) K
theorem kjZ_y {P : Nat → List mjEn} {q : kQm} {d m rt : Nat} {T : List mjEn} {K : kK} (hT : P m = T) (hr : (q m).2.2.2.2.1 = rt) : ∀ (n i : Nat) (lv : mjL) (st : List Value) (σ : kS), kTY σ → kjZ P q d m T rt K n i lv st σ → kjY P q d m i lv st σ K := by
  intro n
  induction n with
  | zero => intro i lv st σ _ h; exact h
  | succ n ih =>
    intro i lv st σ ty h
    unfold kjZ at h
    cases he : T[i]? with
    | none => rw [he] at h; exact False.elim h
    | some e0 =>
      obtain ⟨pc, ins, x, z⟩ := e0
      rw [he] at h
      dsimp only at h
      refine kjY_step ty (by rw [hT]; exact he) ?_
      rw [hr]
      rcases kjI_nf ty h with ⟨i', lv', st', σ', ty', h1, h2⟩ | ⟨x', ar, r, h1, h2⟩ | ⟨v, h1, h2⟩
      · exact h2 _ _ _ (ih i' lv' st' σ' ty'.1 h1)
      · exact h2 _ _ _ (kjC_mono ty (fun v u tu eu g _ _ => ih _ _ _ _ tu (g tu eu)) h1)
      · exact h2 _ _ _ h1
theorem kjZ_of {P : Nat → List mjEn} {q : kQm} {d m rt : Nat} {T : List mjEn} {K : kK} (hT : P m = T) (hr : (q m).2.2.2.2.1 = rt) : ∀ (n i : Nat) (lv : mjL) (st : List Value) (σ : kS), kTY σ → kjY P q d m i lv st σ K → kjZ P q d m T rt K n i lv st σ := by
  intro n
  induction n with
  | zero => intro i lv st σ _ h; exact h
  | succ n ih =>
    intro i lv st σ ty h
    obtain ⟨f, h⟩ := h
    cases f with
    | zero => exact False.elim h
    | succ f =>
      unfold kjX at h
      unfold kjZ
      rw [hT, hr] at h
      cases he : T[i]? with
      | none => rw [he] at h; exact False.elim h
      | some e0 =>
        obtain ⟨pc, ins, x, z⟩ := e0
        rw [he] at h
        dsimp only at h ⊢
        rcases kjI_nf ty h with ⟨i', lv', st', σ', ty', h1, h2⟩ | ⟨x', ar, r, h1, h2⟩ | ⟨v, h1, h2⟩
        · exact h2 _ _ _ (ih i' lv' st' σ' ty'.1 ⟨f, h1⟩)
        · refine h2 _ _ _ ?_
          cases d with
          | zero => exact False.elim h1
          | succ d' => exact ⟨h1.1, f, kjX_mono f f d' x' 0 _ _ _ _ _ (Nat.le_refl _) (fun v u tu eu g _ _ => ih _ _ _ _ tu ⟨f, g tu eu⟩) ty h1.2⟩
        · exact h2 _ _ _ h1
/-- another count of steps -/
theorem kjZ_re {P : Nat → List mjEn} {q : kQm} {d m rt : Nat} {T : List mjEn} {K : kK} (hT : P m = T) (hr : (q m).2.2.2.2.1 = rt) (n : Nat) {k i : Nat} {lv : mjL} {st : List Value} {σ : kS} (ty : kTY σ) (h : kjZ P q d m T rt K n i lv st σ) : kjZ P q d m T rt K k i lv st σ := kjZ_of hT hr k i lv st σ ty (kjZ_y hT hr n i lv st σ ty h)
