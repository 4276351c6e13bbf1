/-! Room may be kept back. -/
/-- so many slots and cells more -/
abbrev kSh (S T : Nat) (σ : kS) : kS := (σ.1, σ.2.1, σ.2.2.1, σ.2.2.2.1, σ.2.2.2.2.1, σ.2.2.2.2.2.1 + T, σ.2.2.2.2.2.2 + S)
theorem kNew_sh {σ : kS} {S T k N : Nat} (h : 1 ≤ σ.2.2.2.2.2.1 ∧ N ≤ σ.2.2.2.2.2.2) : kNew (kSh S T σ) k N = kSh S T (kNew σ k N) := by
  have h1 : σ.2.2.2.2.2.1 + T - 1 = σ.2.2.2.2.2.1 - 1 + T := by omega
  have h2 : σ.2.2.2.2.2.2 + S - N = σ.2.2.2.2.2.2 - N + S := by omega
  unfold kNew kSh
  dsimp only
  rw [h1, h2]
theorem kVal_sh {σ : kS} {S T : Nat} (h : 1 ≤ σ.2.2.2.2.2.1 ∧ 9 ≤ σ.2.2.2.2.2.2) : kVal (kSh S T σ) = kSh S T (kVal σ) := by
  have h1 : σ.2.2.2.2.2.1 + T - 1 = σ.2.2.2.2.2.1 - 1 + T := by omega
  have h2 : σ.2.2.2.2.2.2 + S - 9 = σ.2.2.2.2.2.2 - 9 + S := by omega
  unfold kVal kSh
  dsimp only
  rw [h1, h2]
set_option maxHeartbeats 4000000 in
theorem kjI_sh {S T : Nat} {q : kQm} {rt d : Nat} {ins : Instr} {x : Nat} {z : Int} {i : Nat} {lv : mjL} {st : List Value} {σ : kS} {G : kG} {C : Nat → List Value → kS → kK → Prop} {K : kK} (ty : kTY σ) (h : kjI q rt d ins x z i lv st σ G C K) :
    (∃ i' lv' st' σ', (kTY σ' ∧ kEx σ σ') ∧ G i' lv' st' σ' ∧ ∀ (G' : kG) (C' : Nat → List Value → kS → kK → Prop) (K' : kK), G' i' lv' st' (kSh S T σ') → kjI q rt d ins x z i lv st (kSh S T σ) G' C' K') ∨
    (∃ x' ar r, C x' ar σ (fun v u => kTY u → kEx σ u → G (i + 1) lv (mjPush v r) u) ∧ ∀ (G' : kG) (C' : Nat → List Value → kS → kK → Prop) (K' : kK), C' x' ar (kSh S T σ) (fun v u => kTY u → kEx (kSh S T σ) u → G' (i + 1) lv (mjPush v r) u) → kjI q rt d ins x z i lv st (kSh S T σ) G' C' K') ∨
    (∃ v, K v σ ∧ ∀ (G' : kG) (C' : Nat → List Value → kS → kK → Prop) (K' : kK), K' v (kSh S T σ) → kjI q rt d ins x z i lv st (kSh S T σ) G' C' K') := by
  have tx : kTY σ ∧ kEx σ σ := ⟨ty, kEx.rf⟩
  cases ins with
  | iconst n =>
    exact Or.inl ⟨_, _, _, _, tx, h, fun G' C' K' g => g⟩
  | bipush n =>
    exact Or.inl ⟨_, _, _, _, tx, h, fun G' C' K' g => g⟩
  | sipush n =>
    exact Or.inl ⟨_, _, _, _, tx, h, fun G' C' K' g => g⟩
  | lconst n =>
    exact Or.inl ⟨_, _, _, _, tx, h, fun G' C' K' g => g⟩
  | ldc2_w n =>
    exact Or.inl ⟨_, _, _, _, tx, h, fun G' C' K' g => g⟩
  | goto n =>
    exact Or.inl ⟨_, _, _, _, tx, h, fun G' C' K' g => g⟩
  | aconst_null =>
    exact Or.inl ⟨_, _, _, _, tx, h, fun G' C' K' g => g⟩
  | ldc n =>
    have h : if x = 0 then _ else _ := h
    by_cases c : x = 0
    · rw [if_pos c] at h; exact Or.inl ⟨_, _, _, _, tx, h, fun G' C' K' g => by show (if x = 0 then _ else _); rw [if_pos c]; exact g⟩
    · rw [if_neg c] at h; exact Or.inl ⟨_, _, _, _, tx, h.2, fun G' C' K' g => by show (if x = 0 then _ else _); rw [if_neg c]; exact ⟨h.1, g⟩⟩
  | ldc_w n =>
    have h : if x = 0 then _ else _ := h
    by_cases c : x = 0
    · rw [if_pos c] at h; exact Or.inl ⟨_, _, _, _, tx, h, fun G' C' K' g => by show (if x = 0 then _ else _); rw [if_pos c]; exact g⟩
    · rw [if_neg c] at h; exact Or.inl ⟨_, _, _, _, tx, h.2, fun G' C' K' g => by show (if x = 0 then _ else _); rw [if_neg c]; exact ⟨h.1, g⟩⟩
  | iload k =>
    obtain ⟨v, hv, h⟩ := mjLdI_x h
    refine Or.inl ⟨_, _, _, _, tx, h, fun G' C' K' g => ?_⟩
    show mjLdI _ lv _
    unfold mjLdI; rw [hv]; exact g
  | iload_n k =>
    obtain ⟨v, hv, h⟩ := mjLdI_x h
    refine Or.inl ⟨_, _, _, _, tx, h, fun G' C' K' g => ?_⟩
    show mjLdI _ lv _
    unfold mjLdI; rw [hv]; exact g
  | lload k =>
    obtain ⟨v, hv, h⟩ := mjLdL_x h
    refine Or.inl ⟨_, _, _, _, tx, h, fun G' C' K' g => ?_⟩
    show mjLdL _ lv _
    unfold mjLdL; rw [hv]; exact g
  | lload_n k =>
    obtain ⟨v, hv, h⟩ := mjLdL_x h
    refine Or.inl ⟨_, _, _, _, tx, h, fun G' C' K' g => ?_⟩
    show mjLdL _ lv _
    unfold mjLdL; rw [hv]; exact g
  | aload k =>
    have h : kLdA k lv (fun v => G (i + 1) lv (v :: st) σ) := h
    rcases kLdA_x h with ⟨v, hv, h⟩ | ⟨hv, h⟩
    · refine Or.inl ⟨_, _, _, _, tx, h, fun G' C' K' g => ?_⟩
      show kLdA k lv (fun v => G' (i + 1) lv (v :: st) (kSh S T σ))
      unfold kLdA; rw [hv]; exact g
    · refine Or.inl ⟨_, _, _, _, tx, h, fun G' C' K' g => ?_⟩
      show kLdA k lv (fun v => G' (i + 1) lv (v :: st) (kSh S T σ))
      unfold kLdA; rw [hv]; exact g
  | aload_n k =>
    have h : kLdA k lv (fun v => G (i + 1) lv (v :: st) σ) := h
    rcases kLdA_x h with ⟨v, hv, h⟩ | ⟨hv, h⟩
    · refine Or.inl ⟨_, _, _, _, tx, h, fun G' C' K' g => ?_⟩
      show kLdA k lv (fun v => G' (i + 1) lv (v :: st) (kSh S T σ))
      unfold kLdA; rw [hv]; exact g
    · refine Or.inl ⟨_, _, _, _, tx, h, fun G' C' K' g => ?_⟩
      show kLdA k lv (fun v => G' (i + 1) lv (v :: st) (kSh S T σ))
      unfold kLdA; rw [hv]; exact g
  | istore k =>
    obtain ⟨v, r, rfl, hk, h⟩ := mjI1_x h
    exact Or.inl ⟨_, _, _, _, tx, h, fun G' C' K' g => ⟨hk, g⟩⟩
  | istore_n k =>
    obtain ⟨v, r, rfl, hk, h⟩ := mjI1_x h
    exact Or.inl ⟨_, _, _, _, tx, h, fun G' C' K' g => ⟨hk, g⟩⟩
  | lstore k =>
    obtain ⟨v, r, rfl, hk, h⟩ := mjJ1_x h
    exact Or.inl ⟨_, _, _, _, tx, h, fun G' C' K' g => ⟨hk, g⟩⟩
  | lstore_n k =>
    obtain ⟨v, r, rfl, hk, h⟩ := mjJ1_x h
    exact Or.inl ⟨_, _, _, _, tx, h, fun G' C' K' g => ⟨hk, g⟩⟩
  | astore k =>
    rcases kR1_x h with ⟨v, r, rfl, hk, h⟩ | ⟨r, rfl, hk, h⟩
    · exact Or.inl ⟨_, _, _, _, tx, h, fun G' C' K' g => ⟨hk, g⟩⟩
    · exact Or.inl ⟨_, _, _, _, tx, h, fun G' C' K' g => ⟨hk, g⟩⟩
  | astore_n k =>
    rcases kR1_x h with ⟨v, r, rfl, hk, h⟩ | ⟨r, rfl, hk, h⟩
    · exact Or.inl ⟨_, _, _, _, tx, h, fun G' C' K' g => ⟨hk, g⟩⟩
    · exact Or.inl ⟨_, _, _, _, tx, h, fun G' C' K' g => ⟨hk, g⟩⟩
  | iinc k n =>
    obtain ⟨v, hv, h⟩ := mjLdI_x h
    refine Or.inl ⟨_, _, _, _, tx, h, fun G' C' K' g => ?_⟩
    show mjLdI _ lv _
    unfold mjLdI; rw [hv]; exact g
  | iadd =>
    obtain ⟨a, b, r, rfl, h⟩ := mjI2_x h
    exact Or.inl ⟨_, _, _, _, tx, h, fun G' C' K' g => g⟩
  | isub =>
    obtain ⟨a, b, r, rfl, h⟩ := mjI2_x h
    exact Or.inl ⟨_, _, _, _, tx, h, fun G' C' K' g => g⟩
  | imul =>
    obtain ⟨a, b, r, rfl, h⟩ := mjI2_x h
    exact Or.inl ⟨_, _, _, _, tx, h, fun G' C' K' g => g⟩
  | iand =>
    obtain ⟨a, b, r, rfl, h⟩ := mjI2_x h
    exact Or.inl ⟨_, _, _, _, tx, h, fun G' C' K' g => g⟩
  | ior =>
    obtain ⟨a, b, r, rfl, h⟩ := mjI2_x h
    exact Or.inl ⟨_, _, _, _, tx, h, fun G' C' K' g => g⟩
  | ixor =>
    obtain ⟨a, b, r, rfl, h⟩ := mjI2_x h
    exact Or.inl ⟨_, _, _, _, tx, h, fun G' C' K' g => g⟩
  | ishl =>
    obtain ⟨a, b, r, rfl, h⟩ := mjI2_x h
    exact Or.inl ⟨_, _, _, _, tx, h, fun G' C' K' g => g⟩
  | ishr =>
    obtain ⟨a, b, r, rfl, h⟩ := mjI2_x h
    exact Or.inl ⟨_, _, _, _, tx, h, fun G' C' K' g => g⟩
  | iushr =>
    obtain ⟨a, b, r, rfl, h⟩ := mjI2_x h
    exact Or.inl ⟨_, _, _, _, tx, h, fun G' C' K' g => g⟩
  | idiv =>
    obtain ⟨a, b, r, rfl, hne, h⟩ := mjI2_x h
    exact Or.inl ⟨_, _, _, _, tx, h, fun G' C' K' g => ⟨hne, g⟩⟩
  | irem =>
    obtain ⟨a, b, r, rfl, hne, h⟩ := mjI2_x h
    exact Or.inl ⟨_, _, _, _, tx, h, fun G' C' K' g => ⟨hne, g⟩⟩
  | ladd =>
    obtain ⟨a, b, r, rfl, h⟩ := mjJ2_x h
    exact Or.inl ⟨_, _, _, _, tx, h, fun G' C' K' g => g⟩
  | lsub =>
    obtain ⟨a, b, r, rfl, h⟩ := mjJ2_x h
    exact Or.inl ⟨_, _, _, _, tx, h, fun G' C' K' g => g⟩
  | lmul =>
    obtain ⟨a, b, r, rfl, h⟩ := mjJ2_x h
    exact Or.inl ⟨_, _, _, _, tx, h, fun G' C' K' g => g⟩
  | land =>
    obtain ⟨a, b, r, rfl, h⟩ := mjJ2_x h
    exact Or.inl ⟨_, _, _, _, tx, h, fun G' C' K' g => g⟩
  | lxor =>
    obtain ⟨a, b, r, rfl, h⟩ := mjJ2_x h
    exact Or.inl ⟨_, _, _, _, tx, h, fun G' C' K' g => g⟩
  | lcmp =>
    obtain ⟨a, b, r, rfl, h⟩ := mjJ2_x h
    exact Or.inl ⟨_, _, _, _, tx, h, fun G' C' K' g => g⟩
  | ldiv =>
    obtain ⟨a, b, r, rfl, hne, h⟩ := mjJ2_x h
    exact Or.inl ⟨_, _, _, _, tx, h, fun G' C' K' g => ⟨hne, g⟩⟩
  | lrem =>
    obtain ⟨a, b, r, rfl, hne, h⟩ := mjJ2_x h
    exact Or.inl ⟨_, _, _, _, tx, h, fun G' C' K' g => ⟨hne, g⟩⟩
  | ineg =>
    obtain ⟨a, r, rfl, h⟩ := mjI1_x h
    exact Or.inl ⟨_, _, _, _, tx, h, fun G' C' K' g => g⟩
  | i2l =>
    obtain ⟨a, r, rfl, h⟩ := mjI1_x h
    exact Or.inl ⟨_, _, _, _, tx, h, fun G' C' K' g => g⟩
  | i2b =>
    obtain ⟨a, r, rfl, h⟩ := mjI1_x h
    exact Or.inl ⟨_, _, _, _, tx, h, fun G' C' K' g => g⟩
  | i2c =>
    obtain ⟨a, r, rfl, h⟩ := mjI1_x h
    exact Or.inl ⟨_, _, _, _, tx, h, fun G' C' K' g => g⟩
  | pop =>
    obtain ⟨a, r, rfl, h⟩ := mjI1_x h
    exact Or.inl ⟨_, _, _, _, tx, h, fun G' C' K' g => g⟩
  | tableswitch a1 a2 a3 a4 =>
    obtain ⟨a, r, rfl, h⟩ := mjI1_x h
    exact Or.inl ⟨_, _, _, _, tx, h, fun G' C' K' g => g⟩
  | lneg =>
    obtain ⟨a, r, rfl, h⟩ := mjJ1_x h
    exact Or.inl ⟨_, _, _, _, tx, h, fun G' C' K' g => g⟩
  | l2i =>
    obtain ⟨a, r, rfl, h⟩ := mjJ1_x h
    exact Or.inl ⟨_, _, _, _, tx, h, fun G' C' K' g => g⟩
  | dup =>
    rcases mjDp_x h with ⟨a, r, rfl, h⟩ | ⟨a, r, rfl, h⟩
    · exact Or.inl ⟨_, _, _, _, tx, h, fun G' C' K' g => g⟩
    · exact Or.inl ⟨_, _, _, _, tx, h, fun G' C' K' g => g⟩
  | if_icmp cd off =>
    obtain ⟨a, b, r, rfl, h⟩ := mjI2_x h
    by_cases cc : mjCc cd a b
    · exact Or.inl ⟨_, _, _, _, tx, h.1 cc, fun G' C' K' g => ⟨fun _ => g, fun n => absurd cc n⟩⟩
    · exact Or.inl ⟨_, _, _, _, tx, h.2 cc, fun G' C' K' g => ⟨fun n => absurd n cc, fun _ => g⟩⟩
  | ifCond cd off =>
    obtain ⟨a, r, rfl, h⟩ := mjI1_x h
    by_cases cc : mjCc cd a 0
    · exact Or.inl ⟨_, _, _, _, tx, h.1 cc, fun G' C' K' g => ⟨fun _ => g, fun n => absurd cc n⟩⟩
    · exact Or.inl ⟨_, _, _, _, tx, h.2 cc, fun G' C' K' g => ⟨fun n => absurd n cc, fun _ => g⟩⟩
  | ifnull off =>
    rcases kR1_x h with ⟨a, r, rfl, h⟩ | ⟨r, rfl, h⟩
    · exact Or.inl ⟨_, _, _, _, tx, h, fun G' C' K' g => g⟩
    · exact Or.inl ⟨_, _, _, _, tx, h, fun G' C' K' g => g⟩
  | ifnonnull off =>
    rcases kR1_x h with ⟨a, r, rfl, h⟩ | ⟨r, rfl, h⟩
    · exact Or.inl ⟨_, _, _, _, tx, h, fun G' C' K' g => g⟩
    · exact Or.inl ⟨_, _, _, _, tx, h, fun G' C' K' g => g⟩
  | if_acmp cd off =>
    obtain ⟨a, b, r, rfl, hc, h⟩ := kA2_x h
    by_cases cc : (cd = .eq ↔ a = b)
    · exact Or.inl ⟨_, _, _, _, tx, h.1 cc, fun G' C' K' g => ⟨hc, fun _ => g, fun n => absurd cc n⟩⟩
    · exact Or.inl ⟨_, _, _, _, tx, h.2 cc, fun G' C' K' g => ⟨hc, fun n => absurd n cc, fun _ => g⟩⟩
  | getstatic k =>
    exact Or.inl ⟨_, _, _, _, tx, h, fun G' C' K' g => g⟩
  | getfield k =>
    obtain ⟨a, r, rfl, w⟩ := mjA1_x h
    clear h
    by_cases c : x < 1000
    · rw [if_pos c] at w
      obtain ⟨h0, w⟩ := w
      have back : ∀ (G' : kG) (C' : Nat → List Value → kS → kK → Prop) (K' : kK), ((σ.2.2.2.1 a).1 = x / 32 ∧ (match (kT x).1 with
          | 0 => G' (i + 1) lv (.int (σ.1 a (x % 32)) :: r) (kSh S T σ)
          | 1 => G' (i + 1) lv (.int (σ.1 a (x % 32)) :: r) (kSh S T σ)
          | 8 => G' (i + 1) lv (.int (σ.1 a (x % 32)) :: r) (kSh S T σ)
          | 2 => G' (i + 1) lv (.long (σ.2.1 a (x % 32)) :: r) (kSh S T σ)
          | 3 => G' (i + 1) lv (.ref (kT x).2.1 :: r) (kSh S T σ)
          | 4 => G' (i + 1) lv (.ref (a + (kT x).2.1) :: r) (kSh S T σ)
          | _ => ∃ o, σ.2.2.1 a (x % 32) = o ∧ G' (i + 1) lv (va_rf o :: r) (kSh S T σ))) → kjI q rt d (.getfield k) x z i lv (.ref a :: r) (kSh S T σ) G' C' K' := by
        intro G' C' K' g
        show (if x < 1000 then _ else _)
        rw [if_pos c]; exact g
      split at w
      · next e => exact Or.inl ⟨_, _, _, _, tx, w, fun G' C' K' g => back G' C' K' ⟨h0, by rw [e]; exact g⟩⟩
      · next e => exact Or.inl ⟨_, _, _, _, tx, w, fun G' C' K' g => back G' C' K' ⟨h0, by rw [e]; exact g⟩⟩
      · next e => exact Or.inl ⟨_, _, _, _, tx, w, fun G' C' K' g => back G' C' K' ⟨h0, by rw [e]; exact g⟩⟩
      · next e => exact Or.inl ⟨_, _, _, _, tx, w, fun G' C' K' g => back G' C' K' ⟨h0, by rw [e]; exact g⟩⟩
      · next e => exact Or.inl ⟨_, _, _, _, tx, w, fun G' C' K' g => back G' C' K' ⟨h0, by rw [e]; exact g⟩⟩
      · next e => exact Or.inl ⟨_, _, _, _, tx, w, fun G' C' K' g => back G' C' K' ⟨h0, by rw [e]; exact g⟩⟩
      · obtain ⟨o, ho, w⟩ := w
        refine Or.inl ⟨_, _, _, _, tx, w, fun G' C' K' g => back G' C' K' ⟨h0, ?_⟩⟩
        split
        · next e => exact absurd e (by assumption)
        · next e => exact absurd e (by assumption)
        · next e => exact absurd e (by assumption)
        · next e => exact absurd e (by assumption)
        · next e => exact absurd e (by assumption)
        · next e => exact absurd e (by assumption)
        · exact ⟨o, ho, g⟩
    · rw [if_neg c] at w
      obtain ⟨v, hv, w⟩ := w
      refine Or.inl ⟨_, _, _, _, tx, w, fun G' C' K' g => ?_⟩
      show (if x < 1000 then _ else _)
      rw [if_neg c]; exact ⟨v, hv, g⟩
  | putfield k =>
    rcases kPf_x h with ⟨v, a, r, rfl, h1, hc, h0⟩ | ⟨v, a, r, rfl, h1, hc, h0⟩ | ⟨v, a, r, rfl, h1, hc, h0⟩ | ⟨a, r, rfl, h1, hc, h0⟩
    · have t := kTY_i ty h1 hc
      exact Or.inl ⟨_, _, _, _, ⟨t, kEx_i⟩, h0 t, fun G' C' K' g => ⟨h1, hc, fun _ => g⟩⟩
    · have t : kTY (σ.1, mjLu σ.2.1 a (x % 32) v, σ.2.2) := kTY_l ty
      exact Or.inl ⟨_, _, _, _, ⟨t, kEx_l⟩, h0 t, fun G' C' K' g => ⟨h1, hc, fun _ => g⟩⟩
    · have t : kTY (σ.1, σ.2.1, kFu σ.2.2.1 a (x % 32) (some v), σ.2.2.2) := kTY_f ty h1 (by
        rcases hc with hc | hc | hc
        · exact Or.inl ⟨hc.1, v, rfl, hc.2⟩
        · exact Or.inr (Or.inl ⟨hc.1, fun g e => by cases e; exact hc.2⟩)
        · exact Or.inr (Or.inr ⟨hc.1, fun g e => by cases e; exact hc.2⟩))
      exact Or.inl ⟨_, _, _, _, ⟨t, kEx_f⟩, h0 t, fun G' C' K' g => ⟨h1, hc, fun _ => g⟩⟩
    · have t : kTY (σ.1, σ.2.1, kFu σ.2.2.1 a (x % 32) none, σ.2.2.2) := kTY_f ty h1 (by
        rcases hc with hc | hc
        · exact Or.inr (Or.inl ⟨hc, fun g e => by cases e⟩)
        · exact Or.inr (Or.inr ⟨hc, fun g e => by cases e⟩))
      exact Or.inl ⟨_, _, _, _, ⟨t, kEx_f⟩, h0 t, fun G' C' K' g => ⟨h1, hc, fun _ => g⟩⟩
  | arraylength =>
    obtain ⟨a, r, rfl, h⟩ := mjA1_x h
    rcases h with ⟨hk, h⟩ | ⟨t, N, f, hk, h⟩
    · exact Or.inl ⟨_, _, _, _, tx, h, fun G' C' K' g => Or.inl ⟨hk, g⟩⟩
    · exact Or.inl ⟨_, _, _, _, tx, h, fun G' C' K' g => Or.inr ⟨t, N, f, hk, g⟩⟩
  | iaload =>
    obtain ⟨j, a, r, rfl, h⟩ := mjIA_x h
    rcases h with ⟨hk, hj, h⟩ | ⟨N, f, hk, hj, v, hv, h⟩
    · exact Or.inl ⟨_, _, _, _, tx, h, fun G' C' K' g => Or.inl ⟨hk, hj, g⟩⟩
    · exact Or.inl ⟨_, _, _, _, tx, h, fun G' C' K' g => Or.inr ⟨N, f, hk, hj, v, hv, g⟩⟩
  | baload =>
    obtain ⟨j, a, r, rfl, h⟩ := mjIA_x h
    rcases h with ⟨hk, hj, h⟩ | ⟨N, f, hk, hj, v, hv, h⟩
    · exact Or.inl ⟨_, _, _, _, tx, h, fun G' C' K' g => Or.inl ⟨hk, hj, g⟩⟩
    · exact Or.inl ⟨_, _, _, _, tx, h, fun G' C' K' g => Or.inr ⟨N, f, hk, hj, v, hv, g⟩⟩
  | laload =>
    obtain ⟨j, a, r, rfl, hk, hj, h⟩ := mjIA_x h
    exact Or.inl ⟨_, _, _, _, tx, h, fun G' C' K' g => ⟨hk, hj, g⟩⟩
  | aaload =>
    obtain ⟨j, a, r, rfl, h⟩ := mjIA_x h
    rcases h with ⟨hk, hj, o, ho, h⟩ | ⟨hk, hj, h⟩
    · exact Or.inl ⟨_, _, _, _, tx, h, fun G' C' K' g => Or.inl ⟨hk, hj, o, ho, g⟩⟩
    · exact Or.inl ⟨_, _, _, _, tx, h, fun G' C' K' g => Or.inr ⟨hk, hj, g⟩⟩
  | iastore =>
    obtain ⟨v, j, a, r, rfl, hk, hj, h⟩ := mjIIA_x h
    have t := kTY_a (j := j.toNatClampNeg) (v := v) ty (Or.inl hk)
    exact Or.inl ⟨_, _, _, _, ⟨t, kEx_i⟩, h t, fun G' C' K' g => ⟨hk, hj, fun _ => g⟩⟩
  | bastore =>
    obtain ⟨v, j, a, r, rfl, hk, hj, h⟩ := mjIIA_x h
    have t := kTY_a (j := j.toNatClampNeg) (v := v) ty (Or.inr hk)
    exact Or.inl ⟨_, _, _, _, ⟨t, kEx_i⟩, h t, fun G' C' K' g => ⟨hk, hj, fun _ => g⟩⟩
  | lastore =>
    obtain ⟨v, j, a, r, rfl, hk, hj, h⟩ := mjJIA_x h
    have t : kTY (σ.1, mjLu σ.2.1 a j.toNatClampNeg v, σ.2.2) := kTY_l ty
    exact Or.inl ⟨_, _, _, _, ⟨t, kEx_l⟩, h t, fun G' C' K' g => ⟨hk, hj, fun _ => g⟩⟩
  | aastore =>
    obtain ⟨v, j, a, r, rfl, hk, hj, h⟩ := kAIA_x h
    have t := kTY_as (j := j.toNatClampNeg) ty hk.1 hk.2
    exact Or.inl ⟨_, _, _, _, ⟨t, kEx_f⟩, h t, fun G' C' K' g => ⟨hk, hj, fun _ => g⟩⟩
  | newarray at_ =>
    obtain ⟨v, r, rfl, N, hv, hN, hc, h⟩ := mjI1_x h
    have t := kTY_new (k := x) (N := N) ty (by omega) (by omega) hc.1
    exact Or.inl ⟨_, _, _, _, ⟨t, kNew_ex hc.1⟩, h t, fun G' C' K' g => ⟨N, hv, hN, ⟨Nat.le_trans hc.1 (Nat.le_add_right _ _), Nat.le_trans hc.2 (Nat.le_add_right _ _)⟩, fun _ => by rw [kNew_sh hc]; exact g⟩⟩
  | anewarray at_ =>
    obtain ⟨v, r, rfl, N, hv, hN, hc, h⟩ := mjI1_x h
    have t := kTY_new (k := 25) (N := N) ty (by omega) (by omega) hc.1
    exact Or.inl ⟨_, _, _, _, ⟨t, kNew_ex hc.1⟩, h t, fun G' C' K' g => ⟨N, hv, hN, ⟨Nat.le_trans hc.1 (Nat.le_add_right _ _), Nat.le_trans hc.2 (Nat.le_add_right _ _)⟩, fun _ => by rw [kNew_sh hc]; exact g⟩⟩
  | new at_ =>
    obtain ⟨h0, hc, h⟩ := h
    have t := kTY_val ty hc.2.1
    exact Or.inl ⟨_, _, _, _, ⟨t, kVal_ex hc.2.1⟩, h t, fun G' C' K' g => ⟨h0, ⟨hc.1, Nat.le_trans hc.2.1 (Nat.le_add_right _ _), Nat.le_trans hc.2.2.1 (Nat.le_add_right _ _), hc.2.2.2⟩, fun _ => by rw [kVal_sh ⟨hc.2.1, hc.2.2.1⟩]; exact g⟩⟩
  | invokevirtual k =>
    have h : if x = 1002 then _ else _ := h
    by_cases c : x = 1002
    · rw [if_pos c] at h
      obtain ⟨a, r, rfl, kk, hk, h⟩ := mjA1_x h
      refine Or.inl ⟨_, _, _, _, tx, h, fun G' C' K' g => ?_⟩
      show (if x = 1002 then _ else _)
      rw [if_pos c]; exact ⟨kk, hk, g⟩
    · rw [if_neg c] at h
      obtain ⟨hn, h⟩ := h
      obtain ⟨a, r, er, hr, hcat, hc⟩ := mjA1_x h
      refine Or.inr (Or.inl ⟨_, _, r, hc, fun G' C' K' g => ?_⟩)
      show (if x = 1002 then _ else _)
      rw [if_neg c]
      refine ⟨hn, ?_⟩
      rw [er]
      exact ⟨hr, hcat, g⟩
  | invokestatic k =>
    have h : if x = 1006 then _ else if x = 1008 then _ else _ := h
    by_cases c : x = 1006
    · rw [if_pos c] at h
      obtain ⟨s, sp, t, dp, n, r, rfl, a, b, cc, h1, h2, h3, h⟩ := kCpy_x h
      rcases h with ⟨h4, h⟩ | ⟨h4, h⟩
      · have t2 := kTY_cpy (a := a) (b := b) (n := cc) ty h2.1 h4
        refine Or.inl ⟨_, _, _, _, ⟨t2, kEx_i⟩, h t2, fun G' C' K' g => ?_⟩
        show (if x = 1006 then _ else _)
        rw [if_pos c]; exact ⟨a, b, cc, h1, h2, h3, Or.inl ⟨h4, fun _ => g⟩⟩
      · have t2 : kTY (σ.1, kUp σ.2.1 t (va_cpy (σ.2.1 s) (σ.2.1 t) a b cc), σ.2.2) := kTY_l ty
        refine Or.inl ⟨_, _, _, _, ⟨t2, kEx_l⟩, h t2, fun G' C' K' g => ?_⟩
        show (if x = 1006 then _ else _)
        rw [if_pos c]; exact ⟨a, b, cc, h1, h2, h3, Or.inr ⟨h4, fun _ => g⟩⟩
    · rw [if_neg c] at h
      by_cases c8 : x = 1008
      · rw [if_pos c8] at h
        obtain ⟨a, b, r, rfl, h0, h⟩ := mjI2_x h
        refine Or.inl ⟨_, _, _, _, tx, h, fun G' C' K' g => ?_⟩
        show (if x = 1006 then _ else if x = 1008 then _ else _)
        rw [if_neg c, if_pos c8]; exact ⟨h0, g⟩
      · rw [if_neg c8] at h
        obtain ⟨hn, hcat, hc⟩ := h
        refine Or.inr (Or.inl ⟨_, _, _, hc, fun G' C' K' g => ?_⟩)
        show (if x = 1006 then _ else if x = 1008 then _ else _)
        rw [if_neg c, if_neg c8]; exact ⟨hn, hcat, g⟩
  | ireturn =>
    obtain ⟨v, r, rfl, rfl, hrt, hk⟩ := mjI1_x h
    exact Or.inr (Or.inr ⟨_, hk, fun G' C' K' g => ⟨rfl, hrt, g⟩⟩)
  | lreturn =>
    obtain ⟨v, r, rfl, rfl, hrt, hk⟩ := mjJ1_x h
    exact Or.inr (Or.inr ⟨_, hk, fun G' C' K' g => ⟨rfl, hrt, g⟩⟩)
  | areturn =>
    rcases kR1_x h with ⟨v, r, rfl, rfl, hrt, hk⟩ | ⟨r, rfl, rfl, hrt, hk⟩
    · exact Or.inr (Or.inr ⟨_, hk, fun G' C' K' g => ⟨rfl, hrt, g⟩⟩)
    · exact Or.inr (Or.inr ⟨_, hk, fun G' C' K' g => ⟨rfl, hrt, g⟩⟩)
  | return_ =>
    obtain ⟨rfl, hrt, hk⟩ := h
    exact Or.inr (Or.inr ⟨_, hk, fun G' C' K' g => ⟨rfl, hrt, g⟩⟩)
  | _ => exact False.elim h
theorem kTY_sh {σ : kS} {S T : Nat} (ty : kTY σ) (h : σ.2.2.2.2.1 + σ.2.2.2.2.2.1 + T < 1000000) : kTY (kSh S T σ) := by
  obtain ⟨t1, t2, t3, t4, t5, t6, t7, t8, t9, t10⟩ := ty
  exact ⟨t1, t2, t3, t4, (by show σ.2.2.2.2.1 + (σ.2.2.2.2.2.1 + T) < 1000000; omega), t6, t7, t8, t9, t10⟩
theorem kTY_un {σ : kS} {S T : Nat} (ty : kTY (kSh S T σ)) : kTY σ := by
  obtain ⟨t1, t2, t3, t4, t5, t6, t7, t8, t9, t10⟩ := ty
  have t5 : σ.2.2.2.2.1 + (σ.2.2.2.2.2.1 + T) < 1000000 := t5
  exact ⟨t1, t2, t3, t4, by omega, t6, t7, t8, t9, t10⟩
theorem kEx_un {σ u : kS} {S T : Nat} (ex : kEx (kSh S T σ) (kSh S T u)) : kEx σ u := by
  obtain ⟨e1, e2, e3, e4⟩ := ex
  have e3 : u.2.2.2.2.1 + (u.2.2.2.2.2.1 + T) = σ.2.2.2.2.1 + (σ.2.2.2.2.2.1 + T) := e3
  have e4 : u.2.2.2.2.2.2 + S ≤ σ.2.2.2.2.2.2 + S := e4
  exact ⟨e1, e2, by omega, by omega⟩
/-- what runs in less room runs in more, and leaves what was kept back -/
theorem kjX_sh {P : Nat → List mjEn} {q : kQm} {S T : Nat} : ∀ (f d m i : Nat) (lv : mjL) (st : List Value) (σ : kS) (K : kK), kTY σ → σ.2.2.2.2.1 + σ.2.2.2.2.2.1 + T < 1000000 → kjX P q f d m i lv st σ K → kjX P q f d m i lv st (kSh S T σ) (fun v u => ∃ w, u = kSh S T w ∧ kEx σ w ∧ K v w) := by
  intro f
  induction f with
  | zero => intro d m i lv st σ K _ _ h; exact False.elim h
  | succ f ih =>
    intro d m i lv st σ K ty hT h
    unfold kjX at h ⊢
    cases he : (P m)[i]? with
    | none => rw [he] at h; exact False.elim h
    | some e0 =>
      obtain ⟨pc, ins, x, z⟩ := e0
      rw [he] at h
      dsimp only at h ⊢
      rcases kjI_sh (S := S) (T := T) ty h with ⟨i', lv', st', σ', ⟨ty', ex'⟩, h1, h2⟩ | ⟨x', ar, r, h1, h2⟩ | ⟨v, h1, h2⟩
      · have hT' : σ'.2.2.2.2.1 + σ'.2.2.2.2.2.1 + T < 1000000 := by have := ex'.2.2.1; omega
        refine h2 _ _ _ (kjX_mono f f d m i' lv' st' _ _ _ (Nat.le_refl _) (fun v u _ _ g => ?_) (kTY_sh ty' hT') (ih d m i' lv' st' σ' K ty' hT' h1))
        obtain ⟨w, e, xw, kw⟩ := g
        exact ⟨w, e, ex'.tr xw, kw⟩
      · refine h2 _ _ _ ?_
        cases d with
        | zero => exact False.elim h1
        | succ d' =>
          refine ⟨h1.1, kjX_mono f f d' x' 0 _ _ _ _ _ (Nat.le_refl _) (fun v u tu eu g _ _ => ?_) (kTY_sh ty hT) (ih d' x' 0 _ _ σ _ ty hT h1.2)⟩
          obtain ⟨w, e, xw, kw⟩ := g
          rw [e] at tu eu ⊢
          have tw := kTY_un tu
          have hT' : w.2.2.2.2.1 + w.2.2.2.2.2.1 + T < 1000000 := by have := xw.2.2.1; omega
          refine kjX_mono f f (d' + 1) m (i + 1) lv _ _ _ _ (Nat.le_refl _) (fun v2 u2 _ _ g2 => ?_) tu (ih (d' + 1) m (i + 1) lv _ w K tw hT' (kw tw xw))
          obtain ⟨w2, e2, xw2, kw2⟩ := g2
          exact ⟨w2, e2, xw.tr xw2, kw2⟩
      · exact h2 _ _ _ ⟨σ, rfl, kEx.rf, h1⟩
theorem kjY_sh {P : Nat → List mjEn} {q : kQm} {S T d m i : Nat} {lv : mjL} {st : List Value} {σ : kS} {K : kK} (ty : kTY σ) (hT : σ.2.2.2.2.1 + σ.2.2.2.2.2.1 + T < 1000000) (h : kjY P q d m i lv st σ K) : kjY P q d m i lv st (kSh S T σ) (fun v u => ∃ w, u = kSh S T w ∧ kEx σ w ∧ K v w) := by
  obtain ⟨f, h⟩ := h
  exact ⟨f, kjX_sh f d m i lv st σ K ty hT h⟩
/-- with so much room less -/
abbrev kUn (S T : Nat) (σ : kS) : kS := (σ.1, σ.2.1, σ.2.2.1, σ.2.2.2.1, σ.2.2.2.2.1, σ.2.2.2.2.2.1 - T, σ.2.2.2.2.2.2 - S)
theorem kSh_un {σ : kS} {S T : Nat} (hS : S ≤ σ.2.2.2.2.2.2) (hT : T ≤ σ.2.2.2.2.2.1) : kSh S T (kUn S T σ) = σ := by
  have h1 : σ.2.2.2.2.2.1 - T + T = σ.2.2.2.2.2.1 := by omega
  have h2 : σ.2.2.2.2.2.2 - S + S = σ.2.2.2.2.2.2 := by omega
  unfold kSh kUn
  dsimp only
  rw [h1, h2]
theorem kUn_sh {σ : kS} {S T : Nat} : kUn S T (kSh S T σ) = σ := by
  have h1 : σ.2.2.2.2.2.1 + T - T = σ.2.2.2.2.2.1 := by omega
  have h2 : σ.2.2.2.2.2.2 + S - S = σ.2.2.2.2.2.2 := by omega
  unfold kSh kUn
  dsimp only
  rw [h1, h2]
theorem kTY_kUn {σ : kS} {S T : Nat} (ty : kTY σ) : kTY (kUn S T σ) := by
  obtain ⟨t1, t2, t3, t4, t5, t6, t7, t8, t9, t10⟩ := ty
  exact ⟨t1, t2, t3, t4, (by show σ.2.2.2.2.1 + (σ.2.2.2.2.2.1 - T) < 1000000; omega), t6, t7, t8, t9, t10⟩
/-- a row with room kept back -/
theorem kjY_un {P : Nat → List mjEn} {q : kQm} {S T d m i : Nat} {lv : mjL} {st : List Value} {σ : kS} {K : kK} (ty : kTY σ) (hS : S ≤ σ.2.2.2.2.2.2) (hT : T ≤ σ.2.2.2.2.2.1) (h : kjY P q d m i lv st (kUn S T σ) K) : kjY P q d m i lv st σ (fun v u => kTY (kUn S T u) ∧ (S ≤ u.2.2.2.2.2.2 ∧ T ≤ u.2.2.2.2.2.1) ∧ K v (kUn S T u)) := by
  have t5 := ty.2.2.2.2.1
  have e := kSh_un hS hT
  have a := kjY_sh (S := S) (T := T) (kTY_kUn (S := S) (T := T) ty) (by show σ.2.2.2.2.1 + (σ.2.2.2.2.2.1 - T) + T < 1000000; omega) h
  rw [e] at a
  refine kjY_mono ty (fun v u tu eu g => ?_) a
  obtain ⟨w, ew, xw, kw⟩ := g
  rw [ew, kUn_sh]
  rw [ew] at tu
  exact ⟨kTY_un tu, ⟨Nat.le_add_left _ _, Nat.le_add_left _ _⟩, kw⟩
