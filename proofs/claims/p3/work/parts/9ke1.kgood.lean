/-! What is made is a row or a value; handles behind the last are named anew. -/
def GKd (σ : kS) : Prop := ∀ h, 76 ≤ h → h < σ.2.2.2.2.1 → (σ.2.2.2.1 h).1 = 11 ∨ (σ.2.2.2.1 h).1 = 20 ∨ (σ.2.2.2.1 h).1 = 21 ∨ (σ.2.2.2.1 h).1 = 23 ∨ (σ.2.2.2.1 h).1 = 25
theorem GKd_new {σ : kS} {k N : Nat} (g : GKd σ) (hk : k = 20 ∨ k = 21 ∨ k = 23 ∨ k = 25) : GKd (kNew σ k N) := by
  intro h h1 h2
  have h2 : h < σ.2.2.2.2.1 + 1 := h2
  show (kUp σ.2.2.2.1 σ.2.2.2.2.1 (k, N) h).1 = 11 ∨ (kUp σ.2.2.2.1 σ.2.2.2.2.1 (k, N) h).1 = 20 ∨ (kUp σ.2.2.2.1 σ.2.2.2.2.1 (k, N) h).1 = 21 ∨ (kUp σ.2.2.2.1 σ.2.2.2.2.1 (k, N) h).1 = 23 ∨ (kUp σ.2.2.2.1 σ.2.2.2.2.1 (k, N) h).1 = 25
  by_cases e : h = σ.2.2.2.2.1
  · subst e; rw [kUp_s]; exact Or.inr hk
  · rw [kUp_n e]; exact g h h1 (by omega)
theorem GKd_val {σ : kS} (g : GKd σ) : GKd (kVal σ) := by
  intro h h1 h2
  have h2 : h < σ.2.2.2.2.1 + 1 := h2
  show (kUp σ.2.2.2.1 σ.2.2.2.2.1 (11, 0) h).1 = 11 ∨ (kUp σ.2.2.2.1 σ.2.2.2.2.1 (11, 0) h).1 = 20 ∨ (kUp σ.2.2.2.1 σ.2.2.2.2.1 (11, 0) h).1 = 21 ∨ (kUp σ.2.2.2.1 σ.2.2.2.2.1 (11, 0) h).1 = 23 ∨ (kUp σ.2.2.2.1 σ.2.2.2.2.1 (11, 0) h).1 = 25
  by_cases e : h = σ.2.2.2.2.1
  · subst e; rw [kUp_s]; exact Or.inl rfl
  · rw [kUp_n e]; exact g h h1 (by omega)
set_option maxHeartbeats 4000000 in
/-- an instruction goes on, calls, or ends -/
theorem kjI_nfg {q : kQm} {rt d : Nat} {ins : Instr} {x : Nat} {z : Int} {i : Nat} {lv : mjL} {st : List Value} {σ : kS} {G : kG} {C : Nat → List Value → kS → kK → Prop} {K : kK} (ty : kTY σ) (gd : GKd σ) (h : kjI q rt d ins x z i lv st σ G C K) :
    (∃ i' lv' st' σ', (kTY σ' ∧ kEx σ σ' ∧ GKd σ') ∧ G i' lv' st' σ' ∧ ∀ (G' : kG) (C' : Nat → List Value → kS → kK → Prop) (K' : kK), G' i' lv' st' σ' → kjI q rt d ins x z i lv st σ G' C' K') ∨
    (∃ x' ar r, C x' ar σ (fun v u => kTY u → kEx σ u → G (i + 1) lv (mjPush v r) u) ∧ ∀ (G' : kG) (C' : Nat → List Value → kS → kK → Prop) (K' : kK), C' x' ar σ (fun v u => kTY u → kEx σ u → G' (i + 1) lv (mjPush v r) u) → kjI q rt d ins x z i lv st σ G' C' K') ∨
    (∃ v, K v σ ∧ ∀ (G' : kG) (C' : Nat → List Value → kS → kK → Prop) (K' : kK), K' v σ → kjI q rt d ins x z i lv st σ G' C' K') := by
  have tx : kTY σ ∧ kEx σ σ ∧ GKd σ := ⟨ty, kEx.rf, gd⟩
  cases ins with
  | iconst n =>
    exact Or.inl ⟨_, _, _, _, tx, h, fun G' C' K' g => g⟩
  | bipush n =>
    exact Or.inl ⟨_, _, _, _, tx, h, fun G' C' K' g => g⟩
  | sipush n =>
    exact Or.inl ⟨_, _, _, _, tx, h, fun G' C' K' g => g⟩
  | lconst n =>
    exact Or.inl ⟨_, _, _, _, tx, h, fun G' C' K' g => g⟩
  | ldc2_w n =>
    exact Or.inl ⟨_, _, _, _, tx, h, fun G' C' K' g => g⟩
  | goto n =>
    exact Or.inl ⟨_, _, _, _, tx, h, fun G' C' K' g => g⟩
  | aconst_null =>
    exact Or.inl ⟨_, _, _, _, tx, h, fun G' C' K' g => g⟩
  | ldc n =>
    have h : if x = 0 then _ else _ := h
    by_cases c : x = 0
    · rw [if_pos c] at h; exact Or.inl ⟨_, _, _, _, tx, h, fun G' C' K' g => by show (if x = 0 then _ else _); rw [if_pos c]; exact g⟩
    · rw [if_neg c] at h; exact Or.inl ⟨_, _, _, _, tx, h.2, fun G' C' K' g => by show (if x = 0 then _ else _); rw [if_neg c]; exact ⟨h.1, g⟩⟩
  | ldc_w n =>
    have h : if x = 0 then _ else _ := h
    by_cases c : x = 0
    · rw [if_pos c] at h; exact Or.inl ⟨_, _, _, _, tx, h, fun G' C' K' g => by show (if x = 0 then _ else _); rw [if_pos c]; exact g⟩
    · rw [if_neg c] at h; exact Or.inl ⟨_, _, _, _, tx, h.2, fun G' C' K' g => by show (if x = 0 then _ else _); rw [if_neg c]; exact ⟨h.1, g⟩⟩
  | iload k =>
    obtain ⟨v, hv, h⟩ := mjLdI_x h
    refine Or.inl ⟨_, _, _, _, tx, h, fun G' C' K' g => ?_⟩
    show mjLdI _ lv _
    unfold mjLdI; rw [hv]; exact g
  | iload_n k =>
    obtain ⟨v, hv, h⟩ := mjLdI_x h
    refine Or.inl ⟨_, _, _, _, tx, h, fun G' C' K' g => ?_⟩
    show mjLdI _ lv _
    unfold mjLdI; rw [hv]; exact g
  | lload k =>
    obtain ⟨v, hv, h⟩ := mjLdL_x h
    refine Or.inl ⟨_, _, _, _, tx, h, fun G' C' K' g => ?_⟩
    show mjLdL _ lv _
    unfold mjLdL; rw [hv]; exact g
  | lload_n k =>
    obtain ⟨v, hv, h⟩ := mjLdL_x h
    refine Or.inl ⟨_, _, _, _, tx, h, fun G' C' K' g => ?_⟩
    show mjLdL _ lv _
    unfold mjLdL; rw [hv]; exact g
  | aload k =>
    have h : kLdA k lv (fun v => G (i + 1) lv (v :: st) σ) := h
    rcases kLdA_x h with ⟨v, hv, h⟩ | ⟨hv, h⟩
    · refine Or.inl ⟨_, _, _, _, tx, h, fun G' C' K' g => ?_⟩
      show kLdA k lv (fun v => G' (i + 1) lv (v :: st) σ)
      unfold kLdA; rw [hv]; exact g
    · refine Or.inl ⟨_, _, _, _, tx, h, fun G' C' K' g => ?_⟩
      show kLdA k lv (fun v => G' (i + 1) lv (v :: st) σ)
      unfold kLdA; rw [hv]; exact g
  | aload_n k =>
    have h : kLdA k lv (fun v => G (i + 1) lv (v :: st) σ) := h
    rcases kLdA_x h with ⟨v, hv, h⟩ | ⟨hv, h⟩
    · refine Or.inl ⟨_, _, _, _, tx, h, fun G' C' K' g => ?_⟩
      show kLdA k lv (fun v => G' (i + 1) lv (v :: st) σ)
      unfold kLdA; rw [hv]; exact g
    · refine Or.inl ⟨_, _, _, _, tx, h, fun G' C' K' g => ?_⟩
      show kLdA k lv (fun v => G' (i + 1) lv (v :: st) σ)
      unfold kLdA; rw [hv]; exact g
  | istore k =>
    obtain ⟨v, r, rfl, hk, h⟩ := mjI1_x h
    exact Or.inl ⟨_, _, _, _, tx, h, fun G' C' K' g => ⟨hk, g⟩⟩
  | istore_n k =>
    obtain ⟨v, r, rfl, hk, h⟩ := mjI1_x h
    exact Or.inl ⟨_, _, _, _, tx, h, fun G' C' K' g => ⟨hk, g⟩⟩
  | lstore k =>
    obtain ⟨v, r, rfl, hk, h⟩ := mjJ1_x h
    exact Or.inl ⟨_, _, _, _, tx, h, fun G' C' K' g => ⟨hk, g⟩⟩
  | lstore_n k =>
    obtain ⟨v, r, rfl, hk, h⟩ := mjJ1_x h
    exact Or.inl ⟨_, _, _, _, tx, h, fun G' C' K' g => ⟨hk, g⟩⟩
  | astore k =>
    rcases kR1_x h with ⟨v, r, rfl, hk, h⟩ | ⟨r, rfl, hk, h⟩
    · exact Or.inl ⟨_, _, _, _, tx, h, fun G' C' K' g => ⟨hk, g⟩⟩
    · exact Or.inl ⟨_, _, _, _, tx, h, fun G' C' K' g => ⟨hk, g⟩⟩
  | astore_n k =>
    rcases kR1_x h with ⟨v, r, rfl, hk, h⟩ | ⟨r, rfl, hk, h⟩
    · exact Or.inl ⟨_, _, _, _, tx, h, fun G' C' K' g => ⟨hk, g⟩⟩
    · exact Or.inl ⟨_, _, _, _, tx, h, fun G' C' K' g => ⟨hk, g⟩⟩
  | iinc k n =>
    obtain ⟨v, hv, h⟩ := mjLdI_x h
    refine Or.inl ⟨_, _, _, _, tx, h, fun G' C' K' g => ?_⟩
    show mjLdI _ lv _
    unfold mjLdI; rw [hv]; exact g
  | iadd =>
    obtain ⟨a, b, r, rfl, h⟩ := mjI2_x h
    exact Or.inl ⟨_, _, _, _, tx, h, fun G' C' K' g => g⟩
  | isub =>
    obtain ⟨a, b, r, rfl, h⟩ := mjI2_x h
    exact Or.inl ⟨_, _, _, _, tx, h, fun G' C' K' g => g⟩
  | imul =>
    obtain ⟨a, b, r, rfl, h⟩ := mjI2_x h
    exact Or.inl ⟨_, _, _, _, tx, h, fun G' C' K' g => g⟩
  | iand =>
    obtain ⟨a, b, r, rfl, h⟩ := mjI2_x h
    exact Or.inl ⟨_, _, _, _, tx, h, fun G' C' K' g => g⟩
  | ior =>
    obtain ⟨a, b, r, rfl, h⟩ := mjI2_x h
    exact Or.inl ⟨_, _, _, _, tx, h, fun G' C' K' g => g⟩
  | ixor =>
    obtain ⟨a, b, r, rfl, h⟩ := mjI2_x h
    exact Or.inl ⟨_, _, _, _, tx, h, fun G' C' K' g => g⟩
  | ishl =>
    obtain ⟨a, b, r, rfl, h⟩ := mjI2_x h
    exact Or.inl ⟨_, _, _, _, tx, h, fun G' C' K' g => g⟩
  | ishr =>
    obtain ⟨a, b, r, rfl, h⟩ := mjI2_x h
    exact Or.inl ⟨_, _, _, _, tx, h, fun G' C' K' g => g⟩
  | iushr =>
    obtain ⟨a, b, r, rfl, h⟩ := mjI2_x h
    exact Or.inl ⟨_, _, _, _, tx, h, fun G' C' K' g => g⟩
  | idiv =>
    obtain ⟨a, b, r, rfl, hne, h⟩ := mjI2_x h
    exact Or.inl ⟨_, _, _, _, tx, h, fun G' C' K' g => ⟨hne, g⟩⟩
  | irem =>
    obtain ⟨a, b, r, rfl, hne, h⟩ := mjI2_x h
    exact Or.inl ⟨_, _, _, _, tx, h, fun G' C' K' g => ⟨hne, g⟩⟩
  | ladd =>
    obtain ⟨a, b, r, rfl, h⟩ := mjJ2_x h
    exact Or.inl ⟨_, _, _, _, tx, h, fun G' C' K' g => g⟩
  | lsub =>
    obtain ⟨a, b, r, rfl, h⟩ := mjJ2_x h
    exact Or.inl ⟨_, _, _, _, tx, h, fun G' C' K' g => g⟩
  | lmul =>
    obtain ⟨a, b, r, rfl, h⟩ := mjJ2_x h
    exact Or.inl ⟨_, _, _, _, tx, h, fun G' C' K' g => g⟩
  | land =>
    obtain ⟨a, b, r, rfl, h⟩ := mjJ2_x h
    exact Or.inl ⟨_, _, _, _, tx, h, fun G' C' K' g => g⟩
  | lxor =>
    obtain ⟨a, b, r, rfl, h⟩ := mjJ2_x h
    exact Or.inl ⟨_, _, _, _, tx, h, fun G' C' K' g => g⟩
  | lcmp =>
    obtain ⟨a, b, r, rfl, h⟩ := mjJ2_x h
    exact Or.inl ⟨_, _, _, _, tx, h, fun G' C' K' g => g⟩
  | ldiv =>
    obtain ⟨a, b, r, rfl, hne, h⟩ := mjJ2_x h
    exact Or.inl ⟨_, _, _, _, tx, h, fun G' C' K' g => ⟨hne, g⟩⟩
  | lrem =>
    obtain ⟨a, b, r, rfl, hne, h⟩ := mjJ2_x h
    exact Or.inl ⟨_, _, _, _, tx, h, fun G' C' K' g => ⟨hne, g⟩⟩
  | ineg =>
    obtain ⟨a, r, rfl, h⟩ := mjI1_x h
    exact Or.inl ⟨_, _, _, _, tx, h, fun G' C' K' g => g⟩
  | i2l =>
    obtain ⟨a, r, rfl, h⟩ := mjI1_x h
    exact Or.inl ⟨_, _, _, _, tx, h, fun G' C' K' g => g⟩
  | i2b =>
    obtain ⟨a, r, rfl, h⟩ := mjI1_x h
    exact Or.inl ⟨_, _, _, _, tx, h, fun G' C' K' g => g⟩
  | i2c =>
    obtain ⟨a, r, rfl, h⟩ := mjI1_x h
    exact Or.inl ⟨_, _, _, _, tx, h, fun G' C' K' g => g⟩
  | pop =>
    obtain ⟨a, r, rfl, h⟩ := mjI1_x h
    exact Or.inl ⟨_, _, _, _, tx, h, fun G' C' K' g => g⟩
  | tableswitch a1 a2 a3 a4 =>
    obtain ⟨a, r, rfl, h⟩ := mjI1_x h
    exact Or.inl ⟨_, _, _, _, tx, h, fun G' C' K' g => g⟩
  | lneg =>
    obtain ⟨a, r, rfl, h⟩ := mjJ1_x h
    exact Or.inl ⟨_, _, _, _, tx, h, fun G' C' K' g => g⟩
  | l2i =>
    obtain ⟨a, r, rfl, h⟩ := mjJ1_x h
    exact Or.inl ⟨_, _, _, _, tx, h, fun G' C' K' g => g⟩
  | dup =>
    rcases mjDp_x h with ⟨a, r, rfl, h⟩ | ⟨a, r, rfl, h⟩
    · exact Or.inl ⟨_, _, _, _, tx, h, fun G' C' K' g => g⟩
    · exact Or.inl ⟨_, _, _, _, tx, h, fun G' C' K' g => g⟩
  | if_icmp cd off =>
    obtain ⟨a, b, r, rfl, h⟩ := mjI2_x h
    by_cases cc : mjCc cd a b
    · exact Or.inl ⟨_, _, _, _, tx, h.1 cc, fun G' C' K' g => ⟨fun _ => g, fun n => absurd cc n⟩⟩
    · exact Or.inl ⟨_, _, _, _, tx, h.2 cc, fun G' C' K' g => ⟨fun n => absurd n cc, fun _ => g⟩⟩
  | ifCond cd off =>
    obtain ⟨a, r, rfl, h⟩ := mjI1_x h
    by_cases cc : mjCc cd a 0
    · exact Or.inl ⟨_, _, _, _, tx, h.1 cc, fun G' C' K' g => ⟨fun _ => g, fun n => absurd cc n⟩⟩
    · exact Or.inl ⟨_, _, _, _, tx, h.2 cc, fun G' C' K' g => ⟨fun n => absurd n cc, fun _ => g⟩⟩
  | ifnull off =>
    rcases kR1_x h with ⟨a, r, rfl, h⟩ | ⟨r, rfl, h⟩
    · exact Or.inl ⟨_, _, _, _, tx, h, fun G' C' K' g => g⟩
    · exact Or.inl ⟨_, _, _, _, tx, h, fun G' C' K' g => g⟩
  | ifnonnull off =>
    rcases kR1_x h with ⟨a, r, rfl, h⟩ | ⟨r, rfl, h⟩
    · exact Or.inl ⟨_, _, _, _, tx, h, fun G' C' K' g => g⟩
    · exact Or.inl ⟨_, _, _, _, tx, h, fun G' C' K' g => g⟩
  | if_acmp cd off =>
    obtain ⟨a, b, r, rfl, hc, h⟩ := kA2_x h
    by_cases cc : (cd = .eq ↔ a = b)
    · exact Or.inl ⟨_, _, _, _, tx, h.1 cc, fun G' C' K' g => ⟨hc, fun _ => g, fun n => absurd cc n⟩⟩
    · exact Or.inl ⟨_, _, _, _, tx, h.2 cc, fun G' C' K' g => ⟨hc, fun n => absurd n cc, fun _ => g⟩⟩
  | getstatic k =>
    exact Or.inl ⟨_, _, _, _, tx, h, fun G' C' K' g => g⟩
  | getfield k =>
    obtain ⟨a, r, rfl, w⟩ := mjA1_x h
    clear h
    by_cases c : x < 1000
    · rw [if_pos c] at w
      obtain ⟨h0, w⟩ := w
      have back : ∀ (G' : kG) (C' : Nat → List Value → kS → kK → Prop) (K' : kK), ((σ.2.2.2.1 a).1 = x / 32 ∧ (match (kT x).1 with
          | 0 => G' (i + 1) lv (.int (σ.1 a (x % 32)) :: r) σ
          | 1 => G' (i + 1) lv (.int (σ.1 a (x % 32)) :: r) σ
          | 8 => G' (i + 1) lv (.int (σ.1 a (x % 32)) :: r) σ
          | 2 => G' (i + 1) lv (.long (σ.2.1 a (x % 32)) :: r) σ
          | 3 => G' (i + 1) lv (.ref (kT x).2.1 :: r) σ
          | 4 => G' (i + 1) lv (.ref (a + (kT x).2.1) :: r) σ
          | _ => ∃ o, σ.2.2.1 a (x % 32) = o ∧ G' (i + 1) lv (va_rf o :: r) σ)) → kjI q rt d (.getfield k) x z i lv (.ref a :: r) σ G' C' K' := by
        intro G' C' K' g
        show (if x < 1000 then _ else _)
        rw [if_pos c]; exact g
      split at w
      · next e => exact Or.inl ⟨_, _, _, _, tx, w, fun G' C' K' g => back G' C' K' ⟨h0, by rw [e]; exact g⟩⟩
      · next e => exact Or.inl ⟨_, _, _, _, tx, w, fun G' C' K' g => back G' C' K' ⟨h0, by rw [e]; exact g⟩⟩
      · next e => exact Or.inl ⟨_, _, _, _, tx, w, fun G' C' K' g => back G' C' K' ⟨h0, by rw [e]; exact g⟩⟩
      · next e => exact Or.inl ⟨_, _, _, _, tx, w, fun G' C' K' g => back G' C' K' ⟨h0, by rw [e]; exact g⟩⟩
      · next e => exact Or.inl ⟨_, _, _, _, tx, w, fun G' C' K' g => back G' C' K' ⟨h0, by rw [e]; exact g⟩⟩
      · next e => exact Or.inl ⟨_, _, _, _, tx, w, fun G' C' K' g => back G' C' K' ⟨h0, by rw [e]; exact g⟩⟩
      · obtain ⟨o, ho, w⟩ := w
        refine Or.inl ⟨_, _, _, _, tx, w, fun G' C' K' g => back G' C' K' ⟨h0, ?_⟩⟩
        split
        · next e => exact absurd e (by assumption)
        · next e => exact absurd e (by assumption)
        · next e => exact absurd e (by assumption)
        · next e => exact absurd e (by assumption)
        · next e => exact absurd e (by assumption)
        · next e => exact absurd e (by assumption)
        · exact ⟨o, ho, g⟩
    · rw [if_neg c] at w
      obtain ⟨v, hv, w⟩ := w
      refine Or.inl ⟨_, _, _, _, tx, w, fun G' C' K' g => ?_⟩
      show (if x < 1000 then _ else _)
      rw [if_neg c]; exact ⟨v, hv, g⟩
  | putfield k =>
    rcases kPf_x h with ⟨v, a, r, rfl, h1, hc, h0⟩ | ⟨v, a, r, rfl, h1, hc, h0⟩ | ⟨v, a, r, rfl, h1, hc, h0⟩ | ⟨a, r, rfl, h1, hc, h0⟩
    · have t := kTY_i ty h1 hc
      exact Or.inl ⟨_, _, _, _, ⟨t, kEx_i, gd⟩, h0 t, fun G' C' K' g => ⟨h1, hc, fun _ => g⟩⟩
    · have t : kTY (σ.1, mjLu σ.2.1 a (x % 32) v, σ.2.2) := kTY_l ty
      exact Or.inl ⟨_, _, _, _, ⟨t, kEx_l, gd⟩, h0 t, fun G' C' K' g => ⟨h1, hc, fun _ => g⟩⟩
    · have t : kTY (σ.1, σ.2.1, kFu σ.2.2.1 a (x % 32) (some v), σ.2.2.2) := kTY_f ty h1 (by
        rcases hc with hc | hc | hc
        · exact Or.inl ⟨hc.1, v, rfl, hc.2⟩
        · exact Or.inr (Or.inl ⟨hc.1, fun g e => by cases e; exact hc.2⟩)
        · exact Or.inr (Or.inr ⟨hc.1, fun g e => by cases e; exact hc.2⟩))
      exact Or.inl ⟨_, _, _, _, ⟨t, kEx_f, gd⟩, h0 t, fun G' C' K' g => ⟨h1, hc, fun _ => g⟩⟩
    · have t : kTY (σ.1, σ.2.1, kFu σ.2.2.1 a (x % 32) none, σ.2.2.2) := kTY_f ty h1 (by
        rcases hc with hc | hc
        · exact Or.inr (Or.inl ⟨hc, fun g e => by cases e⟩)
        · exact Or.inr (Or.inr ⟨hc, fun g e => by cases e⟩))
      exact Or.inl ⟨_, _, _, _, ⟨t, kEx_f, gd⟩, h0 t, fun G' C' K' g => ⟨h1, hc, fun _ => g⟩⟩
  | arraylength =>
    obtain ⟨a, r, rfl, h⟩ := mjA1_x h
    rcases h with ⟨hk, h⟩ | ⟨t, N, f, hk, h⟩
    · exact Or.inl ⟨_, _, _, _, tx, h, fun G' C' K' g => Or.inl ⟨hk, g⟩⟩
    · exact Or.inl ⟨_, _, _, _, tx, h, fun G' C' K' g => Or.inr ⟨t, N, f, hk, g⟩⟩
  | iaload =>
    obtain ⟨j, a, r, rfl, h⟩ := mjIA_x h
    rcases h with ⟨hk, hj, h⟩ | ⟨N, f, hk, hj, v, hv, h⟩
    · exact Or.inl ⟨_, _, _, _, tx, h, fun G' C' K' g => Or.inl ⟨hk, hj, g⟩⟩
    · exact Or.inl ⟨_, _, _, _, tx, h, fun G' C' K' g => Or.inr ⟨N, f, hk, hj, v, hv, g⟩⟩
  | baload =>
    obtain ⟨j, a, r, rfl, h⟩ := mjIA_x h
    rcases h with ⟨hk, hj, h⟩ | ⟨N, f, hk, hj, v, hv, h⟩
    · exact Or.inl ⟨_, _, _, _, tx, h, fun G' C' K' g => Or.inl ⟨hk, hj, g⟩⟩
    · exact Or.inl ⟨_, _, _, _, tx, h, fun G' C' K' g => Or.inr ⟨N, f, hk, hj, v, hv, g⟩⟩
  | laload =>
    obtain ⟨j, a, r, rfl, hk, hj, h⟩ := mjIA_x h
    exact Or.inl ⟨_, _, _, _, tx, h, fun G' C' K' g => ⟨hk, hj, g⟩⟩
  | aaload =>
    obtain ⟨j, a, r, rfl, h⟩ := mjIA_x h
    rcases h with ⟨hk, hj, o, ho, h⟩ | ⟨hk, hj, h⟩
    · exact Or.inl ⟨_, _, _, _, tx, h, fun G' C' K' g => Or.inl ⟨hk, hj, o, ho, g⟩⟩
    · exact Or.inl ⟨_, _, _, _, tx, h, fun G' C' K' g => Or.inr ⟨hk, hj, g⟩⟩
  | iastore =>
    obtain ⟨v, j, a, r, rfl, hk, hj, h⟩ := mjIIA_x h
    have t := kTY_a (j := j.toNatClampNeg) (v := v) ty (Or.inl hk)
    exact Or.inl ⟨_, _, _, _, ⟨t, kEx_i, gd⟩, h t, fun G' C' K' g => ⟨hk, hj, fun _ => g⟩⟩
  | bastore =>
    obtain ⟨v, j, a, r, rfl, hk, hj, h⟩ := mjIIA_x h
    have t := kTY_a (j := j.toNatClampNeg) (v := v) ty (Or.inr hk)
    exact Or.inl ⟨_, _, _, _, ⟨t, kEx_i, gd⟩, h t, fun G' C' K' g => ⟨hk, hj, fun _ => g⟩⟩
  | lastore =>
    obtain ⟨v, j, a, r, rfl, hk, hj, h⟩ := mjJIA_x h
    have t : kTY (σ.1, mjLu σ.2.1 a j.toNatClampNeg v, σ.2.2) := kTY_l ty
    exact Or.inl ⟨_, _, _, _, ⟨t, kEx_l, gd⟩, h t, fun G' C' K' g => ⟨hk, hj, fun _ => g⟩⟩
  | aastore =>
    obtain ⟨v, j, a, r, rfl, hk, hj, h⟩ := kAIA_x h
    have t := kTY_as (j := j.toNatClampNeg) ty hk.1 hk.2
    exact Or.inl ⟨_, _, _, _, ⟨t, kEx_f, gd⟩, h t, fun G' C' K' g => ⟨hk, hj, fun _ => g⟩⟩
  | newarray at_ =>
    obtain ⟨v, r, rfl, N, hv, hN, hc, h⟩ := mjI1_x h
    have t := kTY_new (k := x) (N := N) ty (by omega) (by omega) hc.1
    exact Or.inl ⟨_, _, _, _, ⟨t, kNew_ex hc.1, GKd_new gd (by omega)⟩, h t, fun G' C' K' g => ⟨N, hv, hN, hc, fun _ => g⟩⟩
  | anewarray at_ =>
    obtain ⟨v, r, rfl, N, hv, hN, hc, h⟩ := mjI1_x h
    have t := kTY_new (k := 25) (N := N) ty (by omega) (by omega) hc.1
    exact Or.inl ⟨_, _, _, _, ⟨t, kNew_ex hc.1, GKd_new gd (by omega)⟩, h t, fun G' C' K' g => ⟨N, hv, hN, hc, fun _ => g⟩⟩
  | new at_ =>
    obtain ⟨h0, hc, h⟩ := h
    have t := kTY_val ty hc.2.1
    exact Or.inl ⟨_, _, _, _, ⟨t, kVal_ex hc.2.1, GKd_val gd⟩, h t, fun G' C' K' g => ⟨h0, hc, fun _ => g⟩⟩
  | invokevirtual k =>
    have h : if x = 1002 then _ else _ := h
    by_cases c : x = 1002
    · rw [if_pos c] at h
      obtain ⟨a, r, rfl, kk, hk, h⟩ := mjA1_x h
      refine Or.inl ⟨_, _, _, _, tx, h, fun G' C' K' g => ?_⟩
      show (if x = 1002 then _ else _)
      rw [if_pos c]; exact ⟨kk, hk, g⟩
    · rw [if_neg c] at h
      obtain ⟨hn, h⟩ := h
      obtain ⟨a, r, er, hr, hcat, hc⟩ := mjA1_x h
      refine Or.inr (Or.inl ⟨_, _, r, hc, fun G' C' K' g => ?_⟩)
      show (if x = 1002 then _ else _)
      rw [if_neg c]
      refine ⟨hn, ?_⟩
      rw [er]
      exact ⟨hr, hcat, g⟩
  | invokestatic k =>
    have h : if x = 1006 then _ else if x = 1008 then _ else _ := h
    by_cases c : x = 1006
    · rw [if_pos c] at h
      obtain ⟨s, sp, t, dp, n, r, rfl, a, b, cc, h1, h2, h3, h⟩ := kCpy_x h
      rcases h with ⟨h4, h⟩ | ⟨h4, h⟩
      · have t2 := kTY_cpy (a := a) (b := b) (n := cc) ty h2.1 h4
        refine Or.inl ⟨_, _, _, _, ⟨t2, kEx_i, gd⟩, h t2, fun G' C' K' g => ?_⟩
        show (if x = 1006 then _ else _)
        rw [if_pos c]; exact ⟨a, b, cc, h1, h2, h3, Or.inl ⟨h4, fun _ => g⟩⟩
      · have t2 : kTY (σ.1, kUp σ.2.1 t (va_cpy (σ.2.1 s) (σ.2.1 t) a b cc), σ.2.2) := kTY_l ty
        refine Or.inl ⟨_, _, _, _, ⟨t2, kEx_l, gd⟩, h t2, fun G' C' K' g => ?_⟩
        show (if x = 1006 then _ else _)
        rw [if_pos c]; exact ⟨a, b, cc, h1, h2, h3, Or.inr ⟨h4, fun _ => g⟩⟩
    · rw [if_neg c] at h
      by_cases c8 : x = 1008
      · rw [if_pos c8] at h
        obtain ⟨a, b, r, rfl, h0, h⟩ := mjI2_x h
        refine Or.inl ⟨_, _, _, _, tx, h, fun G' C' K' g => ?_⟩
        show (if x = 1006 then _ else if x = 1008 then _ else _)
        rw [if_neg c, if_pos c8]; exact ⟨h0, g⟩
      · rw [if_neg c8] at h
        obtain ⟨hn, hcat, hc⟩ := h
        refine Or.inr (Or.inl ⟨_, _, _, hc, fun G' C' K' g => ?_⟩)
        show (if x = 1006 then _ else if x = 1008 then _ else _)
        rw [if_neg c, if_neg c8]; exact ⟨hn, hcat, g⟩
  | ireturn =>
    obtain ⟨v, r, rfl, rfl, hrt, hk⟩ := mjI1_x h
    exact Or.inr (Or.inr ⟨_, hk, fun G' C' K' g => ⟨rfl, hrt, g⟩⟩)
  | lreturn =>
    obtain ⟨v, r, rfl, rfl, hrt, hk⟩ := mjJ1_x h
    exact Or.inr (Or.inr ⟨_, hk, fun G' C' K' g => ⟨rfl, hrt, g⟩⟩)
  | areturn =>
    rcases kR1_x h with ⟨v, r, rfl, rfl, hrt, hk⟩ | ⟨r, rfl, rfl, hrt, hk⟩
    · exact Or.inr (Or.inr ⟨_, hk, fun G' C' K' g => ⟨rfl, hrt, g⟩⟩)
    · exact Or.inr (Or.inr ⟨_, hk, fun G' C' K' g => ⟨rfl, hrt, g⟩⟩)
  | return_ =>
    obtain ⟨rfl, hrt, hk⟩ := h
    exact Or.inr (Or.inr ⟨_, hk, fun G' C' K' g => ⟨rfl, hrt, g⟩⟩)
  | _ => exact False.elim h

theorem kjX_gd {P : Nat → List mjEn} {q : kQm} : ∀ (f d m i : Nat) (lv : mjL) (st : List Value) (σ : kS) (K : kK), kTY σ → GKd σ → kjX P q f d m i lv st σ K → kjX P q f d m i lv st σ (fun v u => K v u ∧ GKd u) := by
  intro f
  induction f with
  | zero => intro d m i lv st σ K _ _ h; exact False.elim h
  | succ f ih =>
    intro d m i lv st σ K ty gd h
    unfold kjX at h ⊢
    cases he : (P m)[i]? with
    | none => rw [he] at h; exact False.elim h
    | some e0 =>
      obtain ⟨pc, ins, x, z⟩ := e0
      rw [he] at h
      dsimp only at h ⊢
      rcases kjI_nfg ty gd h with ⟨i', lv', st', σ', ⟨ty', ex', gd'⟩, h1, h2⟩ | ⟨x', ar, r, h1, h2⟩ | ⟨v, h1, h2⟩
      · exact h2 _ _ _ (ih d m i' lv' st' σ' K ty' gd' h1)
      · refine h2 _ _ _ ?_
        cases d with
        | zero => exact False.elim h1
        | succ d' => exact ⟨h1.1, kjX_mono f f d' x' 0 _ _ _ _ _ (Nat.le_refl _) (fun v u tu eu g _ _ => ih (d' + 1) m (i + 1) lv _ u K tu g.2 (g.1 tu eu)) ty (ih d' x' 0 _ _ _ _ ty gd h1.2)⟩
      · exact h2 _ _ _ ⟨h1, gd⟩
theorem kjY_gd {P : Nat → List mjEn} {q : kQm} {d m i : Nat} {lv : mjL} {st : List Value} {σ : kS} {K : kK} (ty : kTY σ) (gd : GKd σ) (h : kjY P q d m i lv st σ K) : kjY P q d m i lv st σ (fun v u => K v u ∧ GKd u) := by
  obtain ⟨f, h⟩ := h
  exact ⟨f, kjX_gd f d m i lv st σ K ty gd h⟩
/-- handles from n on lie behind the heap's end -/
def adN (ad : Nat → Nat) (n sz : Nat) (h : Nat) : Nat := if n ≤ h ∧ h < 1000000 then sz + (h - n) else ad h
theorem adN_ad {ad : Nat → Nat} {n sz : Nat} : kAd (adN ad n sz) n sz := fun h h1 h2 => if_pos ⟨h1, h2⟩
theorem adN_lo {ad : Nat → Nat} {n sz h : Nat} (hh : h < n) : adN ad n sz h = ad h := if_neg (fun y => by omega)
theorem adN_hi {ad : Nat → Nat} {n sz h : Nat} (hh : 1000000 ≤ h) : adN ad n sz h = ad h := if_neg (fun y => by omega)
theorem kX.re {ad ad' : Nat → Nat} {A : Nat → Prop} {U : State} {H : Heap} (h : kX ad A U H) (e : ∀ h, 1000000 ≤ h → ad' h = ad h) : kX ad' A U H := by
  obtain ⟨h1, h2, h3, h4, h5, h6, h7⟩ := h
  have e1 : ∀ k, ad' (1000000 + k) = ad (1000000 + k) := fun k => e _ (by omega)
  have e2 : ∀ k, ad' (2000000 + k) = ad (2000000 + k) := fun k => e _ (by omega)
  have e3 : ∀ k, ad' (3000000 + k) = ad (3000000 + k) := fun k => e _ (by omega)
  refine ⟨fun k hk => ?_, fun k j hk hj y => ?_, fun i hi => ?_, ?_, ?_, h6, h7⟩
  · rw [e1, e2]; exact h1 k hk
  · rw [e1, e1] at y; exact h2 k j hk hj y
  · rw [e2, e3]; exact h3 i hi
  · rw [e 4000000 (by decide), show (fun j => Value.ref (ad' (1000000 + j))) = fun j => Value.ref (ad (1000000 + j)) from funext fun j => by rw [e1]]; exact h4
  · rw [e 4000001 (by decide)]; exact h5
