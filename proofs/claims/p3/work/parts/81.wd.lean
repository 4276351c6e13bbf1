section WD
variable {Y : Nat → MethodName × ByteArray} {d : Nat}
abbrev stF : List Nat := [f_heapSize, f_keys, f_kFrees, f_eFree]
abbrev stH : List Nat := [r_heap, r_order, r_kFree, r_kAt, r_kLen, r_kSort, r_kTimed, r_kHead, r_kTail, r_kMany, r_tAt, r_tLen, r_kTime, r_eNext, r_ePrev, r_eAt, r_eLen, r_vAt, r_vLen, r_eScore]
theorem KS.fr {σ u : mjS} {fs rs : List Nat} {hs : Nat} {ks : List KR} {fk fe : List Nat} (h : KS σ hs ks fk fe) (f : Fr fs rs σ u) (h1 : ∀ k ∈ stF, k ∉ fs) (h2 : ∀ k ∈ stH, k ∉ rs) : KS u hs ks fk fe := by
  have g1 : ∀ k ∈ stF, u.1 k = σ.1 k := fun k hk => f.1 k (h1 k hk)
  have g2 : ∀ k ∈ stH, u.2.2.1 k = σ.2.2.1 k := fun k hk => (f.2.2 k (h2 k hk)).1
  have g3 : ∀ k ∈ stH, u.2.2.2 k = σ.2.2.2 k := fun k hk => (f.2.2 k (h2 k hk)).2
  have gE : ∀ e, AgE σ u e := fun e => ⟨fun g hg => by rw [g2 g ((by decide : ∀ g ∈ eRows, g ∈ stH) g hg)], by rw [g3 r_eScore (by decide)]⟩
  have gK : ∀ k, AgK σ u k := fun e => ⟨fun g hg => by rw [g2 g ((by decide : ∀ g ∈ kRows, g ∈ stH) g hg)], by rw [g3 r_kTime (by decide)]⟩
  obtain ⟨a1, a2, a3, a4, a5, a6, a7, a8, a9, a10, a11, a12, a13, a14, a15, a16, a17⟩ := h
  refine ⟨by rw [g1 _ (by decide)]; exact a1, a2, by rw [g1 _ (by decide)]; exact a3, by rw [g2 r_order (by decide)]; exact a4, fun x hx => (a5 x hx).fr (gK _) (fun e _ => gE e) (fun j _ => by rw [g2 r_heap (by decide)]) (Nat.le_refl _), by rw [g1 _ (by decide)]; exact a6, by rw [g2 r_kFree (by decide)]; exact a7, a8, a9, a10, a11, a12, a13, by rw [g1 _ (by decide)]; exact a14, FSEG.fr a15 (fun e _ => by rw [g2 r_eNext (by decide)]), ?_, ?_⟩
  · intro e he
    obtain ⟨⟨p, p1, p2⟩, q, q1, q2⟩ := a16 e he
    exact ⟨⟨p, p1, by rw [g2 r_eAt (by decide)]; exact p2⟩, q, q1, by rw [g2 r_vAt (by decide)]; exact q2⟩
  · intro e he
    obtain ⟨⟨p, p1, p2⟩, q, q1, q2⟩ := a17 e he
    exact ⟨⟨p, p1, by rw [g2 r_kAt (by decide)]; exact p2⟩, q, q1, by rw [g2 r_tAt (by decide)]; exact q2⟩
/-- the store in some way in the rows, the request, what is pending, the answer, the watches -/
def Wd (σ : mjS) (ws : List (List Int32)) (ks : List KR) (l : List Int32) : Prop := (∃ hs fk fe, KS σ hs ks fk fe) ∧ AR σ ws ∧ pnd σ l ∧ oOk σ ∧ WT σ
abbrev wF : List Nat := [f_words, f_pendingSize, f_answerSize]
abbrev wH : List Nat := [r_req, r_aAt, r_aLen, r_pending, r_watches, r_watchAt, r_watchLen]
theorem Wd.ks {σ u : mjS} {ws : List (List Int32)} {ks ks' : List KR} {l : List Int32} {fs hs : List Nat} (h : Wd σ ws ks l) (f : Fr fs hs σ u) (k : ∃ hs fk fe, KS u hs ks' fk fe) (h1 : ∀ k ∈ wF, k ∉ fs) (h2 : ∀ k ∈ wH, k ∉ hs) : Wd u ws ks' l := by
  obtain ⟨-, a, p, ⟨⟨n, hn, en⟩, -⟩, t⟩ := h
  exact ⟨k, a.fr f (h1 _ (by decide)) (h2 _ (by decide)) (h2 _ (by decide)) (h2 _ (by decide)), pnd_fr p f (h1 _ (by decide)) (h2 _ (by decide)), ⟨⟨n, hn, by rw [f.1 _ (h1 _ (by decide))]; exact en⟩, trivial⟩, t.fr f (h2 _ (by decide)) (h2 _ (by decide)) (h2 _ (by decide))⟩
theorem Wd.fr {σ u : mjS} {ws : List (List Int32)} {ks : List KR} {l : List Int32} {fs hs : List Nat} (h : Wd σ ws ks l) (f : Fr fs hs σ u) (h1 : ∀ k ∈ stF ++ wF, k ∉ fs) (h2 : ∀ k ∈ stH ++ wH, k ∉ hs) : Wd u ws ks l := by
  obtain ⟨hs', fk, fe, k⟩ := h.1
  exact h.ks f ⟨hs', fk, fe, k.fr f (fun x hx => h1 x (List.mem_append_left _ hx)) (fun x hx => h2 x (List.mem_append_left _ hx))⟩ (fun x hx => h1 x (List.mem_append_right _ hx)) (fun x hx => h2 x (List.mem_append_right _ hx))
theorem Wd.ans {σ u : mjS} {ws : List (List Int32)} {ks : List KR} {l : List Int32} (h : Wd σ ws ks l) (o : oO σ u) : Wd u ws ks l := by
  obtain ⟨⟨hs', fk, fe, k⟩, a, p, -, t⟩ := h
  exact ⟨⟨hs', fk, fe, k.fr o.1 (by decide) (by decide)⟩, a.fr o.1 (by decide) (by decide) (by decide) (by decide), pnd_fr p o.1 (by decide) (by decide), o.2, t.fr o.1 (by decide) (by decide) (by decide)⟩
theorem Wd.nt {σ u : mjS} {ws : List (List Int32)} {ks : List KR} {l l' : List Int32} (h : Wd σ ws ks l) (f : Fr nF nH3 σ u) (p : pnd u l') : Wd u ws ks l' := by
  obtain ⟨⟨hs', fk, fe, k⟩, a, -, ⟨⟨n, hn, en⟩, -⟩, t⟩ := h
  exact ⟨⟨hs', fk, fe, k.fr f (by decide) (by decide)⟩, a.fr f (by decide) (by decide) (by decide) (by decide), p, ⟨⟨n, hn, by rw [f.1 _ (by decide)]; exact en⟩, trivial⟩, t.fr f (by decide) (by decide) (by decide)⟩
/-- what the commands may change -/
abbrev cF : List Nat := [f_answerSize, f_tooLong, f_digitsSize, f_pendingSize, f_heapSize, f_keys, f_kFrees, f_eFree, f_num, f_n1, f_n2, f_optNx, f_optXx, f_optGet, f_optKeep, f_optGt, f_optLt, f_optCh, f_optIncr, f_optScores, f_optLimit, f_limitFrom, f_limitMany, f_timed, f_time, f_pairs, f_lowScore, f_highScore, f_noScore, f_limitAt, f_workSize, f_from, f_upTo, f_behindSet, f_found, f_pileSize, f_members]
abbrev cH : List Nat := [r_heap, r_heap2, r_order, r_kFree, r_kAt, r_kLen, r_kSort, r_kTimed, r_kHead, r_kTail, r_kMany, r_tAt, r_tLen, r_kTime, r_eNext, r_ePrev, r_eAt, r_eLen, r_vAt, r_vLen, r_eScore, r_answer, r_digits, r_pending, r_spelt, r_work, r_pile, r_mAt, r_mLen, r_disturbed]
/-- what the store's own methods may change -/
abbrev kF : List Nat := [f_heapSize, f_keys, f_kFrees, f_eFree]
abbrev kH : List Nat := r_heap2 :: stH
theorem oO.c {σ u : mjS} (o : oO σ u) : Fr cF cH σ u := o.1.up (by decide) (by decide)
theorem Fr.k {σ u : mjS} (f : Fr kF kH σ u) : Fr cF cH σ u := f.up (by decide) (by decide)
theorem Fr.n {σ u : mjS} (f : Fr nF nH3 σ u) : Fr cF cH σ u := f.up (by decide) (by decide)
theorem Fr.t {σ u : mjS} (f : Fr [] [r_disturbed] σ u) : Fr cF cH σ u := f.up (by decide) (by decide)
end WD
