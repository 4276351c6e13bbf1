/-! What a live command logs does the same in a replay. -/
section LIVEREP
theorem sz_rw (ws : Req) : sz ws ≤ 14 * rw ws := by
  induction ws with
  | nil => exact Nat.le_refl _
  | cons w r ih =>
    rw [sz_cons]
    show _ ≤ 14 * (rw1 w + rw r)
    unfold rw1
    by_cases c : w.length = 0
    · rw [if_pos c]; omega
    · rw [if_neg c]; omega
theorem lg_co : ∀ i ∈ coI, lgB i = true ∧ i ≠ 2 ∧ i ∉ tiI := by decide +kernel
theorem nm_wok {i : Nat} (h : i < 106) : WOK (nm i) := ⟨by have := (nm_ok i h).1; omega, (nm_ok i h).2⟩
theorem dec_wok {t : Int64} (h : 1 ≤ t) (h2 : t ≤ LAT) : WOK (dec t) := by
  refine ⟨by have := dec_len t; omega, fun x hx => ?_⟩
  rw [(dec_pos h).1] at hx
  have : ∀ (f m : Nat) (x : Int32), x ∈ decN f m → ∃ d, d < 10 ∧ x = nI (48 + d) := by
    intro f
    induction f with
    | zero =>
      intro m x hx
      have hx : x ∈ [nI (48 + m % 10)] := hx
      exact ⟨m % 10, Nat.mod_lt _ (by decide), List.mem_singleton.mp hx⟩
    | succ f ih =>
      intro m x hx
      have hx : x ∈ (if m < 10 then [nI (48 + m)] else decN f (m / 10) ++ [nI (48 + m % 10)]) := hx
      by_cases c : m < 10
      · rw [if_pos c] at hx; exact ⟨m, c, List.mem_singleton.mp hx⟩
      · rw [if_neg c] at hx
        rcases List.mem_append.mp hx with hx | hx
        · exact ih _ x hx
        · exact ⟨m % 10, Nat.mod_lt _ (by decide), List.mem_singleton.mp hx⟩
  obtain ⟨d, hd, e⟩ := this _ _ x hx
  rw [e]; exact nI_b8 _ (by omega)
theorem kTT_ok : WOK kTT ∧ WOK pXT := ⟨⟨by decide, by decide +kernel⟩, by decide, by decide +kernel⟩
/-- what a request of the log is, by its parts -/
theorem LSt_mk {A A' : List AK} {j : Nat} {as : List (List Int32)} (hj : 1 ≤ j) (hj2 : j < 106) (hl : lgB j = true) (ha : afX j as.length = true) (hn : as.length ≤ 1023) (hW : ∀ w ∈ as, WOK w) (hr : ∀ now : Int64, ∃ e, rnF j (nm j :: as) now true A = some (A', e)) (b1 : tT A + sl as + (gw (nm j :: as) 1).length ≤ 199000 ∧ sl as ≤ 131000) (b2 : eN A + as.length < 9999) (b3 : A.length + as.length < 4699) (b4 : 800 + sz as ≤ 420000) (b5 : 74 ≤ j ∧ j ≤ 76 → memB A < 60000) : LSt A (nm j :: as) A' := by
  have hnm := (nm_ok j hj2).1
  refine ⟨j, nm_cm j hj2 hj, hj, by omega, hl, ha, by show 1 ≤ as.length + 1; omega, by show as.length + 1 ≤ 1024; omega, fun w hw => ?_, hr, ?_, ?_, ?_, ?_, b5, ?_⟩
  · rcases List.mem_cons.mp hw with rfl | hw
    · exact nm_wok hj2
    · exact hW w hw
  · show tT A + ((nm j).length + sl as) + _ ≤ _; omega
  · show eN A + (as.length + 1) < _; omega
  · show A.length + (as.length + 1) < _; omega
  · rw [sz_cons]; omega
  · show (nm j).length + sl as ≤ _; omega
theorem sz_drop (ws : Req) (n : Nat) : sz (ws.drop n) ≤ sz ws := by
  have : sz ws = sz (ws.take n) + sz (ws.drop n) := by rw [← sz_app, List.take_append_drop]
  omega
theorem sz_two {ws : Req} {j k : Nat} (h : j < k) (hk : k < ws.length) : (gw ws j).length + (gw ws k).length + 52 ≤ sz ws := by
  have h1 : ∀ (r : Req) (n : Nat), n < r.length → (gw r n).length + 26 + sz (r.drop (n + 1)) ≤ sz r := by
    intro r
    induction r with
    | nil => intro n hn; exact absurd hn (Nat.not_lt_zero _)
    | cons w r ih =>
      intro n hn
      cases n with
      | zero => rw [sz_cons]; show w.length + 26 + sz r ≤ _; omega
      | succ n =>
        have := ih n (by simpa using hn)
        rw [sz_cons]
        show (gw r n).length + 26 + sz (r.drop (n + 1)) ≤ _; omega
  have a := h1 ws j (by omega)
  have b := h1 (ws.drop (j + 1)) (k - (j + 1)) (by rw [List.length_drop]; omega)
  have e : gw (ws.drop (j + 1)) (k - (j + 1)) = gw ws k := by
    unfold gw
    rw [List.getD_eq_getElem?_getD, List.getD_eq_getElem?_getD, List.getElem?_drop, show j + 1 + (k - (j + 1)) = k by omega]
  rw [e] at b; omega
theorem live_LS {i : Nat} {ws : Req} {now : Int64} {A A' : List AK} {j : Nat} {as : List (List Int32)} {p : Nat} (hL : LI A p) (hr : rw ws ≤ p) (hp : p ≤ 10240) (hW : ∀ w ∈ ws, WOK w) (hw : 1 ≤ ws.length) (h1024 : ws.length ≤ 1024) (hi1 : 1 ≤ i) (hi : i ≤ 105) (af : afX i (ws.length - 1) = true) (hn : 0 ≤ now) (hh : cHv.getD i false = true → memB A < 60000) (h : rnF i ws now false A = some (A', j, as)) : LSt A (nm j :: as) A' ∧ sz as ≤ sz ws + 110 ∧ 1 ≤ j ∧ j ≤ 105 := by
  have r1 := rw_ge ws
  have zr := sz_rw ws
  obtain ⟨l1, l2, l3, l4, l5, _⟩ := hL
  obtain ⟨q1, q2, q3⟩ := af_lo (by omega) (by omega) af
  have del : ∀ (k : Nat) (q : Nat), k < ws.length → kyI A (gw ws k) = some q → A' = rmA A q → j = 22 → as = [gw ws k] → LSt A (nm j :: as) A' ∧ sz as ≤ sz ws + 110 ∧ 1 ≤ j ∧ j ≤ 105 := by
    intro k q hk hq e1 e2 e3
    subst e1; subst e2; subst e3
    have gk := gw_sl ws k
    have gz := sl_sz ws
    refine ⟨LSt_mk (by decide) (by decide) rfl (show afX 22 1 = true by decide) (by show 1 ≤ _; omega) (fun w hw => by rw [List.mem_singleton.mp hw]; exact hW _ (gw_mem hk)) (fun now => re_del hq _ now) ?_ ?_ ?_ ?_ (fun z => absurd z (by decide)), ?_, by decide, by decide⟩
    · show tT A + ((gw ws k).length + 0) + (gw ws k).length ≤ _ ∧ ((gw ws k).length + 0) ≤ _; omega
    · show eN A + 1 < _; omega
    · show A.length + 1 < _; omega
    · show 800 + sz [gw ws k] ≤ _; rw [sz_cons]; show 800 + ((gw ws k).length + 26 + 0) ≤ _; omega
    · rw [sz_cons]; show (gw ws k).length + 26 + 0 ≤ _; omega
  have se : ∀ {go : Bool} {keep timed : Int32} {t : Int64} (n : Nat), 2 ≤ n → n < ws.length → (keep = 0 ∨ timed = 0) → (timed = 0 ∨ (timed = 1 ∧ t ≤ LAT)) → seF go keep timed t now false A (gw ws 1) (gw ws n) = some (A', j, as) → LSt A (nm j :: as) A' ∧ sz as ≤ sz ws + 110 ∧ 1 ≤ j ∧ j ≤ 105 := by
    intro go keep timed t n n2 nl hk ht h
    unfold seF at h
    by_cases c : go = false
    · rw [if_pos c] at h; cases h
    · rw [if_neg c] at h
      by_cases d : (¬ timed = 0) ∧ t ≤ now ∧ false = false
      · rw [if_pos d] at h
        cases e : kyI A (gw ws 1) with
        | none => rw [e] at h; cases h
        | some q =>
          rw [e] at h
          have h : some (rmA A q, 22, [gw ws 1]) = some (A', j, as) := h
          cases h
          exact del 1 q (by omega) e rfl rfl rfl
      · rw [if_neg d] at h
        have t2 := gw_sl2 (ws := ws) (j := 1) (k := n) (by omega) nl
        have t3 := sz_two (ws := ws) (j := 1) (k := n) (by omega) nl
        have ht2 : timed = 0 ∨ (timed = 1 ∧ 1 ≤ t ∧ t ≤ LAT) := by
          by_cases z : timed = 0
          · exact Or.inl z
          · have := ht.resolve_left z
            exact Or.inr ⟨this.1, ge1 hn (fun y => d ⟨z, y, rfl⟩), this.2⟩
        have hns : sl (nsW keep timed t) ≤ 25 ∧ sz (nsW keep timed t) ≤ 77 ∧ (nsW keep timed t).length ≤ 2 ∧ (∀ w ∈ nsW keep timed t, WOK w) ∧ afX 2 (gw ws 1 :: gw ws n :: nsW keep timed t).length = true := by
          unfold nsW
          by_cases z : keep = 0
          · rw [if_pos z]
            by_cases y : timed = 0
            · rw [if_pos y]; exact ⟨Nat.zero_le _, Nat.zero_le _, Nat.zero_le _, fun w hw => (by cases hw), (show afX 2 2 = true by decide)⟩
            · rw [if_neg y]
              have b := ht2.resolve_left y
              have dl := dec_len t
              refine ⟨?_, ?_, Nat.le_refl _, fun w hw => ?_, (show afX 2 4 = true by decide)⟩
              · show 4 + ((dec t).length + 0) ≤ 25; omega
              · rw [sz_cons, sz_cons]; show 4 + 26 + ((dec t).length + 26 + 0) ≤ 77; omega
              · rcases List.mem_cons.mp hw with rfl | hw
                · exact kTT_ok.2
                · rw [List.mem_singleton.mp hw]; exact dec_wok b.2.1 b.2.2
          · rw [if_neg z]
            exact ⟨by decide, by decide, by decide, fun w hw => by rw [List.mem_singleton.mp hw]; exact kTT_ok.1, (show afX 2 3 = true by decide)⟩
        cases h
        refine ⟨LSt_mk (by decide) (by decide) rfl hns.2.2.2.2 (by show (nsW keep timed t).length + 1 + 1 ≤ _; omega) (fun w hw => ?_) (fun now => re_set hk ht2 _ now) ?_ ?_ ?_ ?_ (fun z => absurd z (by decide)), ?_, by decide, by decide⟩
        · rcases List.mem_cons.mp hw with rfl | hw
          · exact hW _ (gw_mem (by omega))
          · rcases List.mem_cons.mp hw with rfl | hw
            · exact hW _ (gw_mem nl)
            · exact hns.2.2.2.1 w hw
        · show tT A + ((gw ws 1).length + ((gw ws n).length + sl (nsW keep timed t))) + (gw ws 1).length ≤ _ ∧ ((gw ws 1).length + ((gw ws n).length + sl (nsW keep timed t))) ≤ _; omega
        · show eN A + ((nsW keep timed t).length + 1 + 1) < _; omega
        · show A.length + ((nsW keep timed t).length + 1 + 1) < _; omega
        · rw [sz_cons, sz_cons]; omega
        · rw [sz_cons, sz_cons]; omega
  unfold rnF at h
  by_cases c2 : i = 2
  · subst c2
    rw [if_pos rfl] at h
    obtain ⟨q, hq, h⟩ := bind_some h
    have q0 : 2 ≤ ws.length - 1 := q1
    by_cases s : sfB 2 q.1.2.2.1 ws A = true
    · rw [if_pos s] at h
      refine se 2 (by omega) (by omega) ?_ ?_ h
      · rcases osR_x hq with z | z
        · exact Or.inl z
        · exact Or.inr (by rw [z]; rfl)
      · cases e : q.2 with
        | none => exact Or.inl rfl
        | some t => exact Or.inr ⟨rfl, (osR_ok hq t e).2⟩
    · rw [if_neg s] at h; cases h
  · rw [if_neg c2] at h
    by_cases s : sfB i 0 ws A = true
    · rw [if_pos s] at h
      by_cases c : i ∈ tiI
      · rw [if_pos c] at h
        have cs : i = 3 ∨ i = 4 ∨ i = 5 ∨ i = 6 ∨ i = 7 ∨ i = 30 ∨ i = 31 ∨ i = 32 ∨ i = 33 := by
          simpa [tiI] using c
        have ei : ∀ {t : Int64}, 1 < ws.length → t ≤ LAT → eiF t now false A (gw ws 1) = some (A', j, as) → LSt A (nm j :: as) A' ∧ sz as ≤ sz ws + 110 ∧ 1 ≤ j ∧ j ≤ 105 := by
          intro t h1l htl h
          unfold eiF at h
          cases e : kyI A (gw ws 1) with
          | none => rw [e] at h; cases h
          | some q =>
            rw [e] at h
            have h : (if t ≤ now ∧ false = false then some (rmA A q, 22, [gw ws 1]) else some (upA A q (exF t), 33, [gw ws 1, dec t])) = some (A', j, as) := h
            by_cases d : t ≤ now ∧ false = false
            · rw [if_pos d] at h; cases h
              exact del 1 q h1l e rfl rfl rfl
            · rw [if_neg d] at h; cases h
              have ht1 := ge1 hn (fun y => d ⟨y, rfl⟩)
              have g1 := gw_sl ws 1
              have gz := sl_sz ws
              have dl := dec_len t
              refine ⟨LSt_mk (by decide) (by decide) rfl (show afX 33 2 = true by decide) (by show 2 ≤ _; omega) (fun w hw => ?_) (fun now => re_exp e ht1 htl _ now) ?_ ?_ ?_ ?_ (fun z => absurd z (by decide)), ?_, by decide, by decide⟩
              · rcases List.mem_cons.mp hw with rfl | hw
                · exact hW _ (gw_mem h1l)
                · rw [List.mem_singleton.mp hw]; exact dec_wok ht1 htl
              · show tT A + ((gw ws 1).length + ((dec t).length + 0)) + (gw ws 1).length ≤ _ ∧ ((gw ws 1).length + ((dec t).length + 0)) ≤ _; omega
              · show eN A + 2 < _; omega
              · show A.length + 2 < _; omega
              · rw [sz_cons, sz_cons]; show 800 + ((gw ws 1).length + 26 + ((dec t).length + 26 + 0)) ≤ _; omega
              · rw [sz_cons, sz_cons]; show (gw ws 1).length + 26 + ((dec t).length + 26 + 0) ≤ _; omega
        rcases cs with rfl | rfl | rfl | rfl | rfl | rfl | rfl | rfl | rfl
        · have q0 : 1 ≤ ws.length - 1 := q1
          have h : (if kyI A (gw ws 1) = none then none else some (delA A (gw ws 1), 22, [gw ws 1])) = some (A', j, as) := h
          cases z : kyI A (gw ws 1) with
          | none => rw [z, if_pos rfl] at h; cases h
          | some q =>
            rw [if_neg (by rw [z]; exact fun y => by cases y)] at h
            have e : delA A (gw ws 1) = rmA A q := by unfold delA; rw [z]
            rw [e] at h; cases h
            exact del 1 q (by omega) z rfl rfl rfl
        · have q0 : 2 ≤ ws.length - 1 := q1
          exact se 2 (by omega) (by omega) (Or.inl rfl) (Or.inl rfl) h
        · have q0 : 2 ≤ ws.length - 1 := q1
          exact se 2 (by omega) (by omega) (Or.inl rfl) (Or.inl rfl) h
        · have q0 : 3 ≤ ws.length - 1 := q1
          obtain ⟨t, ht, h⟩ := bind_some h
          exact se 3 (by omega) (by omega) (Or.inl rfl) (Or.inr ⟨rfl, (tiR_ok ht).2⟩) h
        · have q0 : 3 ≤ ws.length - 1 := q1
          obtain ⟨t, ht, h⟩ := bind_some h
          exact se 3 (by omega) (by omega) (Or.inl rfl) (Or.inr ⟨rfl, (tiR_ok ht).2⟩) h
        · have q0 : 2 ≤ ws.length - 1 := q1
          obtain ⟨t, ht, h⟩ := bind_some h
          exact ei (by omega) (tiR_ok ht).2 h
        · have q0 : 2 ≤ ws.length - 1 := q1
          obtain ⟨t, ht, h⟩ := bind_some h
          exact ei (by omega) (tiR_ok ht).2 h
        · have q0 : 2 ≤ ws.length - 1 := q1
          obtain ⟨t, ht, h⟩ := bind_some h
          exact ei (by omega) (tiR_ok ht).2 h
        · have q0 : 2 ≤ ws.length - 1 := q1
          obtain ⟨t, ht, h⟩ := bind_some h
          exact ei (by omega) (tiR_ok ht).2 h
      · rw [if_neg c] at h
        unfold nW at h
        cases e : coF i ws A with
        | none => rw [e] at h; cases h
        | some B =>
          rw [e] at h
          have h : some (B, i, ws.drop 1) = some (A', j, as) := h
          cases h
          have hI := coF_I e
          have lg := lg_co i hI
          cases ws with
          | nil => exact absurd hw (by decide)
          | cons w0 r =>
            have hl : (w0 :: r).length = r.length + 1 := rfl
            have hsl : sl (w0 :: r) = w0.length + sl r := rfl
            have g1 := gw_sl (w0 :: r) 1
            have hz := sz_drop (w0 :: r) 1
            rw [hl] at h1024 r1 q1 q2 q3 af hw
            refine ⟨LSt_mk (as := r) hi1 (by omega) lg.1 af (by omega) (fun w hw => hW w (List.mem_cons_of_mem _ hw)) (fun now2 => ⟨(i, r), ?_⟩) ?_ (by omega) (by omega) (by show 800 + sz ((w0 :: r).drop 1) ≤ _; omega) (fun z => hh ?_), by show sz ((w0 :: r).drop 1) ≤ _; omega, hi1, hi⟩
            · unfold rnF
              rw [if_neg c2, sfB_tail i 0 (nm i) w0 r A, if_pos s, if_neg c, coF_tail i (nm i) w0 r A, e]; rfl
            · show tT A + sl r + (gw (w0 :: r) 1).length ≤ _ ∧ sl r ≤ _; omega
            · have : i = 74 ∨ i = 75 ∨ i = 76 := by omega
              rcases this with rfl | rfl | rfl <;> rfl
    · rw [if_neg s] at h; cases h
end LIVEREP
