/-! run's other roads: EXISTS, DBSIZE, LLEN, LRANGE, PING, ECHO, TIME. -/
section ROADS2
variable {Y : Nat → MethodName × ByteArray} {d : Nat}
set_option maxRecDepth 100000 in
theorem c_exists (K : mjK) (x1 : Int32) {σ : mjS} {ws : List (List Int32)} {ks : List KR} {l : List Int32} (h : Wd σ ws ks l) (ty : mjTY σ) (hK : ∀ u, oO σ u → Wd u ws ks l → K none u) : ∀ (m a : Nat) (x2 x3 : Int32), a + m = ws.length → x3 = nI a → mjY mjPP (mjQQ Y) (d + 7) 157 13 [some (.ref 0), some (.int x1), some (.int x2), some (.int x3)] [] σ K := by
  have h1024 := h.2.1.2.1
  intro m
  induction m with
  | zero =>
    intro a x2 x3 ha e3
    refine mjZ_y rfl rfl 4 _ _ _ _ ty ?_
    refine (And.intro rfl (And.intro (fun q => ?_) (fun q => ?_)))
    · refine mjZ_y rfl rfl 4 _ _ _ _ ty ?_
      refine (And.intro (Nat.le_of_ble_eq_true rfl) (And.intro rfl (And.intro (Nat.le_of_ble_eq_true rfl) (And.intro (Nat.le_of_ble_eq_true rfl) (mjY_mono ty (fun q_ u2 ty2 h_ => ?_) (w_number h ty _))))))
      obtain ⟨rfl, h2, f2⟩ := h_
      intro _
      refine mjZ_y rfl rfl 2 _ _ _ _ ty2 ?_
      refine And.intro rfl (And.intro rfl ?_)
      exact hK u2 f2 h2
    · exact absurd (show σ.1 f_words ≤ x3 by rw [h.2.1.1, e3]; exact nI_le (by omega) (by omega)) q
  | succ m ih =>
    intro a x2 x3 ha e3
    obtain ⟨w, hw, ed⟩ := drop1 ha
    refine mjZ_y rfl rfl 4 _ _ _ _ ty ?_
    refine (And.intro rfl (And.intro (fun q => ?_) (fun q => ?_)))
    · exact absurd (show σ.1 f_words ≤ x3 from q) (by rw [h.2.1.1, e3]; exact nI_ge (by omega) (by omega))
    · refine mjZ_y rfl rfl 3 _ _ _ _ ty ?_
      refine (And.intro (Nat.le_of_ble_eq_true rfl) (And.intro rfl (And.intro (Nat.le_of_ble_eq_true rfl) (And.intro (Nat.le_of_ble_eq_true rfl) (mjY_mono ty (fun q_ u1 ty1 h_ => ?_) (w_key h ty hw e3))))))
      obtain ⟨rfl, rfl⟩ := h_
      intro _
      refine mjZ_y rfl rfl 1 _ _ _ _ ty1 ?_
      refine And.intro (fun c => ?_) (fun c => ?_)
      · refine mjZ_y rfl rfl 2 _ _ _ _ ty1 ?_
        exact ih (a + 1) _ _ (by omega) (by rw [e3]; exact nI_1 a)
      · refine mjZ_y rfl rfl 3 _ _ _ _ ty1 ?_
        exact ih (a + 1) _ _ (by omega) (by rw [e3]; exact nI_1 a)
set_option maxRecDepth 100000 in
theorem rd_23 {σ : mjS} {ws : List (List Int32)} {ks : List KR} {l : List Int32} (h : Wd σ ws ks l) (ty : mjTY σ) (hw : 1 ≤ ws.length) : mjY mjPP (mjQQ Y) (d + 9) 155 36 [some (.ref 0), some (.int (nI 23))] [] σ (cmdK σ ws ks l 23 none) := by
  have ne : ∀ c : Nat, c < 128 ∧ c ≠ 23 → ¬ nI 23 = nI c := fun c hc y => hc.2 ((nI_eq (by decide) (by omega)).mp y).symm
  have dq : mjY mjPP (mjQQ Y) (d + 8) 157 0 (mjL0 4 [.ref 0, .int (nI 23)]) [] σ (cmdK σ ws ks l 23 none) := by
    refine mjZ_y rfl rfl 10 _ _ _ _ ty ?_
    refine (bn_t (ne 22 (by decide)) (bn_f (fun n => n rfl) (And.intro (Nat.le_of_ble_eq_true rfl) (And.intro (Nat.le_of_ble_eq_true rfl) ?_))))
    exact c_exists _ _ h ty (fun u fu hu => ⟨rfl, fu.c, ks, hu, rfl⟩) (ws.length - 1) 1 _ _ (by omega) rfl
  refine mjZ_y rfl rfl 9 _ _ _ _ ty ?_
  refine (bk_t rfl (bk_f rfl (And.intro (Nat.le_of_ble_eq_true rfl) (And.intro rfl (And.intro (Nat.le_of_ble_eq_true rfl) (And.intro (Nat.le_of_ble_eq_true rfl) (mjY_mono ty (fun q_ u1 ty1 h_ => ?_) (dq))))))))
  have h1 := h_
  intro _
  obtain rfl := h1.1
  refine mjZ_y rfl rfl 2 _ _ _ _ ty1 ?_
  refine And.intro rfl (And.intro rfl ?_)
  exact h1
set_option maxRecDepth 100000 in
theorem rd_28 {σ : mjS} {ws : List (List Int32)} {ks : List KR} {l : List Int32} (h : Wd σ ws ks l) (ty : mjTY σ)  : mjY mjPP (mjQQ Y) (d + 9) 155 36 [some (.ref 0), some (.int (nI 28))] [] σ (cmdK σ ws ks l 28 none) := by
  have ne : ∀ c : Nat, c < 128 ∧ c ≠ 28 → ¬ nI 28 = nI c := fun c hc y => hc.2 ((nI_eq (by decide) (by omega)).mp y).symm
  have dq : mjY mjPP (mjQQ Y) (d + 8) 157 0 (mjL0 4 [.ref 0, .int (nI 28)]) [] σ (cmdK σ ws ks l 28 none) := by
    refine mjZ_y rfl rfl 23 _ _ _ _ ty ?_
    refine (bn_t (ne 22 (by decide)) (bn_t (ne 23 (by decide)) (bn_f (ne 25 (by decide)) (bn_t (ne 26 (by decide)) (bn_t (ne 27 (by decide)) (bn_f (fun n => n rfl) (And.intro rfl (And.intro (Nat.le_of_ble_eq_true rfl) (And.intro rfl (And.intro (Nat.le_of_ble_eq_true rfl) (And.intro (Nat.le_of_ble_eq_true rfl) (mjY_mono ty (fun q_ u2 ty2 h_ => ?_) (w_number h ty _)))))))))))))
    obtain ⟨rfl, h2, f2⟩ := h_
    intro _
    refine mjZ_y rfl rfl 2 _ _ _ _ ty2 ?_
    refine And.intro rfl (And.intro rfl ?_)
    exact ⟨rfl, f2.c, ks, h2, rfl⟩
  refine mjZ_y rfl rfl 9 _ _ _ _ ty ?_
  refine (bk_t rfl (bk_f rfl (And.intro (Nat.le_of_ble_eq_true rfl) (And.intro rfl (And.intro (Nat.le_of_ble_eq_true rfl) (And.intro (Nat.le_of_ble_eq_true rfl) (mjY_mono ty (fun q_ u1 ty1 h_ => ?_) (dq))))))))
  have h1 := h_
  intro _
  obtain rfl := h1.1
  refine mjZ_y rfl rfl 2 _ _ _ _ ty1 ?_
  refine And.intro rfl (And.intro rfl ?_)
  exact h1
set_option maxRecDepth 100000 in
theorem rd_43 {σ : mjS} {ws : List (List Int32)} {ks : List KR} {l : List Int32} (h : Wd σ ws ks l) (ty : mjTY σ) {w : List Int32} (h1 : ws[1]? = some w) : mjY mjPP (mjQQ Y) (d + 9) 155 36 [some (.ref 0), some (.int (nI 43))] [] σ (cmdK σ ws ks l 43 none) := by
  have ne : ∀ c : Nat, c < 128 ∧ c ≠ 43 → ¬ nI 43 = nI c := fun c hc y => hc.2 ((nI_eq (by decide) (by omega)).mp y).symm
  have dq : mjY mjPP (mjQQ Y) (d + 8) 158 0 (mjL0 2 [.ref 0, .int (nI 43)]) [] σ (cmdK σ ws ks l 43 none) := by
    refine mjZ_y rfl rfl 14 _ _ _ _ ty ?_
    refine (bk_t rfl (bk_t rfl (bn_f (fun n => n rfl) (And.intro (Nat.le_of_ble_eq_true rfl) (And.intro rfl (And.intro (Nat.le_of_ble_eq_true rfl) (And.intro (Nat.le_of_ble_eq_true rfl) (mjY_mono ty (fun q_ u1 ty1 h_ => ?_) (w_key h ty h1 (x := Int32.ofInt 1) rfl)))))))))
    obtain ⟨rfl, rfl⟩ := h_
    intro _
    refine mjZ_y rfl rfl 1 _ _ _ _ ty1 ?_
    refine (And.intro (Nat.le_of_ble_eq_true rfl) (And.intro rfl (And.intro (Nat.le_of_ble_eq_true rfl) (And.intro (Nat.le_of_ble_eq_true rfl) (mjY_mono ty1 (fun q_ u3 ty3 h_ => ?_) (w_many h ty1 (w := w) rfl))))))
    obtain ⟨rfl, rfl⟩ := h_
    intro _
    refine mjZ_y rfl rfl 2 _ _ _ _ ty3 ?_
    refine (And.intro (Nat.le_of_ble_eq_true rfl) (And.intro rfl (And.intro (Nat.le_of_ble_eq_true rfl) (And.intro (Nat.le_of_ble_eq_true rfl) (mjY_mono ty3 (fun q_ u2 ty2 h_ => ?_) (w_number h ty3 _))))))
    obtain ⟨rfl, h2, f2⟩ := h_
    intro _
    refine mjZ_y rfl rfl 2 _ _ _ _ ty2 ?_
    refine And.intro rfl (And.intro rfl ?_)
    exact ⟨rfl, f2.c, ks, h2, rfl⟩
  refine mjZ_y rfl rfl 12 _ _ _ _ ty ?_
  refine (bk_t rfl (bk_t rfl (bk_f rfl (And.intro (Nat.le_of_ble_eq_true rfl) (And.intro rfl (And.intro (Nat.le_of_ble_eq_true rfl) (And.intro (Nat.le_of_ble_eq_true rfl) (mjY_mono ty (fun q_ u1 ty1 h_ => ?_) (dq)))))))))
  have h1 := h_
  intro _
  obtain rfl := h1.1
  refine mjZ_y rfl rfl 2 _ _ _ _ ty1 ?_
  refine And.intro rfl (And.intro rfl ?_)
  exact h1
set_option maxRecDepth 100000 in
theorem rd_44 {σ : mjS} {ws : List (List Int32)} {ks : List KR} {l : List Int32} (h : Wd σ ws ks l) (ty : mjTY σ) {w : List Int32} (h1 : ws[1]? = some w) : mjY mjPP (mjQQ Y) (d + 9) 155 36 [some (.ref 0), some (.int (nI 44))] [] σ (cmdK σ ws ks l 44 none) := by
  have ne : ∀ c : Nat, c < 128 ∧ c ≠ 44 → ¬ nI 44 = nI c := fun c hc y => hc.2 ((nI_eq (by decide) (by omega)).mp y).symm
  have dq : mjY mjPP (mjQQ Y) (d + 8) 158 0 (mjL0 2 [.ref 0, .int (nI 44)]) [] σ (cmdK σ ws ks l 44 none) := by
    refine mjZ_y rfl rfl 16 _ _ _ _ ty ?_
    refine (bk_t rfl (bk_t rfl (bn_t (ne 43 (by decide)) (bn_f (fun n => n rfl) (And.intro (Nat.le_of_ble_eq_true rfl) (And.intro rfl (And.intro (Nat.le_of_ble_eq_true rfl) (And.intro (Nat.le_of_ble_eq_true rfl) (mjY_mono ty (fun q_ u1 ty1 h_ => ?_) (w_key h ty h1 (x := Int32.ofInt 1) rfl))))))))))
    obtain ⟨rfl, rfl⟩ := h_
    intro _
    refine mjZ_y rfl rfl 1 _ _ _ _ ty1 ?_
    refine (And.intro (Nat.le_of_ble_eq_true rfl) (And.intro rfl (And.intro (Nat.le_of_ble_eq_true rfl) (And.intro (Nat.le_of_ble_eq_true rfl) (mjY_mono ty1 (fun q_ u2 ty2 h_ => ?_) (r_range h ty1 (w := w) rfl))))))
    have h2 := h_
    intro _
    obtain rfl := h2.1
    refine mjZ_y rfl rfl 2 _ _ _ _ ty2 ?_
    refine And.intro rfl (And.intro rfl ?_)
    exact h2
  refine mjZ_y rfl rfl 12 _ _ _ _ ty ?_
  refine (bk_t rfl (bk_t rfl (bk_f rfl (And.intro (Nat.le_of_ble_eq_true rfl) (And.intro rfl (And.intro (Nat.le_of_ble_eq_true rfl) (And.intro (Nat.le_of_ble_eq_true rfl) (mjY_mono ty (fun q_ u1 ty1 h_ => ?_) (dq)))))))))
  have h1 := h_
  intro _
  obtain rfl := h1.1
  refine mjZ_y rfl rfl 2 _ _ _ _ ty1 ?_
  refine And.intro rfl (And.intro rfl ?_)
  exact h1
set_option maxRecDepth 100000 in
theorem rd_95 {σ : mjS} {ws : List (List Int32)} {ks : List KR} {l : List Int32} (h : Wd σ ws ks l) (ty : mjTY σ) {w : List Int32} (h1 : ws[1]? = some w) : mjY mjPP (mjQQ Y) (d + 9) 155 36 [some (.ref 0), some (.int (nI 95))] [] σ (cmdK σ ws ks l 95 none) := by
  have ne : ∀ c : Nat, c < 128 ∧ c ≠ 95 → ¬ nI 95 = nI c := fun c hc y => hc.2 ((nI_eq (by decide) (by omega)).mp y).symm
  have dq : mjY mjPP (mjQQ Y) (d + 8) 162 0 (mjL0 2 [.ref 0, .int (nI 95)]) [] σ (cmdK σ ws ks l 95 none) := by
    obtain ⟨v1, a, ea, el, ha, ew⟩ := h.2.1.clamp h1 (x := Int32.ofInt 1) rfl
    refine mjZ_y rfl rfl 21 _ _ _ _ ty ?_
    refine (bn_t (ne 94 (by decide)) (bn_f (ne 94 (by decide)) (bn_f (fun n => n rfl) (And.intro rfl (And.intro rfl (And.intro rfl (And.intro v1 (And.intro rfl (And.intro rfl (And.intro v1 (And.intro (Nat.le_of_ble_eq_true rfl) (And.intro rfl (And.intro (Nat.le_of_ble_eq_true rfl) (And.intro (Nat.le_of_ble_eq_true rfl) (mjY_mono ty (fun q_ u2 ty2 h_ => ?_) (w_word h ty r_req a w.length _ _ ea el rfl ha (by decide)))))))))))))))))
    obtain ⟨rfl, h2, f2⟩ := h_
    intro _
    refine mjZ_y rfl rfl 2 _ _ _ _ ty2 ?_
    refine And.intro rfl (And.intro rfl ?_)
    exact ⟨rfl, f2.c, ks, h2, rfl⟩
  refine mjZ_y rfl rfl 21 _ _ _ _ ty ?_
  refine (bk_t rfl (bk_t rfl (bk_t rfl (bk_t rfl (bk_t rfl (bk_t rfl (And.intro (Nat.le_of_ble_eq_true rfl) (And.intro rfl (And.intro (Nat.le_of_ble_eq_true rfl) (And.intro (Nat.le_of_ble_eq_true rfl) (mjY_mono ty (fun q_ u1 ty1 h_ => ?_) (dq))))))))))))
  have h1 := h_
  intro _
  obtain rfl := h1.1
  refine mjZ_y rfl rfl 1 _ _ _ _ ty1 ?_
  refine And.intro rfl (And.intro rfl ?_)
  exact h1
set_option maxRecDepth 100000 in
theorem rd_94 {σ : mjS} {ws : List (List Int32)} {ks : List KR} {l : List Int32} (h : Wd σ ws ks l) (ty : mjTY σ) (hw : 1 ≤ ws.length) : mjY mjPP (mjQQ Y) (d + 9) 155 36 [some (.ref 0), some (.int (nI 94))] [] σ (cmdK σ ws ks l 94 none) := by
  have ne : ∀ c : Nat, c < 128 ∧ c ≠ 94 → ¬ nI 94 = nI c := fun c hc y => hc.2 ((nI_eq (by decide) (by omega)).mp y).symm
  have dq : mjY mjPP (mjQQ Y) (d + 8) 162 0 (mjL0 2 [.ref 0, .int (nI 94)]) [] σ (cmdK σ ws ks l 94 none) := by
    have h1024 := h.2.1.2.1
    refine mjZ_y rfl rfl 7 _ _ _ _ ty ?_
    refine (bn_f (fun n => n rfl) (And.intro rfl (And.intro (fun c => ?_) (fun c => ?_))))
    · have c : 2 ≤ ws.length := by
        rcases Nat.lt_or_ge 1 ws.length with z | z
        · exact z
        · exact absurd (show σ.1 f_words = nI 1 by rw [h.2.1.1, show ws.length = 1 by omega]) c
      obtain ⟨v1, a, ea, el, ha, ew⟩ := h.2.1.clamp (i := 1) (w := ws[1]) (List.getElem?_eq_getElem (by omega)) (x := Int32.ofInt 1) rfl
      refine mjZ_y rfl rfl 15 _ _ _ _ ty ?_
      refine (bn_t rfl (And.intro rfl (And.intro rfl (And.intro rfl (And.intro v1 (And.intro rfl (And.intro rfl (And.intro v1 (And.intro (Nat.le_of_ble_eq_true rfl) (And.intro rfl (And.intro (Nat.le_of_ble_eq_true rfl) (And.intro (Nat.le_of_ble_eq_true rfl) (mjY_mono ty (fun q_ u2 ty2 h_ => ?_) (w_word h ty r_req a ws[1].length _ _ ea el rfl ha (by decide)))))))))))))))
      obtain ⟨rfl, h2, f2⟩ := h_
      intro _
      refine mjZ_y rfl rfl 2 _ _ _ _ ty2 ?_
      refine And.intro rfl (And.intro rfl ?_)
      exact ⟨rfl, f2.c, ks, h2, rfl⟩
    · refine mjZ_y rfl rfl 3 _ _ _ _ ty ?_
      refine (And.intro (Nat.le_of_ble_eq_true rfl) (And.intro rfl (And.intro (Nat.le_of_ble_eq_true rfl) (And.intro (Nat.le_of_ble_eq_true rfl) (mjY_mono ty (fun q_ u2 ty2 h_ => ?_) (w_plain h ty _))))))
      obtain ⟨rfl, h2, f2⟩ := h_
      intro _
      refine mjZ_y rfl rfl 2 _ _ _ _ ty2 ?_
      refine And.intro rfl (And.intro rfl ?_)
      exact ⟨rfl, f2.c, ks, h2, rfl⟩
  refine mjZ_y rfl rfl 21 _ _ _ _ ty ?_
  refine (bk_t rfl (bk_t rfl (bk_t rfl (bk_t rfl (bk_t rfl (bk_t rfl (And.intro (Nat.le_of_ble_eq_true rfl) (And.intro rfl (And.intro (Nat.le_of_ble_eq_true rfl) (And.intro (Nat.le_of_ble_eq_true rfl) (mjY_mono ty (fun q_ u1 ty1 h_ => ?_) (dq))))))))))))
  have h1 := h_
  intro _
  obtain rfl := h1.1
  refine mjZ_y rfl rfl 1 _ _ _ _ ty1 ?_
  refine And.intro rfl (And.intro rfl ?_)
  exact h1
set_option maxRecDepth 100000 in
theorem r_time {σ : mjS} {ws : List (List Int32)} {ks : List KR} {l : List Int32} (h : Wd σ ws ks l) (ty : mjTY σ) : mjY mjPP (mjQQ Y) (d + 7) 154 0 (mjL0 1 [.ref 0]) [] σ (cmdK σ ws ks l 105 none) := by
  refine mjZ_y rfl rfl 3 _ _ _ _ ty ?_
  refine (And.intro (Nat.le_of_ble_eq_true rfl) (And.intro rfl (And.intro (Nat.le_of_ble_eq_true rfl) (And.intro (Nat.le_of_ble_eq_true rfl) (mjY_mono ty (fun q_ u1 ty1 h_ => ?_) (w_row h ty _))))))
  obtain ⟨rfl, h1, f1⟩ := h_
  intro _
  refine mjZ_y rfl rfl 6 _ _ _ _ ty1 ?_
  refine (And.intro rfl (And.intro (by decide) (And.intro (Nat.le_of_ble_eq_true rfl) (And.intro rfl (And.intro (Nat.le_of_ble_eq_true rfl) (And.intro (Nat.le_of_ble_eq_true rfl) (mjY_mono ty1 (fun q_ u2 ty2 h_ => ?_) (w_numberWord h1 ty1 _))))))))
  obtain ⟨rfl, h2, f2⟩ := h_
  intro _
  refine mjZ_y rfl rfl 6 _ _ _ _ ty2 ?_
  refine (And.intro rfl (And.intro (by decide) (And.intro (Nat.le_of_ble_eq_true rfl) (And.intro rfl (And.intro (Nat.le_of_ble_eq_true rfl) (And.intro (Nat.le_of_ble_eq_true rfl) (mjY_mono ty2 (fun q_ u3 ty3 h_ => ?_) (w_numberWord h2 ty2 _))))))))
  obtain ⟨rfl, h3, f3⟩ := h_
  intro _
  refine mjZ_y rfl rfl 1 _ _ _ _ ty3 ?_
  refine And.intro rfl (And.intro rfl ?_)
  exact ⟨rfl, (f1.c.tr f2.c).tr f3.c, ks, h3, rfl⟩
end ROADS2