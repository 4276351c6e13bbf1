/-! SETBIT: the class takes 0 and 1 as they are written alone. -/
theorem or_mask (x m : Int32) : (x &&& (m ^^^ Int32.ofInt (-1))) ||| m = x ||| m := by
  apply Int32.toBitVec_inj.mp
  simp only [Int32.toBitVec_or, Int32.toBitVec_and, Int32.toBitVec_xor]
  apply BitVec.eq_of_getLsbD_eq
  intro i hi
  have e : (Int32.ofInt (-1)).toBitVec = BitVec.allOnes 32 := by decide
  rw [e, BitVec.getLsbD_or, BitVec.getLsbD_and, BitVec.getLsbD_xor, BitVec.getLsbD_allOnes, BitVec.getLsbD_or]
  cases x.toBitVec.getLsbD i <;> cases m.toBitVec.getLsbD i <;> simp [hi]
theorem or_none (x : Int32) : x ||| 0 = x := by
  apply Int32.toBitVec_inj.mp
  rw [Int32.toBitVec_or]
  exact BitVec.or_zero
def msC (n : Nat) : Int32 := (Int16.ofInt 128).toInt32 >>> ((nI (n % 8)) &&& 31)
theorem msC_B (n : Nat) (hn : n < 2 ^ 30) : msC n = Int32.ofInt 1 <<< (sbB (lN n) &&& 31) ∧ sbB (lN n) = nI (7 - n % 8) := by
  have e : (lN n).toInt32 - (lN n).toInt32 / (Int8.ofInt 8).toInt32 * (Int8.ofInt 8).toInt32 = nI (n % 8) := by
    rw [lN_i, show (Int8.ofInt 8).toInt32 = nI 8 from by decide, pk_div (by omega) (by decide) (by decide), nI_mul, pk_sub (by omega)]
    congr 1; omega
  have e2 : sbB (lN n) = nI (7 - n % 8) := by
    unfold sbB; rw [e, show (Int8.ofInt 7).toInt32 = nI 7 from by decide, pk_sub (by omega)]
  refine ⟨?_, e2⟩
  rw [e2]; unfold msC
  have h : n % 8 < 8 := Nat.mod_lt _ (by decide)
  generalize n % 8 = r at h
  have q : ∀ r < 8, (Int16.ofInt 128).toInt32 >>> (nI r &&& 31) = Int32.ofInt 1 <<< (nI (7 - r) &&& 31) := by decide
  exact q r h
theorem sbX_c (n : Nat) (hn : n < 2 ^ 30) (one : Bool) (x : Int32) : sbX (lN n) (if one = true then 1 else 0) x = (if one = true then x ||| msC n else x &&& (msC n ^^^ Int32.ofInt (-1))).toInt8.toInt32 := by
  unfold sbX
  obtain ⟨h1, h2⟩ := msC_B n hn
  cases one with
  | true =>
    show ((x &&& ((Int32.ofInt 1 <<< (sbB (lN n) &&& 31)) ^^^ Int32.ofInt (-1))) ||| (Int32.ofInt 1 <<< (sbB (lN n) &&& 31))).toInt8.toInt32 = (x ||| msC n).toInt8.toInt32
    rw [h1, or_mask]
  | false =>
    have e0 : (if false = true then (1 : Int64) else 0).toInt32 <<< (sbB (lN n) &&& 31) = 0 := by
      rw [h2]
      have h : n % 8 < 8 := Nat.mod_lt _ (by decide)
      generalize n % 8 = r at h
      have q : ∀ r < 8, (if false = true then (1 : Int64) else 0).toInt32 <<< (nI (7 - r) &&& 31) = 0 := by decide
      exact q r h
    rw [e0, or_none, h1]; rfl
section KSBIT
variable {Y : Nat → MethodName × ByteArray} {d : Nat} {σ0 σ u : kS} {B ws nm nm' : List (List Int32)} {ks : List KC}
theorem wd_setA {f g : Nat → Int32} {a n i : Nat} {t : List Int32} {b : Int32} (h : wd f a n = t) (hi : i < n) (e : ∀ x, g x = if x = a + i then b else f x) : wd g a n = t.set i b := by
  refine List.ext_getElem? fun k => ?_
  rw [List.getElem?_set, ← h]
  by_cases c : k < n
  · rw [wd_get c, wd_get c, wd_len, e]
    by_cases c2 : i = k
    · rw [if_pos c2, if_pos hi, if_pos (by omega)]
    · rw [if_neg c2, if_neg (by omega)]
  · have e1 : (wd g a n)[k]? = none := List.getElem?_eq_none (by rw [wd_len]; omega)
    have e2 : (wd f a n)[k]? = none := List.getElem?_eq_none (by rw [wd_len]; omega)
    rw [e1, e2, wd_len, if_neg (by omega)]
def bsT (n : Nat) (one : Bool) (t : List Int32) : List Int32 := (padT t (n / 8 + 1)).set (n / 8) (sbX (lN n) (if one = true then 1 else 0) ((padT t (n / 8 + 1)).getD (n / 8) 0))
theorem kx_sbit60 (ty : kTY σ) {P Q : List KC} {x : KC} (w : KWd σ0 B σ ws nm (P ++ x :: Q)) (hs : x.2.2.2.2.2.2.1 = 0) {k n : Nat} (hn : n ≤ 131071) (hk : nm[k]? = some x.2.2.2.2.2.1) (hr : RSD (P ++ Q)) (hm : x.2.2.2.2.2.2.2.2.2.1.length ≤ 16384) (hcap : xtA (skA (P ++ x :: Q)) + 16384 ≤ 98304) (one : Bool) (x1 x2 x3 x4 : Int32) (e1 : x1 = if one = true then 1 else 0) (e2 : x2 = nI k) (e3 : x3 = nI (n / 8)) (e4 : x4 = msC n) :
    kjY kPP (kQQ Y) (d + 7) 184 60 [some (.ref 67), some (.int x1), some (.int x2), some (.int x3), some (.int x4), some (.ref x.1), none] [] σ (fun r z => r = none ∧ cdS σ0 B σ ws nm (skA (P ++ mkK x (txG (bsT n one) x.2.2.2.2.2) :: Q)) z) := by
  obtain ⟨z1, z2, kv⟩ := w.tz hs
  refine kjZ_y rfl rfl 8 _ _ _ _ ty ?_
  refine (And.intro (by assumption) (And.intro (Nat.le_of_ble_eq_true rfl) (And.intro (Nat.le_of_ble_eq_true rfl) (And.intro (Nat.le_of_ble_eq_true rfl) (kjY_mono ty (fun q_ u1 ty1 xu1 h_ => ?_) (k_max ty _ _))))))
  obtain ⟨rfl, rfl⟩ := h_
  intro _ _
  have em : (if u1.1 x.1 6 < x3 + Int32.ofInt 1 then x3 + Int32.ofInt 1 else u1.1 x.1 6) = nI (max x.2.2.2.2.2.2.2.2.2.1.length (n / 8 + 1)) := by
    rw [z1, e3, show nI (n / 8) + Int32.ofInt 1 = nI (n / 8 + 1) from nI_1 _]
    by_cases c : x.2.2.2.2.2.2.2.2.2.1.length < n / 8 + 1
    · rw [if_pos ((nlt (by omega) (by omega)).mpr c), Nat.max_eq_right (by omega)]
    · rw [if_neg (fun z => c ((nlt (by omega) (by omega)).mp z)), Nat.max_eq_left (by omega)]
  refine kjZ_y rfl rfl 1 _ _ _ _ ty1 ?_
  refine (And.intro (Nat.le_of_ble_eq_true rfl) (And.intro (Or.inl ⟨(Nat.le_of_ble_eq_true rfl), (ty1.k (by decide) rfl)⟩) (And.intro (Nat.le_of_ble_eq_true rfl) (And.intro (Nat.le_of_ble_eq_true rfl) (kjY_mono ty1 (fun q_ u3 ty3 xu3 h_ => ?_) (kx_stretch ty1 w hs (m := max x.2.2.2.2.2.2.2.2.2.1.length (n / 8 + 1)) (Nat.max_le.mpr ⟨hm, by omega⟩) hcap _ em))))))
  obtain ⟨rfl, w3, s3⟩ := h_
  intro _ _
  have kv3 : (u3.2.2.2.1 x.1).1 = 11 := xu3.k ty1 kv (by decide)
  have eP : stT (max x.2.2.2.2.2.2.2.2.2.1.length (n / 8 + 1)) x.2.2.2.2.2.2.2.2.2.1 = padT x.2.2.2.2.2.2.2.2.2.1 (n / 8 + 1) := stT_pad _ _
  have ek : mkK x (txG (stT (max x.2.2.2.2.2.2.2.2.2.1.length (n / 8 + 1))) x.2.2.2.2.2) = mkK x (txG (fun t => padT t (n / 8 + 1)) x.2.2.2.2.2) := by
    show mkK x (_, _, _, _, stT _ _, _) = mkK x (_, _, _, _, padT _ _, _)
    rw [eP]
  rw [ek] at w3
  generalize hy : mkK x (txG (fun t => padT t (n / 8 + 1)) x.2.2.2.2.2) = y at w3
  have yt : y.2.2.2.2.2.2.2.2.2.1 = padT x.2.2.2.2.2.2.2.2.2.1 (n / 8 + 1) := by rw [← hy]; rfl
  have ys : y.2.2.2.2.2.2.1 = 0 := by rw [← hy]; exact hs
  have y1 : y.1 = x.1 := by rw [← hy]; rfl
  rw [← y1] at kv3 ⊢
  have hl := padT_len x.2.2.2.2.2.2.2.2.2.1 (n / 8 + 1)
  have hl8 : n / 8 < y.2.2.2.2.2.2.2.2.2.1.length := by rw [yt]; omega
  refine kjZ_y rfl rfl 4 _ _ _ _ ty3 ?_
  refine (And.intro (Nat.le_of_ble_eq_true rfl) (And.intro (Or.inl ⟨(Nat.le_of_ble_eq_true rfl), (ty3.k (by decide) rfl)⟩) (And.intro (Nat.le_of_ble_eq_true rfl) (And.intro (Nat.le_of_ble_eq_true rfl) (kjY_mono ty3 (fun q_ u4 ty4 xu4 h_ => ?_) (kx_byteAt ty3 w3 ys (i := n / 8) (by omega) _ e3))))))
  obtain ⟨rfl, rfl⟩ := h_
  intro _ _
  obtain ⟨rt, NT, st, ro, ⟨g1, g2, g3⟩, ⟨v1, v6, v7, v8⟩, ⟨n1, n2, n3, n5⟩, ⟨nn1, nn2⟩, close⟩ := w3.tx ty4 ys
  generalize hold : y.2.2.2.2.2.2.2.2.2.1.getD (n / 8) 0 = old
  refine kjZ_y rfl rfl 3 _ _ _ _ ty4 ?_
  refine (And.intro (Nat.le_of_ble_eq_true rfl) (And.intro (fun c => ?_) (fun c => ?_)))
  · exact absurd (show x3 < 0 from c) (by rw [e3]; exact nI_n0 (by omega))
  refine kjZ_y rfl rfl 4 _ _ _ _ ty4 ?_
  refine (And.intro (by assumption) (And.intro (fun c2 => ?_) (fun c2 => ?_)))
  · refine absurd (show u4.1 y.1 6 ≤ x3 from c2) ?_
    rw [v6, e3, nle (by omega) (by omega)]; omega
  have go : ∀ (z : kS), kTY z → z = (mjIu u4.1 rt (st + n / 8) (if one = true then old ||| msC n else old &&& (msC n ^^^ Int32.ofInt (-1))).toInt8.toInt32, u4.2) → kjY kPP (kQQ Y) (d + 7) 184 100 [some (.ref 67), some (.int x1), some (.int x2), some (.int x3), some (.int x4), some (.ref y.1), some (.int old)] [] z (fun r z => r = none ∧ cdS σ0 B u1 ws nm (skA (P ++ mkK x (txG (bsT n one) x.2.2.2.2.2) :: Q)) z) := by
    intro z tz ez
    have eI : ∀ h x, z.1 h x = if h = rt ∧ x = st + n / 8 then (if one = true then old ||| msC n else old &&& (msC n ^^^ Int32.ofInt (-1))).toInt8.toInt32 else u4.1 h x := fun h x => by
      rw [ez]; show mjIu u4.1 rt _ _ h x = _; rw [mjIu_at]
    have eT : bsT n one x.2.2.2.2.2.2.2.2.2.1 = y.2.2.2.2.2.2.2.2.2.1.set (n / 8) (if one = true then old ||| msC n else old &&& (msC n ^^^ Int32.ofInt (-1))).toInt8.toInt32 := by
      unfold bsT; rw [← yt, hold, sbX_c n (by omega)]
    have eLen : (bsT n one x.2.2.2.2.2.2.2.2.2.1).length = y.2.2.2.2.2.2.2.2.2.1.length := by rw [eT, List.length_set]
    obtain ⟨wz, sz⟩ := close z (bsT n one x.2.2.2.2.2.2.2.2.2.1) (by omega) (by rw [ez]) (fun h x a1 a2 => by rw [eI, if_neg (fun q => a2 ⟨q.1, by omega, by omega⟩)]) (by
        rw [eI, if_neg (fun q => nn1 q.1.symm), eLen]
        obtain ⟨fr, vs, k0, n0, e0, t0, cs0, hR, hV, a1, hav, hd, ht, s6, hn6, s4⟩ := w3.op_
        rw [s4, ← hy]
        show nI (wtC _) = _
        unfold wtC txG
        show nI (if x.2.2.2.2.2.2.1 = 0 then (padT _ _).length else _) = nI (padT _ _).length
        rw [if_pos hs]) (by rw [eI, if_neg (fun q => nn1 q.1.symm), eLen]; exact v6) (by
        rw [eLen, eT]
        exact wd_setA n5 hl8 (fun x => by rw [eI]; by_cases q : x = st + n / 8
                                          · rw [if_pos ⟨rfl, q⟩, if_pos q]
                                          · rw [if_neg (fun z => q z.2), if_neg q]))
    have ek2 : mkK y (txG (fun _ => bsT n one x.2.2.2.2.2.2.2.2.2.1) y.2.2.2.2.2) = mkK x (txG (bsT n one) x.2.2.2.2.2) := by rw [← hy]; rfl
    rw [ek2] at wz
    have kvz : (z.2.2.2.1 y.1).1 = 11 := by rw [ez]; exact kv3
    rw [y1] at kvz ⊢
    refine kjZ_y rfl rfl 5 _ _ _ _ tz ?_
    refine (And.intro (tz.k (by decide) rfl) (And.intro (Nat.le_of_ble_eq_true rfl) (And.intro (Or.inl ⟨(Nat.le_of_ble_eq_true rfl), (tz.k (by decide) rfl)⟩) (And.intro (Nat.le_of_ble_eq_true rfl) (And.intro (Nat.le_of_ble_eq_true rfl) (kjY_mono tz (fun q_ u5 ty5 xu5 h_ => ?_) (kx_settle (x := mkK x (txG (bsT n one) x.2.2.2.2.2)) tz wz (k := k) hk _ e2)))))))
    obtain ⟨q9, q9b⟩ := h_
    intro _ _
    obtain ⟨rfl, nmA, ksA, pA, wA, rA, eA, cA, sA⟩ := cd_se (σ := u1) PRE.rf ((s3.tr sz).g) ⟨q9, q9b⟩ (wkO_mk _ _) hr (fun z => absurd z (emB_tx hs _)) (fun _ => rfl)
    obtain ⟨b, hb, eb⟩ := wA.2.2.2.2.2.2.1
    have kb := ob_k ty5 (ANn_b b (ANb_n b hb)).1
    have fin : ∀ nn : Int64, kjY kPP (kQQ Y) (d + 7) 184 115 [some (.ref 67), some (.int x1), some (.int x2), some (.int x3), some (.int x4), some (.ref x.1), some (.int old)] [.long nn, .ref b] u5 (fun r z => r = none ∧ cdS σ0 B u1 ws nm (skA (P ++ mkK x (txG (bsT n one) x.2.2.2.2.2) :: Q)) z) := by
      intro nn
      refine kjZ_y rfl rfl 1 _ _ _ _ ty5 ?_
      refine (And.intro (Nat.le_of_ble_eq_true rfl) (And.intro (Or.inl ⟨(Nat.le_of_ble_eq_true rfl), (by assumption)⟩) (And.intro (Nat.le_of_ble_eq_true rfl) (And.intro (Nat.le_of_ble_eq_true rfl) (kjY_mono ty5 (fun q_ u6 ty6 xu6 h_ => ?_) (kx_number ty5 wA hb _))))))
      obtain ⟨rfl, w6, s6⟩ := h_
      intro _ _
      refine kjZ_y rfl rfl 1 _ _ _ _ ty6 ?_
      refine And.intro rfl (And.intro rfl ?_)
      exact ⟨rfl, nmA, ksA, pA, w6, rA, eA, (s6 (59, 18) (by decide)).1.trans cA, sA.tr s6.g⟩
    refine kjZ_y rfl rfl 7 _ _ _ _ ty5 ?_
    refine (And.intro (ty5.k (by decide) rfl) (And.intro (ty5.k (by decide) rfl) (Exists.intro _ (And.intro eb (And.intro (fun c5 => ?_) (fun c5 => ?_))))))
    · refine kjZ_y rfl rfl 1 _ _ _ _ ty5 ?_
      exact fin _
    · refine kjZ_y rfl rfl 2 _ _ _ _ ty5 ?_
      exact fin _
  have ev : u4.1 y.1 7 + x3 = nI (st + n / 8) := by rw [v7, e3, nI_add]
  have vp : vp_in (u4.1 y.1 7 + x3) NT := by rw [ev]; exact vp_in_nI (by omega) (by omega)
  have ec : (u4.1 y.1 7 + x3).toNatClampNeg = st + n / 8 := by rw [ev]; exact nI_clamp (by omega)
  cases one with
  | true =>
    refine kjZ_y rfl rfl 9 _ _ _ _ ty4 ?_
    refine (And.intro (ty4.k (by decide) rfl) (And.intro (ty4.k (by decide) rfl) (Exists.intro _ (And.intro g1 (And.intro (by assumption) (And.intro (fun c5 => ?_) (fun c5 => ?_)))))))
    · exact absurd (show x1 = 0 from c5) (by rw [e1]; decide)
    refine kjZ_y rfl rfl 4 _ _ _ _ ty4 ?_
    refine kjZ_y rfl rfl 2 _ _ _ _ ty4 ?_
    refine (And.intro ⟨(kdk g2), (b8 _)⟩ (And.intro (kdv g2 vp) (fun ty4' => ?_)))
    refine go _ ty4' ?_
    rw [← ec, ← e4]; rfl
  | false =>
    refine kjZ_y rfl rfl 9 _ _ _ _ ty4 ?_
    refine (And.intro (ty4.k (by decide) rfl) (And.intro (ty4.k (by decide) rfl) (Exists.intro _ (And.intro g1 (And.intro (by assumption) (And.intro (fun c5 => ?_) (fun c5 => ?_)))))))
    rotate_left
    · exact absurd (show x1 = 0 by rw [e1]; rfl) c5
    refine kjZ_y rfl rfl 5 _ _ _ _ ty4 ?_
    refine kjZ_y rfl rfl 2 _ _ _ _ ty4 ?_
    refine (And.intro ⟨(kdk g2), (b8 _)⟩ (And.intro (kdv g2 vp) (fun ty4' => ?_)))
    refine go _ ty4' ?_
    rw [← ec, ← e4]; rfl
end KSBIT
