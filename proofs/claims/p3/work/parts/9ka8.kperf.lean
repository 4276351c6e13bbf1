/-! A request is performed: what its command does. -/
set_option maxRecDepth 20000
section KPERF
variable {Y : Nat → MethodName × ByteArray} {d : Nat} {σ u : kS} {B ws nmm nmm' : List (List Int32)} {ks ks' : List KC} {j : Nat}
abbrev gL0 : List Nat := [0, 1, 3, 4, 13, 14, 15, 16, 17, 30, 31, 44, 45, 46, 52, 66, 67, 68, 69, 70, 79]
abbrev gL1 : List Nat := [2, 5, 9, 10, 11, 12, 32, 48, 49, 50, 53, 56, 57, 84, 85]
abbrev gL2 : List Nat := [33, 34, 35, 36, 37, 38, 39, 40, 41, 42, 43, 58, 59, 60, 61]
abbrev gL3 : List Nat := [18, 19, 20, 21, 22, 23, 24, 25, 26, 27, 28, 29]
abbrev gL4 : List Nat := [62, 63, 64, 65, 71, 72, 73, 74, 75, 76, 77, 78, 81, 82]
abbrev gL5 : List Nat := [89, 90, 91, 92, 93, 94, 95, 96, 97, 98, 99, 100, 101, 102, 103, 104]
abbrev gL6 : List Nat := [6, 7, 8, 47, 51, 54, 55, 80, 83, 86, 87, 88]
theorem kSg_1 : ∀ j, j < 105 → (kSg 1 (kCmd j).2.2.1 = 18 ∧ j ∈ gL0) ∨ (kSg 1 (kCmd j).2.2.1 = 23 ∧ j ∈ gL1) ∨ (kSg 1 (kCmd j).2.2.1 = 28 ∧ j ∈ gL2) ∨ (kSg 1 (kCmd j).2.2.1 = 33 ∧ j ∈ gL3) ∨ (kSg 1 (kCmd j).2.2.1 = 38 ∧ j ∈ gL4) ∨ (kSg 1 (kCmd j).2.2.1 = 43 ∧ j ∈ gL5) ∨ (kSg 1 (kCmd j).2.2.1 = 48 ∧ j ∈ gL6) := by decide +kernel
theorem kg_0 (ty : kTY σ) (h : JC B σ ws nmm ks j) (hm : j ∈ gL0) : kjY kPP (kQQ Y) (d + 10) 162 0 (mjL0 2 [.ref 67, .ref (1000000 + j)]) [] σ (cmP B σ ws nmm ks j (rnC (σ.1 59 17) (σ.2.1 59 16) ks j ws)) := by
  rcases List.mem_cons.mp hm with rfl | hm
  · exact kc_0 ty h
  rcases List.mem_cons.mp hm with rfl | hm
  · exact kc_1 ty h
  rcases List.mem_cons.mp hm with rfl | hm
  · exact kc_3 ty h
  rcases List.mem_cons.mp hm with rfl | hm
  · exact kc_4 ty h
  rcases List.mem_cons.mp hm with rfl | hm
  · exact kc_13 ty h
  rcases List.mem_cons.mp hm with rfl | hm
  · exact kc_14 ty h
  rcases List.mem_cons.mp hm with rfl | hm
  · exact kc_15 ty h
  rcases List.mem_cons.mp hm with rfl | hm
  · exact kc_16 ty h
  rcases List.mem_cons.mp hm with rfl | hm
  · exact kc_17 ty h
  rcases List.mem_cons.mp hm with rfl | hm
  · exact kc_30 ty h
  rcases List.mem_cons.mp hm with rfl | hm
  · exact kc_31 ty h
  rcases List.mem_cons.mp hm with rfl | hm
  · exact kc_44 ty h
  rcases List.mem_cons.mp hm with rfl | hm
  · exact kc_45 ty h
  rcases List.mem_cons.mp hm with rfl | hm
  · exact kc_46 ty h
  rcases List.mem_cons.mp hm with rfl | hm
  · exact kc_52 ty h
  rcases List.mem_cons.mp hm with rfl | hm
  · exact kc_66 ty h
  rcases List.mem_cons.mp hm with rfl | hm
  · exact kc_67 ty h
  rcases List.mem_cons.mp hm with rfl | hm
  · exact kc_68 ty h
  rcases List.mem_cons.mp hm with rfl | hm
  · exact kc_69 ty h
  rcases List.mem_cons.mp hm with rfl | hm
  · exact kc_70 ty h
  obtain rfl := List.mem_singleton.mp hm
  exact kc_79 ty h
theorem kg_1 (ty : kTY σ) (h : JC B σ ws nmm ks j) (hm : j ∈ gL1) : kjY kPP (kQQ Y) (d + 10) 150 0 (mjL0 2 [.ref 59, .ref (1000000 + j)]) [] σ (cmP B σ ws nmm ks j (rnC (σ.1 59 17) (σ.2.1 59 16) ks j ws)) := by
  rcases List.mem_cons.mp hm with rfl | hm
  · exact kc_2 ty h
  rcases List.mem_cons.mp hm with rfl | hm
  · exact kc_5 ty h
  rcases List.mem_cons.mp hm with rfl | hm
  · exact kc_9 ty h
  rcases List.mem_cons.mp hm with rfl | hm
  · exact kc_10 ty h
  rcases List.mem_cons.mp hm with rfl | hm
  · exact kc_11 ty h
  rcases List.mem_cons.mp hm with rfl | hm
  · exact kc_12 ty h
  rcases List.mem_cons.mp hm with rfl | hm
  · exact kc_32 ty h
  rcases List.mem_cons.mp hm with rfl | hm
  · exact kc_48 ty h
  rcases List.mem_cons.mp hm with rfl | hm
  · exact kc_49 ty h
  rcases List.mem_cons.mp hm with rfl | hm
  · exact kc_50 ty h
  rcases List.mem_cons.mp hm with rfl | hm
  · exact kc_53 ty h
  rcases List.mem_cons.mp hm with rfl | hm
  · exact kc_56 ty h
  rcases List.mem_cons.mp hm with rfl | hm
  · exact kc_57 ty h
  rcases List.mem_cons.mp hm with rfl | hm
  · exact kc_84 ty h
  obtain rfl := List.mem_singleton.mp hm
  exact kc_85 ty h
theorem kg_2 (ty : kTY σ) (h : JC B σ ws nmm ks j) (hm : j ∈ gL2) : kjY kPP (kQQ Y) (d + 10) 188 0 (mjL0 2 [.ref 70, .ref (1000000 + j)]) [] σ (cmP B σ ws nmm ks j (rnC (σ.1 59 17) (σ.2.1 59 16) ks j ws)) := by
  rcases List.mem_cons.mp hm with rfl | hm
  · exact kc_33 ty h
  rcases List.mem_cons.mp hm with rfl | hm
  · exact kc_34 ty h
  rcases List.mem_cons.mp hm with rfl | hm
  · exact kc_35 ty h
  rcases List.mem_cons.mp hm with rfl | hm
  · exact kc_36 ty h
  rcases List.mem_cons.mp hm with rfl | hm
  · exact kc_37 ty h
  rcases List.mem_cons.mp hm with rfl | hm
  · exact kc_38 ty h
  rcases List.mem_cons.mp hm with rfl | hm
  · exact kc_39 ty h
  rcases List.mem_cons.mp hm with rfl | hm
  · exact kc_40 ty h
  rcases List.mem_cons.mp hm with rfl | hm
  · exact kc_41 ty h
  rcases List.mem_cons.mp hm with rfl | hm
  · exact kc_42 ty h
  rcases List.mem_cons.mp hm with rfl | hm
  · exact kc_43 ty h
  rcases List.mem_cons.mp hm with rfl | hm
  · exact kc_58 ty h
  rcases List.mem_cons.mp hm with rfl | hm
  · exact kc_59 ty h
  rcases List.mem_cons.mp hm with rfl | hm
  · exact kc_60 ty h
  obtain rfl := List.mem_singleton.mp hm
  exact kc_61 ty h
theorem kg_3 (ty : kTY σ) (h : JC B σ ws nmm ks j) (hm : j ∈ gL3) : kjY kPP (kQQ Y) (d + 10) 202 0 (mjL0 2 [.ref 71, .ref (1000000 + j)]) [] σ (cmP B σ ws nmm ks j (rnC (σ.1 59 17) (σ.2.1 59 16) ks j ws)) := by
  rcases List.mem_cons.mp hm with rfl | hm
  · exact kc_18 ty h
  rcases List.mem_cons.mp hm with rfl | hm
  · exact kc_19 ty h
  rcases List.mem_cons.mp hm with rfl | hm
  · exact kc_20 ty h
  rcases List.mem_cons.mp hm with rfl | hm
  · exact kc_21 ty h
  rcases List.mem_cons.mp hm with rfl | hm
  · exact kc_22 ty h
  rcases List.mem_cons.mp hm with rfl | hm
  · exact kc_23 ty h
  rcases List.mem_cons.mp hm with rfl | hm
  · exact kc_24 ty h
  rcases List.mem_cons.mp hm with rfl | hm
  · exact kc_25 ty h
  rcases List.mem_cons.mp hm with rfl | hm
  · exact kc_26 ty h
  rcases List.mem_cons.mp hm with rfl | hm
  · exact kc_27 ty h
  rcases List.mem_cons.mp hm with rfl | hm
  · exact kc_28 ty h
  obtain rfl := List.mem_singleton.mp hm
  exact kc_29 ty h
theorem kg_4 (ty : kTY σ) (h : JC B σ ws nmm ks j) (hm : j ∈ gL4) : kjY kPP (kQQ Y) (d + 10) 203 0 (mjL0 2 [.ref 71, .ref (1000000 + j)]) [] σ (cmP B σ ws nmm ks j (rnC (σ.1 59 17) (σ.2.1 59 16) ks j ws)) := by
  rcases List.mem_cons.mp hm with rfl | hm
  · exact kc_62 ty h
  rcases List.mem_cons.mp hm with rfl | hm
  · exact kc_63 ty h
  rcases List.mem_cons.mp hm with rfl | hm
  · exact kc_64 ty h
  rcases List.mem_cons.mp hm with rfl | hm
  · exact kc_65 ty h
  rcases List.mem_cons.mp hm with rfl | hm
  · exact kc_71 ty h
  rcases List.mem_cons.mp hm with rfl | hm
  · exact kc_72 ty h
  rcases List.mem_cons.mp hm with rfl | hm
  · exact kc_73 ty h
  rcases List.mem_cons.mp hm with rfl | hm
  · exact kc_74 ty h
  rcases List.mem_cons.mp hm with rfl | hm
  · exact kc_75 ty h
  rcases List.mem_cons.mp hm with rfl | hm
  · exact kc_76 ty h
  rcases List.mem_cons.mp hm with rfl | hm
  · exact kc_77 ty h
  rcases List.mem_cons.mp hm with rfl | hm
  · exact kc_78 ty h
  rcases List.mem_cons.mp hm with rfl | hm
  · exact kc_81 ty h
  obtain rfl := List.mem_singleton.mp hm
  exact kc_82 ty h
theorem kg_5 (ty : kTY σ) (h : JC B σ ws nmm ks j) (hm : j ∈ gL5) : kjY kPP (kQQ Y) (d + 10) 229 0 (mjL0 2 [.ref 75, .ref (1000000 + j)]) [] σ (cmP B σ ws nmm ks j (rnC (σ.1 59 17) (σ.2.1 59 16) ks j ws)) := by
  rcases List.mem_cons.mp hm with rfl | hm
  · exact kc_89 ty h
  rcases List.mem_cons.mp hm with rfl | hm
  · exact kc_90 ty h
  rcases List.mem_cons.mp hm with rfl | hm
  · exact kc_91 ty h
  rcases List.mem_cons.mp hm with rfl | hm
  · exact kc_92 ty h
  rcases List.mem_cons.mp hm with rfl | hm
  · exact kc_93 ty h
  rcases List.mem_cons.mp hm with rfl | hm
  · exact kc_94 ty h
  rcases List.mem_cons.mp hm with rfl | hm
  · exact kc_95 ty h
  rcases List.mem_cons.mp hm with rfl | hm
  · exact kc_96 ty h
  rcases List.mem_cons.mp hm with rfl | hm
  · exact kc_97 ty h
  rcases List.mem_cons.mp hm with rfl | hm
  · exact kc_98 ty h
  rcases List.mem_cons.mp hm with rfl | hm
  · exact kc_99 ty h
  rcases List.mem_cons.mp hm with rfl | hm
  · exact kc_100 ty h
  rcases List.mem_cons.mp hm with rfl | hm
  · exact kc_101 ty h
  rcases List.mem_cons.mp hm with rfl | hm
  · exact kc_102 ty h
  rcases List.mem_cons.mp hm with rfl | hm
  · exact kc_103 ty h
  obtain rfl := List.mem_singleton.mp hm
  exact kc_104 ty h
theorem rn_no {i : Nat} (hi : rid j = i) (h2 : ¬ i = 2 ∧ ¬ i ∈ tiI) (hco : ∀ A, coF i ws A = none) (rp : Int32) (now : Int64) : rnC rp now ks j ws = none := by
  unfold rnC
  rw [hi]
  by_cases c : fuB rp ks j ∨ (i = 19 ∧ sbC (gw ws 2) (gw ws 3) = none)
  · rw [if_pos c]
  · rw [if_neg c, if_neg (fun z : i = 2 ∧ _ => h2.1 z.1)]
    unfold rnF
    rw [if_neg h2.1, if_neg h2.2, hco]
    by_cases q : sfB i 0 ws (skA ks) = true
    · rw [if_pos q]; rfl
    · rw [if_neg q]
theorem rn_oth (hm : j ∈ gL6) (rp : Int32) (now : Int64) : rnC rp now ks j ws = none := by
  rcases List.mem_cons.mp hm with rfl | hm
  · exact rn_no rfl (by decide) (fun _ => rfl) rp now
  rcases List.mem_cons.mp hm with rfl | hm
  · exact rn_no rfl (by decide) (fun _ => rfl) rp now
  rcases List.mem_cons.mp hm with rfl | hm
  · exact rn_no rfl (by decide) (fun _ => rfl) rp now
  rcases List.mem_cons.mp hm with rfl | hm
  · exact rn_no rfl (by decide) (fun _ => rfl) rp now
  rcases List.mem_cons.mp hm with rfl | hm
  · exact rn_no rfl (by decide) (fun _ => rfl) rp now
  rcases List.mem_cons.mp hm with rfl | hm
  · exact rn_no rfl (by decide) (fun _ => rfl) rp now
  rcases List.mem_cons.mp hm with rfl | hm
  · exact rn_no rfl (by decide) (fun _ => rfl) rp now
  rcases List.mem_cons.mp hm with rfl | hm
  · exact rn_no rfl (by decide) (fun _ => rfl) rp now
  rcases List.mem_cons.mp hm with rfl | hm
  · exact rn_no rfl (by decide) (fun _ => rfl) rp now
  rcases List.mem_cons.mp hm with rfl | hm
  · exact rn_no rfl (by decide) (fun _ => rfl) rp now
  rcases List.mem_cons.mp hm with rfl | hm
  · exact rn_no rfl (by decide) (fun _ => rfl) rp now
  obtain rfl := List.mem_singleton.mp hm
  exact rn_no rfl (by decide) (fun _ => rfl) rp now
end KPERF
