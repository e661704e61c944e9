/-! the law's loop -/
section B99
variable {E : am_E} {S : am_S} {iv : am_I} {nf i r : Nat} {a5 a6 : Value}

/-- one round of the loop -/
theorem law_body (hi : i + 6 ≤ am_L E) (hL : am_L E ≤ 3072) (h : IV S iv nf) (K : K49 E r i) : am_R E 902 mL_law (12 * (r + 1)) (6200 * (r + 1) + 4 * (32768 - nf)) 33 [.null, .ref 0, .ref 54, .ref 88, .int (nI i), a5, a6] [] S iv LQ := by
  have hi0 : vp_in (nI i) (am_L E) := am_vin (by omega) (by omega)
  refine sL_law_33 rfl (sL_law_34 (sL_law_36 hi0 (sL_law_37 (sL_law_39 ?_))))
  obtain ⟨n, hn, e⟩ := law_31 (am_xs E (nI i).toNatClampNeg)
  rw [e]
  by_cases h22 : 22 < n
  · refine sL_law_40_d (Or.inr (by rw [nI_toInt (by omega)]; omega)) ?_
    exact am_R.less (K nf S iv _ _ h) (by omega) (by omega)
  · rcases (show n = 0 ∨ n = 1 ∨ n = 2 ∨ n = 3 ∨ n = 4 ∨ n = 5 ∨ n = 6 ∨ n = 7 ∨ n = 8 ∨ n = 9 ∨ n = 10 ∨ n = 11 ∨ n = 12 ∨ n = 13 ∨ n = 14 ∨ n = 15 ∨ n = 16 ∨ n = 17 ∨ n = 18 ∨ n = 19 ∨ n = 20 ∨ n = 21 ∨ n = 22 by omega) with rfl | rfl | rfl | rfl | rfl | rfl | rfl | rfl | rfl | rfl | rfl | rfl | rfl | rfl | rfl | rfl | rfl | rfl | rfl | rfl | rfl | rfl | rfl
    · exact sL_law_40_0 (LC_feed hi hL h K)
    · exact sL_law_40_1 (LC_city hi hL h K)
    · exact sL_law_40_2 (LC_fault hi hL h K)
    · exact sL_law_40_3 (LC_count hi hL h K)
    · exact sL_law_40_4 (LC_drawer hi hL h K)
    · exact sL_law_40_5 (LC_person hi hL h K)
    · exact sL_law_40_6 (LC_may hi hL h K)
    · exact sL_law_40_7 (LC_broken hi hL h K)
    · exact sL_law_40_8 (LC_move hi hL h K)
    · exact sL_law_40_9 (LC_undo hi hL h K)
    · exact sL_law_40_10 (LC_sleeps hi hL h K)
    · exact sL_law_40_11 (LC_opens hi hL h K)
    · exact sL_law_40_12 (LC_shuts hi hL h K)
    · exact sL_law_40_13 (LC_bread hi hL h K)
    · exact sL_law_40_14 (LC_row hi hL h K)
    · exact sL_law_40_15 (LC_harm hi hL h K)
    · exact sL_law_40_16 (LC_married hi hL h K)
    · exact sL_law_40_17 (LC_rent hi hL h K)
    · exact sL_law_40_18 (LC_wind hi hL h K)
    · exact sL_law_40_19 (LC_who hi hL h K)
    · exact sL_law_40_20 (LC_odds hi hL h K)
    · exact sL_law_40_21 (LC_image hi hL h K)
    · exact sL_law_40_22 (LC_restore hi hL h K)
/-- the loop -/
theorem law_loop (hL : am_L E ≤ 3072) : ∀ (r i nf : Nat), am_L E < i + 6 * (r + 1) → i ≤ 3078 → ∀ (S : am_S) (iv : am_I) (a5 a6 : Value), IV S iv nf → am_R E 902 mL_law (12 * r) (6200 * r + 4 * (32768 - nf)) 23 [.null, .ref 0, .ref 54, .ref 88, .int (nI i), a5, a6] [] S iv LQ := by
  have sub6 : ∀ i, i ≤ 3078 → ((Int32.ofNat (am_L E) - 6 < nI i) ↔ am_L E < i + 6) := by
    intro i hi
    have e1 : (Int32.ofNat (am_L E)).toInt = am_L E := nI_toInt (by omega)
    have e2 : (Int32.ofNat (am_L E) - 6).toInt = (am_L E : Int) - 6 := by
      rw [Int32.toInt_sub, e1, show (6 : Int32).toInt = 6 from rfl, Int.bmod_eq_of_le (by omega) (by omega)]
    rw [Int32.lt_iff_toInt_lt, e2, nI_toInt (by omega)]
    omega
  have EX : ∀ (k n i : Nat) (S : am_S) (iv : am_I) (a5 a6 : Value), am_R E 902 mL_law k n 1255 [.null, .ref 0, .ref 54, .ref 88, .int (nI i), a5, a6] [] S iv LQ := by
    intro k n i S iv a5 a6
    exact sL_law_1255 (sL_law_1256 rfl rfl)
  intro r
  induction r with
  | zero =>
    intro i nf h1 h2 S iv a5 a6 h
    refine sL_law_23 (sL_law_25 rfl (sL_law_26 (sL_law_27 (sL_law_29 (sL_law_30 (fun _ => EX _ _ _ _ _ _ _) (fun q => ?_))))))
    exact absurd ((sub6 i h2).mpr (by omega)) q
  | succ r ih =>
    intro i nf h1 h2 S iv a5 a6 h
    refine sL_law_23 (sL_law_25 rfl (sL_law_26 (sL_law_27 (sL_law_29 (sL_law_30 (fun _ => EX _ _ _ _ _ _ _) (fun q => ?_))))))
    have hi : i + 6 ≤ am_L E := by
      by_cases hh : am_L E < i + 6
      · exact absurd ((sub6 i h2).mpr hh) q
      · omega
    refine law_body hi hL h (fun nf' S' iv2 b5 b6 hI => ?_)
    refine sL_law_1249 (sL_law_1252 ?_)
    rw [show (6 : Int32) = nI 6 from rfl, nI_add]
    exact ih (i + 6) nf' (by omega) (by omega) S' iv2 b5 b6 hI
end B99
