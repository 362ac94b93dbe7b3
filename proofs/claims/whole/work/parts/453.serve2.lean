section
variable {M F G B N O w : Nat} {σ τ : St}
def MD2 (M F G B N O : Nat) : Prop := MC M F G B ∧ ch M 9 = N ∧ ch M 12 = O ∧ O ≠ M ∧ O ≠ F ∧ O ≠ G ∧ O ≠ B ∧ N ≠ M ∧ N ≠ F ∧ N ≠ G ∧ N ≠ B ∧ N ≠ O ∧ kd G = 900 ∧ al G = 8
theorem v_serve (H : MD2 M F G B N O) (V : Vr M F G B w σ τ) (I : IOr M N O w σ τ) {s : Int32} (hs : s = 16 ∨ s = 32 ∨ s = 48) (hf : s = 16 → ¬ σ M 13 = 100) :
    ∃ σ' τ', Machine_serve M s σ = some σ' ∧ Mo_serves 67 s τ = some τ' ∧ Vr M F G B w σ' τ' ∧ IOr M N O w σ' τ' ∧ FX w τ τ' ∧ σ' F = σ F ∧ σ' G 4 = σ G 4 ∧ (∀ k, k ≠ 5 → k ≠ 11 → k ≠ 13 → σ' M k = σ M k) ∧ τ' 93 = τ 93 ∧ τ' 94 = τ 94 ∧ τ' 67 39 = τ 67 39 := by
  obtain ⟨hM, n9, n12, o1, o2, o3, o4, u1, u2, u3, u4, u5, kG, aG⟩ := H
  obtain ⟨m1, m2, m3, m4, m5, m6, m7, m8, m9⟩ := id hM
  obtain ⟨v1, v2, v3, v4, v5, v6, v7, v8, v9⟩ := id V
  obtain ⟨ic, k, oc, c1, c2, c3, i1, i2, i3, i4, i5, i6, i7, i8'⟩ := I
  rcases hs with rfl | rfl | rfl
  · -- OUT
    have hoc : oc < 100 := by
      rcases Nat.lt_or_ge oc 100 with q | q
      · exact q
      · exfalso; refine hf rfl ?_; rw [i5, show oc = 100 by omega]; rfl
    have r3 : inR (3 : Int32) := by decide
    have e3 : rgv σ G 3 = σ G 3 := by unfold rgv; rw [if_pos r3]; rfl
    have ec : Machine_serve M 16 σ = some (s2 (s2 σ O oc (σ G 3)) M 13 (nI (oc + 1))) := by
      unfold Machine_serve
      rw [if_pos (by decide), if_pos (by decide), i5, if_neg (lf_nle 100 100 oc rfl hoc (by decide)), m2, ld_L 3 3 rfl (by decide) (by decide), n12, sa_nI hoc (by decide), nm_of, s2_ne o1.symm, i5, nI_1]
    have em : Mo_serves 67 16 τ = some (s2 (s2 τ 91 (100 * w + oc) (σ G 3)) 92 w (nI (oc + 1))) := by
      unfold Mo_serves
      rw [if_neg (by decide), cc_67_35, v8, ld_nI v9 (by decide), i6, m_reg V r3, cl_of, e3, cc_67_34, show (100 : Int32) * nI w + nI oc = nI (100 * w + oc) by rw [show (100 : Int32) = nI 100 from rfl, nI_mul, nI_add], sa_nI (by omega) (by decide), nm_of, s2_ne (by decide), v8, ld_nI v9 (by decide), s2_ne (by decide), i6, sa_nI v9 (by decide), nI_1]
    refine ⟨_, _, ec, em, ?_, ?_, ?_, ?_, ?_, ?_, ?_, ?_, ?_⟩
    · refine vr_t (vr_c V ?_ ?_ ?_ ?_) ?_ ?_ ?_ ?_ ?_
      · rw [s2_ne m5.symm, s2_ne o3.symm]
      · rw [s2_ne m4.symm, s2_ne o2.symm]
      · rw [s2_ne m6.symm, s2_ne o4.symm]
      · rw [s2_row, upd_ne (by decide), s2_ne o1.symm]
      all_goals (rw [s2_ne (by decide), s2_ne (by decide)])
    · refine ⟨ic, k, oc + 1, c1, c2, by omega, ?_, ?_, ?_, ?_, ?_, ?_, ?_, ?_⟩
      · rw [s2_row, upd_ne (by decide), s2_ne o1.symm]; exact i1
      · rw [s2_ne (by decide), s2_ne (by decide)]; exact i2
      · rw [s2_row, upd_ne (by decide), s2_ne o1.symm]; exact i3
      · rw [s2_ne (by decide), s2_ne (by decide)]; exact i4
      · rw [s2_row, upd_s]
      · rw [s2_row, upd_s]
      · intro j hj; rw [s2_ne u1, s2_ne u5, s2_ne (by decide), s2_ne (by decide)]; exact i7 j hj
      · intro j hj
        rw [s2_ne o1, s2_row, s2_ne (by decide), s2_row, upd_at, upd_at]
        by_cases q : j = oc
        · rw [if_pos q, if_pos (by omega)]
        · rw [if_neg q, if_neg (by omega)]; exact i8' j (by omega)
    · refine ⟨fun c x y => ?_, fun j x y z u v => ?_, fun j x => ?_, fun j x => ?_, fun j x => ?_, fun j x => ?_, fun j x => ⟨?_, ?_, ?_, ?_⟩, fun x => ?_, fun x => ?_⟩
      · rw [s2_ne (by omega), s2_ne (by omega)]
      · rw [s2_ne (by decide), s2_ne (by decide)]
      · rw [s2_ne (by decide), s2_ne (by decide)]
      · rw [s2_ne (by decide), s2_ne (by decide)]
      · rw [s2_ne (by decide), s2_ne (by decide)]
      · rw [s2_ne (by decide), s2_row, upd_ne (by omega)]
      · rw [s2_row, upd_ne x, s2_ne (by decide)]
      all_goals (rw [s2_ne (by decide), s2_ne (by decide)])
    · rw [s2_ne m4.symm, s2_ne o2.symm]
    · rw [s2_ne m5.symm, s2_ne o3.symm]
    · intro j h5 h11 h13; rw [s2_row, upd_ne h13, s2_ne o1.symm]
    · rw [s2_ne (by decide), s2_ne (by decide)]
    · rw [s2_ne (by decide), s2_ne (by decide)]
    · rw [s2_ne (by decide), s2_ne (by decide)]
  · -- IN
    have hv : ∃ vv : Int32, (∀ (τ1 : St), (if nI ic ≤ nI k then Mo_serves_B81 67 67 0 0 τ else ld τ (ch 67 28) 50 (nI k) fun x3 => Mo_serves_B81 67 67 0 x3 τ) = Mo_serves_B81 67 67 0 vv τ) ∧ Machine_serve M 32 σ = some (s2 (s2 σ G 0 vv) M 11 (if k < ic then nI (k + 1) else nI k)) := by
      by_cases q : k < ic
      · refine ⟨σ N k, fun _ => ?_, ?_⟩
        · rw [if_neg (fun x => absurd ((nI_le' (by omega) (by omega)).mp x) (by omega)), cc_67_28, ld_nI (by omega) (by decide), ← i7 k q]
        · unfold Machine_serve Machine_serve_B31 Machine_serve_B54
          rw [if_neg (by decide), i1, i3, if_neg (fun x => absurd ((nI_le' (by omega) (by omega)).mp x) (by omega)), if_neg (lf_nle 50 50 k rfl (by omega) (by decide)), if_neg (by decide), n9, m2, ld_nI (by omega) (by decide), show (0 : Int32) = nI 0 from rfl, sr_nI kG (by rw [aG]; decide) (by rw [aG]; decide), if_neg (by decide), nm_of, s2_ne m5, i3, if_pos q, nI_1]
      · refine ⟨0, fun _ => ?_, ?_⟩
        · rw [if_pos ((nI_le' (by omega) (by omega)).mpr (by omega))]
        · unfold Machine_serve Machine_serve_B31 Machine_serve_B54
          rw [if_neg (by decide), i1, i3, if_pos ((nI_le' (by omega) (by omega)).mpr (by omega)), if_pos rfl, m2, show sr σ G 0 0 = sr (β := St) σ G (nI 0) 0 from rfl, sr_nI kG (by rw [aG]; decide) (by rw [aG]; decide), if_pos rfl, nm_of, s2_ne m5, i3, if_neg q, show nI k + 0 = nI (k + 0) from nI_add k 0]; rfl
    obtain ⟨vv, hv1, hv2⟩ := hv
    obtain ⟨σ1, τ1, e1, e2, V1, C1, R1, g1, g2, g3, g4⟩ := v_give hM V (k := 0) (by decide) vv
    have em : Mo_serves 67 32 τ = some (s2 τ1 67 41 (if k < ic then nI (k + 1) else nI k)) := by
      unfold Mo_serves
      rw [if_pos (by decide), if_neg (by decide), i2, i4, hv1 τ]
      unfold Mo_serves_B81
      rw [show Mo_setReg 67 0 vv τ = some τ1 from e2, cv_of, R1.2.1 29 (by decide), R1.2.1 41 (by decide), i2, i4]
      by_cases q : k < ic
      · rw [if_neg (fun x => absurd ((nI_le' (by omega) (by omega)).mp x) (by omega)), nm_of, if_pos q, nI_1]
      · rw [if_pos ((nI_le' (by omega) (by omega)).mpr (by omega)), nm_of, if_neg q, show nI k + 0 = nI (k + 0) from nI_add k 0]; rfl
    have ei : (if k < ic then nI (k + 1) else nI k) = nI (if k < ic then k + 1 else k) := by split <;> rfl
    refine ⟨_, _, hv2, em, ?_, ?_, ?_, ?_, ?_, ?_, ?_, ?_, ?_⟩
    · refine vr_t (vr_c V1 ?_ ?_ ?_ ?_) ?_ ?_ ?_ ?_ ?_
      · rw [s2_ne m5.symm, s2_row, g1]
      · rw [s2_ne m4.symm, s2_ne m7, g3]
      · rw [s2_ne m6.symm, s2_ne m9.symm, g2]
      · rw [s2_row, upd_ne (by decide), s2_ne m5, g4, if_neg (by decide)]
      · rw [s2_ne (by decide)]
      · rw [s2_ne (by decide)]
      · rw [s2_ne (by decide)]
      · rw [s2_row, upd_ne (by decide)]
      · rw [s2_row, upd_ne (by decide)]
    · refine ⟨ic, if k < ic then k + 1 else k, oc, c1, by split <;> omega, c3, ?_, ?_, ?_, ?_, ?_, ?_, ?_, ?_⟩
      · rw [s2_row, upd_ne (by decide), s2_ne m5]; exact i1
      · rw [s2_row, upd_ne (by decide), R1.2.1 29 (by decide)]; exact i2
      · rw [s2_row, upd_s, ei]
      · rw [s2_row, upd_s, ei]
      · rw [s2_row, upd_ne (by decide), s2_ne m5]; exact i5
      · rw [s2_ne (by decide), R1.1 92 (by decide) (by decide) (by decide) (by decide)]; exact i6
      · intro j hj; rw [s2_ne u1, s2_ne u3, s2_ne (by decide), R1.1 86 (by decide) (by decide) (by decide) (by decide)]; exact i7 j hj
      · intro j hj; rw [s2_ne o1, s2_ne o3, s2_ne (by decide), R1.1 91 (by decide) (by decide) (by decide) (by decide)]; exact i8' j hj
    · exact fx_tr (fx_fr R1) (fx_f (Or.inl rfl))
    · rw [s2_ne m4.symm, s2_ne m7]
    · rw [s2_ne m5.symm, s2_row, upd_ne (by decide)]
    · intro j h5 h11 h13; rw [s2_row, upd_ne h11, s2_ne m5]
    · rw [s2_ne (by decide), R1.1 93 (by decide) (by decide) (by decide) (by decide)]
    · rw [s2_ne (by decide), R1.1 94 (by decide) (by decide) (by decide) (by decide)]
    · rw [s2_row, upd_ne (by decide), R1.2.1 39 (by decide)]
  · -- COUNT
    obtain ⟨σ1, τ1, e1, e2, V1, C1, R1, g1, g2, g3, g4⟩ := v_give hM V (k := 0) (by decide) (nI oc)
    have ec : Machine_serve M 48 σ = some (s2 σ G 0 (nI oc)) := by
      unfold Machine_serve
      rw [if_pos (by decide), if_neg (by decide), m2, i5, sa_L 0 0 rfl (by decide) (by decide)]
    have em : Mo_serves 67 48 τ = some τ1 := by
      unfold Mo_serves
      rw [if_pos (by decide), if_pos (by decide), cc_67_35, v8, ld_nI v9 (by decide), i6, show Mo_setReg 67 0 (nI oc) τ = some τ1 from e2, cv_of]
    refine ⟨_, _, ec, em, ?_, ?_, fx_fr R1, ?_, ?_, ?_, ?_, ?_, ?_⟩
    · refine vr_c V1 ?_ ?_ ?_ ?_
      · rw [s2_row, g1]
      · rw [s2_ne m7, g3]
      · rw [s2_ne m9.symm, g2]
      · rw [s2_ne m5, g4, if_neg (by decide)]
    · refine ⟨ic, k, oc, c1, c2, c3, ?_, ?_, ?_, ?_, ?_, ?_, ?_, ?_⟩
      · rw [s2_ne m5]; exact i1
      · rw [R1.2.1 29 (by decide)]; exact i2
      · rw [s2_ne m5]; exact i3
      · rw [R1.2.1 41 (by decide)]; exact i4
      · rw [s2_ne m5]; exact i5
      · rw [R1.1 92 (by decide) (by decide) (by decide) (by decide)]; exact i6
      · intro j hj; rw [s2_ne u3, R1.1 86 (by decide) (by decide) (by decide) (by decide)]; exact i7 j hj
      · intro j hj; rw [s2_ne o3, R1.1 91 (by decide) (by decide) (by decide) (by decide)]; exact i8' j hj
    · rw [s2_ne m7]
    · rw [s2_row, upd_ne (by decide)]
    · intro j h5 h11 h13; rw [s2_ne m5]
    · rw [R1.1 93 (by decide) (by decide) (by decide) (by decide)]
    · rw [R1.1 94 (by decide) (by decide) (by decide) (by decide)]
    · rw [R1.2.1 39 (by decide)]
end
