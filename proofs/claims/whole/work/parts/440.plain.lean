theorem ip_85 {op i : Int32} (σ : St) : House_isPlain_B85 op i σ = some (if (op = 14 ∨ op = 15 ∨ op = 16) ∧ ¬ (¬ i < 0 ∧ i < 256) then 0 else 1, σ) := by
  unfold House_isPlain_B85 House_isShift
  simp only [gt_lt 16 17 rfl, gt_lt 255 256 rfl]
  by_cases c1 : op < 14
  · have n1 := ne_lt c1 (show (14 : Int32) ≤ 14 by decide)
    have n2 := ne_lt c1 (show (14 : Int32) ≤ 15 by decide)
    have n3 := ne_lt c1 (show (14 : Int32) ≤ 16 by decide)
    simp [c1, n1, n2, n3, cl_of]
  · by_cases c2 : op < 17
    · have h3 : op = 14 ∨ op = 15 ∨ op = 16 := by
        have q1 := mt Int32.lt_iff_toInt_lt.mpr c1
        have q2 := Int32.lt_iff_toInt_lt.mp c2
        have e1 : (14 : Int32).toInt = 14 := rfl
        have e2 : (17 : Int32).toInt = 17 := rfl
        have e3 : (15 : Int32).toInt = 15 := rfl
        have e4 : (16 : Int32).toInt = 16 := rfl
        rw [← Int32.toInt_inj, ← Int32.toInt_inj, ← Int32.toInt_inj]
        omega
      by_cases d1 : i < 0
      · simp [c1, c2, h3, d1, cl_of]
      · by_cases d2 : i < 256 <;> simp [c1, c2, h3, d1, d2, cl_of]
    · have n1 : ¬ op = 14 := fun e => c2 (by subst e; decide)
      have n2 : ¬ op = 15 := fun e => c2 (by subst e; decide)
      have n3 : ¬ op = 16 := fun e => c2 (by subst e; decide)
      simp [c1, c2, n1, n2, n3, cl_of]
theorem ip_69 {op fm x i : Int32} (σ : St) : ∃ b, House_isPlain_B69 op fm x i σ = some (b, σ) ∧ ((b = 1 ∧ (memF fm → MX x) ∧ (op = 14 ∨ op = 15 ∨ op = 16 → ¬ i < 0 ∧ i < 256)) ∨ (b = 0 ∧ ¬ ((memF fm → MX x) ∧ (op = 14 ∨ op = 15 ∨ op = 16 → ¬ i < 0 ∧ i < 256)))) := by
  unfold House_isPlain_B69
  rw [hmf_eq, cl_of]
  have e85 : ∀ (hm : memF fm → MX x), ∃ b, House_isPlain_B85 op i σ = some (b, σ) ∧ ((b = 1 ∧ (memF fm → MX x) ∧ (op = 14 ∨ op = 15 ∨ op = 16 → ¬ i < 0 ∧ i < 256)) ∨ (b = 0 ∧ ¬ ((memF fm → MX x) ∧ (op = 14 ∨ op = 15 ∨ op = 16 → ¬ i < 0 ∧ i < 256)))) := by
    intro hm
    rw [ip_85]
    by_cases c : (op = 14 ∨ op = 15 ∨ op = 16) ∧ ¬ (¬ i < 0 ∧ i < 256)
    · rw [if_pos c]; exact ⟨0, rfl, Or.inr ⟨rfl, fun k => c.2 (k.2 c.1)⟩⟩
    · rw [if_neg c]; exact ⟨1, rfl, Or.inl ⟨rfl, hm, fun h => Decidable.not_not.mp fun k => c ⟨h, k⟩⟩⟩
  by_cases c : memF fm
  · rw [if_pos c, if_neg (by decide)]
    by_cases m : MX x
    · rw [(hm_ok m σ).1, cl_of, if_pos (by decide)]; exact e85 (fun _ => m)
    · rw [(hm_no m σ).1, cl_of, if_neg (by decide)]; exact ⟨0, rfl, Or.inr ⟨rfl, fun k => m (k.1 c)⟩⟩
  · rw [if_neg c, if_pos rfl]; exact e85 (fun h => absurd h c)
theorem ip_55 {op fm x i : Int32} (σ : St) : ∃ b, House_isPlain_B55 op fm x i σ = some (b, σ) ∧ ((b = 1 ∧ (fm = 2 → inR x) ∧ (memF fm → MX x) ∧ (op = 14 ∨ op = 15 ∨ op = 16 → ¬ i < 0 ∧ i < 256)) ∨ (b = 0 ∧ ¬ ((fm = 2 → inR x) ∧ (memF fm → MX x) ∧ (op = 14 ∨ op = 15 ∨ op = 16 → ¬ i < 0 ∧ i < 256)))) := by
  unfold House_isPlain_B55
  have go : (fm = 2 → inR x) → ∃ b, House_isPlain_B69 op fm x i σ = some (b, σ) ∧ ((b = 1 ∧ (fm = 2 → inR x) ∧ (memF fm → MX x) ∧ (op = 14 ∨ op = 15 ∨ op = 16 → ¬ i < 0 ∧ i < 256)) ∨ (b = 0 ∧ ¬ ((fm = 2 → inR x) ∧ (memF fm → MX x) ∧ (op = 14 ∨ op = 15 ∨ op = 16 → ¬ i < 0 ∧ i < 256)))) := by
    intro h
    obtain ⟨b, e, q⟩ := ip_69 (op := op) (fm := fm) (x := x) (i := i) σ
    refine ⟨b, e, ?_⟩
    rcases q with ⟨q1, q2⟩ | ⟨q1, q2⟩
    · exact Or.inl ⟨q1, h, q2⟩
    · exact Or.inr ⟨q1, fun k => q2 k.2⟩
  by_cases c : fm = 2
  · rw [if_neg (not_not_intro c), hr_eq, cl_of]
    by_cases r : inR x
    · rw [if_pos r, if_pos (by decide)]; exact go (fun _ => r)
    · rw [if_neg r, if_neg (by decide)]; exact ⟨0, rfl, Or.inr ⟨rfl, fun k => r (k.1 c)⟩⟩
  · rw [if_pos c]; exact go (fun h => absurd h c)
theorem ip_eq (op fm r x i : Int32) (σ : St) : ∃ b, House_isPlain op fm r x i σ = some (b, σ) ∧ ((b = 1 ∧ POK op fm r x i) ∨ (b = 0 ∧ ¬ POK op fm r x i)) := by
  unfold House_isPlain
  simp only [le_nlt, gt_lt 8 9 rfl, gt_lt 5 6 rfl]
  by_cases c1 : op < 0
  · rw [if_pos c1]; exact ⟨0, rfl, Or.inr ⟨rfl, fun k => (opF_op k.1).1.1 c1⟩⟩
  · rw [if_neg c1]
    by_cases c2 : op < 23
    · rw [if_neg (not_not_intro c2)]
      by_cases c3 : fm < 0
      · rw [if_pos c3]; exact ⟨0, rfl, Or.inr ⟨rfl, fun k => (opF_op k.1).2.1 c3⟩⟩
      · rw [if_neg c3]
        by_cases c4 : fm < 9
        · rw [if_neg (not_not_intro c4)]
          obtain ⟨j, hj, rfl⟩ := to_nI (m := 23) c1 23 rfl (by decide) c2
          obtain ⟨k, hk, rfl⟩ := to_nI (m := 9) c3 9 rfl (by decide) c4
          have hfo : ∀ f : Int32 → Option (Int32 × St), fo (nI j) f = f (FORMS j) := fun f => by
            unfold fo
            rw [nI_clamp (by omega), if_neg]
            rintro (h | h)
            · exact nI_pos (by omega) h
            · omega
          rw [hfo]
          by_cases cb : (shr (FORMS j) (nI k)) &&& 1 = 0
          · rw [if_neg (not_not_intro cb)]; exact ⟨0, rfl, Or.inr ⟨rfl, fun h => (fm_in j hj k hk).mpr h.1 cb⟩⟩
          · have ho := (fm_in j hj k hk).mp cb
            rw [if_pos cb]
            have go : (hsR (nI k) → inR r) → ∃ b, House_isPlain_B55 (nI j) (nI k) x i σ = some (b, σ) ∧ ((b = 1 ∧ POK (nI j) (nI k) r x i) ∨ (b = 0 ∧ ¬ POK (nI j) (nI k) r x i)) := by
              intro h
              obtain ⟨b, e, q⟩ := ip_55 (op := nI j) (fm := nI k) (x := x) (i := i) σ
              refine ⟨b, e, ?_⟩
              rcases q with ⟨q1, q2⟩ | ⟨q1, q2⟩
              · exact Or.inl ⟨q1, ho, h, q2.1, q2.2.1, q2.2.2⟩
              · exact Or.inr ⟨q1, fun w => q2 ⟨w.2.2.1, w.2.2.2.1, w.2.2.2.2⟩⟩
            by_cases d1 : nI k < 1
            · rw [if_pos d1]; exact go (fun h => absurd d1 h.1)
            · rw [if_neg d1]
              by_cases d2 : nI k < 6
              · rw [if_neg (not_not_intro d2), hr_eq, cl_of]
                by_cases rr : inR r
                · rw [if_pos rr, if_pos (by decide)]; exact go (fun _ => rr)
                · rw [if_neg rr, if_neg (by decide)]; exact ⟨0, rfl, Or.inr ⟨rfl, fun w => rr (w.2.1 ⟨d1, d2⟩)⟩⟩
              · rw [if_pos d2]; exact go (fun h => absurd h.2 d2)
        · rw [if_pos c4]; exact ⟨0, rfl, Or.inr ⟨rfl, fun k => c4 (opF_op k.1).2.2⟩⟩
    · rw [if_pos c2]; exact ⟨0, rfl, Or.inr ⟨rfl, fun k => c2 (opF_op k.1).1.2⟩⟩
/-- the reference's plain(), up to where the ITEM is written -/
theorem mp_eq (op fm r x d i : Int32) (τ : St) (h8 : ¬ (s2 τ 67 0 0) 67 8 = 120) : (POK op fm r x i → Mo_plain 67 op fm r x d i τ = Mo_plain_B95 67 op fm r x d i (s2 τ 67 0 0)) ∧ (¬ POK op fm r x i → Mo_plain 67 op fm r x d i τ = some (-1, s2 τ 67 0 0)) := by
  have e68 : (op = 14 ∨ op = 15 ∨ op = 16 → ¬ i < 0 ∧ i < 256) → Mo_plain_B68 67 op fm r x d i (s2 τ 67 0 0) = Mo_plain_B95 67 op fm r x d i (s2 τ 67 0 0) := by
    intro h
    unfold Mo_plain_B68
    simp only [gt_lt 16 17 rfl, le_lt 255 256 rfl]
    by_cases c1 : op < 14
    · rw [if_pos c1]
    · rw [if_neg c1]
      by_cases c2 : op < 17
      · have h3 : op = 14 ∨ op = 15 ∨ op = 16 := by
          have q1 := mt Int32.lt_iff_toInt_lt.mpr c1
          have q2 := Int32.lt_iff_toInt_lt.mp c2
          have e1 : (14 : Int32).toInt = 14 := rfl
          have e2 : (17 : Int32).toInt = 17 := rfl
          have e3 : (15 : Int32).toInt = 15 := rfl
          have e4 : (16 : Int32).toInt = 16 := rfl
          rw [← Int32.toInt_inj, ← Int32.toInt_inj, ← Int32.toInt_inj]
          omega
        rw [if_neg (not_not_intro c2), if_neg (h h3).1, if_pos (h h3).2]
      · rw [if_pos c2]
  have n68 : ¬ (op = 14 ∨ op = 15 ∨ op = 16 → ¬ i < 0 ∧ i < 256) → Mo_plain_B68 67 op fm r x d i (s2 τ 67 0 0) = some (-1, s2 τ 67 0 0) := by
    intro h
    have h3 : op = 14 ∨ op = 15 ∨ op = 16 := Decidable.not_not.mp fun k => h fun q => absurd q k
    have hi : ¬ (¬ i < 0 ∧ i < 256) := fun k => h fun _ => k
    unfold Mo_plain_B68
    simp only [gt_lt 16 17 rfl, le_lt 255 256 rfl]
    rw [if_neg (by rcases h3 with rfl | rfl | rfl <;> decide), if_neg (by rcases h3 with rfl | rfl | rfl <;> decide)]
    by_cases d1 : i < 0
    · rw [if_pos d1]
    · rw [if_neg d1, if_neg (fun k => hi ⟨d1, k⟩)]
  have e38 : (fm = 2 → inR x) → (memF fm → MX x) → Mo_plain_B38 67 op fm r x d i (s2 τ 67 0 0) = Mo_plain_B68 67 op fm r x d i (s2 τ 67 0 0) := by
    intro h1 h2
    have e51 : Mo_plain_B51 67 op fm r x d i (s2 τ 67 0 0) = Mo_plain_B68 67 op fm r x d i (s2 τ 67 0 0) := by
      unfold Mo_plain_B51
      rw [mmf_eq, cl_of]
      by_cases c : memF fm
      · rw [if_pos c, if_neg (by decide), (hm_ok (h2 c) _).2, cl_of, if_pos (by decide)]
      · rw [if_neg c, if_pos rfl]
    unfold Mo_plain_B38
    rw [e51]
    by_cases c : fm = 2
    · rw [if_neg (not_not_intro c), mr_eq, if_pos (h1 c), cl_of, if_neg (by decide), e51]
    · rw [if_pos c]
  have n38 : ¬ ((fm = 2 → inR x) ∧ (memF fm → MX x)) → Mo_plain_B38 67 op fm r x d i (s2 τ 67 0 0) = some (-1, s2 τ 67 0 0) := by
    intro h
    unfold Mo_plain_B38
    by_cases c : fm = 2
    · rw [if_neg (not_not_intro c), mr_eq, cl_of]
      by_cases rx : inR x
      · exfalso
        exact h ⟨fun _ => rx, fun k => by rw [c] at k; exact absurd k (by decide)⟩
      · rw [if_neg rx, if_pos rfl]
    · rw [if_pos c]
      unfold Mo_plain_B51
      rw [mmf_eq, cl_of]
      by_cases cm : memF fm
      · have : ¬ MX x := fun k => h ⟨fun k2 => absurd k2 c, fun _ => k⟩
        rw [if_pos cm, if_neg (by decide), (hm_no this _).2, cl_of, if_neg (by decide)]
      · exact absurd ⟨fun k2 => absurd k2 c, fun k => absurd k cm⟩ h
  unfold Mo_plain
  rw [nm_of, if_neg h8, hF_eq, cl_of]
  by_cases ho : opF op fm
  · rw [hF_ok ho, if_pos (by decide), mfr_eq, cl_of]
    by_cases hr : hsR fm → inR r
    · have e0 : (if (if hsR fm then (1 : Int32) else 0) = 0 then Mo_plain_B38 67 op fm r x d i (s2 τ 67 0 0) else cl (Mo_isRegister r (s2 τ 67 0 0)) fun x7 σ6 => if x7 = 0 then some (-1, σ6) else Mo_plain_B38 67 op fm r x d i σ6) = Mo_plain_B38 67 op fm r x d i (s2 τ 67 0 0) := by
        by_cases c : hsR fm
        · rw [if_pos c, if_neg (by decide), mr_eq, if_pos (hr c), cl_of, if_neg (by decide)]
        · rw [if_neg c, if_pos rfl]
      rw [e0]
      constructor
      · intro h; rw [e38 h.2.2.1 h.2.2.2.1, e68 h.2.2.2.2]
      · intro h
        by_cases c : (fm = 2 → inR x) ∧ (memF fm → MX x)
        · rw [e38 c.1 c.2, n68 (fun k => h ⟨ho, hr, c.1, c.2, k⟩)]
        · exact n38 c
    · have c : hsR fm := Decidable.not_not.mp fun k => hr fun q => absurd q k
      have nr : ¬ inR r := fun k => hr fun _ => k
      rw [if_pos c, if_neg (by decide), mr_eq, if_neg nr, cl_of, if_pos rfl]
      exact ⟨fun h => absurd h.2.1 hr, fun _ => rfl⟩
  · rw [hF_out ho, if_neg (by decide)]
    exact ⟨fun h => absurd h.1 ho, fun _ => rfl⟩
