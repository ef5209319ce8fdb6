set_option maxRecDepth 4096 in
theorem p_end (nb : Nat) : St_end nb (INV nb) := by
  intro σ τ x0 I
  obtain ⟨n, hn, rfl⟩ := nI_all x0
  obtain ⟨w, r, t, t1, t2, t3, t4, t5, t6, t7⟩ := I.1
  have no : fXX0_end_0 nb (nI n) σ = some (-nI 1, σ) → fMX12_end_0 nb (nI n) τ = some (-nI 1, stS τ 0 (nI 0)) → ∃ (o1 : (Int32 × XS)) (o2 : (Int32 × XS)), fXX0_end_0 nb (nI n) σ = some o1 ∧ fMX12_end_0 nb (nI n) τ = some o2 ∧ o1.1 = o2.1 ∧ INV nb o1.2 o2.2 := fun e1 e2 => ⟨_, _, e1, e2, rfl, INV_tape I (fun _ _ => rfl) (fun _ _ _ => rfl) (fun k h0 h1 => stS_k τ 0 (nI 0) h0) (fun _ _ _ => rfl) rfl ⟨w, r, t, t1, t2, t3, t4, t5, t6, t7⟩⟩
  by_cases c : n < 2147483648
  · by_cases c2 : 20 < n
    · refine no ?_ ?_
      · simp (disch := omega) only [fXX0_end_0, fXX0_end_0_0, fXX8_bring_16, fXX8_bring_16_0, lit, litN, nI_ltI', nI_leI', nI_eqI, nI_clampI, if_neg, if_pos, obs]
      · simp (disch := omega) only [fMX12_end_0, fMX12_end_0_0, lit, litN, nI_ltI', nI_leI', nI_eqI, nI_clampI, if_neg, if_pos]
    · by_cases c3 : t + n ≤ 4096
      · -- the class
        have kF : ∀ ρ : XS, ∃ q : XS, q = arrF ρ 7 (fun k => if k < 20 then sb 0 else ρ.2.1 7 k) ∧ ∀ u : Unit, lfix ((fun _ k5 t => fXJ2_fill_18_5 nb k5 t.1 t.2.1 t.2.2.1 t.2.2.2) u) FU (nI 0, nI 0, nI 20, arrF ρ 7 (ρ.2.1 7)) = some q := fun ρ => by
          refine lfor (κ := Unit) (fun _ k5 t => fXJ2_fill_18_5 nb k5 t.1 t.2.1 t.2.2.1 t.2.2.2) (fun i (q : XS) => (nI 0, nI i, nI 20, q)) (fun _ q => some q) 20 (fun i q => q = arrF ρ 7 (fun k => if k < i then sb 0 else ρ.2.1 7 k)) ?_ ?_ 0 (arrF ρ 7 (ρ.2.1 7)) FU (by omega) ?_ (by unfold FU; omega)
          · rintro i q hi rfl
            refine ⟨_, rfl, fun _ K => ?_⟩
            have hs : stA (arrF ρ 7 (fun k => if k < i then sb 0 else ρ.2.1 7 k)) 7 i (sb 0) = arrF ρ 7 (fun k => if k < i + 1 then sb 0 else ρ.2.1 7 k) := by
              refine arrF_s _ _ (fun k => ?_)
              show (if k < i + 1 then sb 0 else ρ.2.1 7 k) = if k = i then sb 0 else if k < i then sb 0 else ρ.2.1 7 k
              by_cases z : k = i
              · rw [if_pos z, z, if_pos (by omega)]
              · rw [if_neg z]; by_cases z2 : k < i
                · rw [if_pos z2, if_pos (by omega)]
                · rw [if_neg z2, if_neg (by omega)]
            simp (disch := omega) only [fXJ2_fill_18_5, lit, litN, nI_ltI', nI_leI', nI_eqI, nI_clampI, n_or, if_neg, nI_add, nar0, hs]
          · rintro q rfl _ K
            simp (disch := omega) only [fXJ2_fill_18_5, nI_ltI', nI_leI', nI_eqI, nI_clampI, if_pos]
          · congr 1
        obtain ⟨q, hq, hQ⟩ := kF (stC σ 7 6 0 t n)
        have hQ' := hQ ()
        rw [arrF_e] at hQ'
        have fl18 : fXJ2_fill_18 nb (nI 0) (stC σ 7 6 0 t n) = some q := by
          simp only [fXJ2_fill_18, fXJ2_fill_18_0, lit, litN]; exact hQ'
        have q8 : q.1 8 = nI t := by rw [hq]; exact t2
        have cX : fXX0_end_0 nb (nI n) σ = some (nI (t + n), stS q 8 (nI (t + n))) := by
          have hfit : ∀ i, i < n → fits .byte (.int (σ.2.1 7 (0 + i))) = true := fun i hi => by rw [Nat.zero_add, t6 i (by omega)]; exact sb_fits _
          have h00 : ¬ (nI 0 < nI 0) := by decide +kernel
          have z0 : (nI 0).toNatClampNeg = 0 := rfl
          have hor : ¬ (nI 0 < nI 0 ∨ nI t < nI 0 ∨ nI n < nI 0 ∨ 20 < (nI 0).toNatClampNeg + (nI n).toNatClampNeg ∨ 4096 < (nI t).toNatClampNeg + (nI n).toNatClampNeg) := by
            rw [nI_clamp (show n < 2 ^ 31 by omega), nI_clamp (show t < 2 ^ 31 by omega), z0, nI_ltI' (by omega) (by omega), nI_ltI' (by omega) (by omega), nI_ltI' (by omega) (by omega)]; omega
          have L0 := lit 0
          simp (disch := omega) only [fXX0_end_0, fXX0_end_0_0, fXX8_bring_16, fXX8_bring_16_0, lit, litN, t2]
          rw [if_neg (by rw [nI_ltI' (by omega) (by omega)]; omega), if_neg (by rw [nI_ltI' (by omega) (by omega)]; omega), if_pos (by rw [nI_sub (by omega), nI_leI' (by omega) (by omega)]; omega), if_neg hor]
          rw [nI_clamp (show n < 2 ^ 31 by omega), nI_clamp (show t < 2 ^ 31 by omega), z0, if_pos hfit, fl18]
          simp only [obs, q8, nI_add]
        -- the reference
        have kC : ∃ p : XS, p = arrF (stS τ 0 (nI 0)) 2 (fun k => if t ≤ k ∧ k < t + n then sb (r (k - t)) else τ.2.1 2 k) ∧ True := ⟨_, rfl, trivial⟩
        obtain ⟨p, hp, _⟩ := kC
        have kZ : ∃ s : XS, s = arrF p 3 (fun k => if k < 20 then sb 0 else τ.2.1 3 k) ∧ ∀ u : Unit, lfix ((fun _ k61 t => fMX12_end_0_61 nb k61 t.1 t.2.1 t.2.2) u) FU (nI n, nI 0, arrF p 3 (τ.2.1 3)) = some (nI (t + n), stS s 1 (nI (t + n))) := by
          refine lfor (κ := Unit) (fun _ k61 t => fMX12_end_0_61 nb k61 t.1 t.2.1 t.2.2) (fun i (q : XS) => (nI n, nI i, q)) (fun _ q => some (nI (t + n), stS q 1 (nI (t + n)))) 20 (fun i q => q = arrF p 3 (fun k => if k < i then sb 0 else τ.2.1 3 k)) ?_ ?_ 0 (arrF p 3 (τ.2.1 3)) FU (by omega) ?_ (by unfold FU; omega)
          · rintro i q hi rfl
            refine ⟨_, rfl, fun _ K => ?_⟩
            have hs : stA (arrF p 3 (fun k => if k < i then sb 0 else τ.2.1 3 k)) 3 i (sb 0) = arrF p 3 (fun k => if k < i + 1 then sb 0 else τ.2.1 3 k) := by
              refine arrF_s _ _ (fun k => ?_)
              show (if k < i + 1 then sb 0 else τ.2.1 3 k) = if k = i then sb 0 else if k < i then sb 0 else τ.2.1 3 k
              by_cases z : k = i
              · rw [if_pos z, z, if_pos (by omega)]
              · rw [if_neg z]; by_cases z2 : k < i
                · rw [if_pos z2, if_pos (by omega)]
                · rw [if_neg z2, if_neg (by omega)]
            simp (disch := omega) only [fMX12_end_0_61, lit, litN, nI_ltI', nI_leI', nI_eqI, nI_clampI, n_or, if_neg, nI_add, nar0, hs]
          · rintro q rfl _ K
            have e1 : (arrF p 3 (fun k => if k < 20 then sb 0 else τ.2.1 3 k)).1 1 = nI t := by rw [hp]; exact t3
            simp (disch := omega) only [fMX12_end_0_61, lit, litN, nI_ltI', nI_leI', nI_eqI, nI_clampI, if_pos, e1, nI_add]
          · congr 1
        obtain ⟨s, hs, hZ⟩ := kZ
        have hZ' := hZ ()
        have kM : ∃ s' : Unit, True ∧ ∀ u : Unit, lfix ((fun _ k31 t => fMX12_end_0_31 nb k31 t.1 t.2.1 t.2.2) u) FU (nI n, nI 0, arrF (stS τ 0 (nI 0)) 2 (fun k => if t ≤ k ∧ k < t + 0 then sb (r (k - t)) else τ.2.1 2 k)) = some (nI (t + n), stS s 1 (nI (t + n))) := by
          refine lmea (κ := Unit) (fun _ k31 t => fMX12_end_0_31 nb k31 t.1 t.2.1 t.2.2) (fun i : Nat => (nI n, nI i, arrF (stS τ 0 (nI 0)) 2 (fun k => if t ≤ k ∧ k < t + i then sb (r (k - t)) else τ.2.1 2 k))) (fun _ (_ : Unit) => some (nI (t + n), stS s 1 (nI (t + n)))) (fun i => i ≤ n) (fun _ => True) (fun i => n - i) ?_ FU 0 (Nat.zero_le _) (by show n - 0 < FU; unfold FU; omega)
          intro i hi
          by_cases ci : i = n
          · right
            refine ⟨(), trivial, fun _ K => ?_⟩
            subst ci
            rw [← hp]
            have ep : arrF p 3 (τ.2.1 3) = p := by
              have : p.2.1 3 = τ.2.1 3 := by rw [hp]; exact arrF_k _ _ _ (by omega)
              rw [← this]; exact arrF_e p 3
            rw [ep] at hZ'
            simp (disch := omega) only [fMX12_end_0_31, lit, litN, nI_ltI', nI_leI', nI_eqI, nI_clampI, if_pos]
            exact hZ'
          · left
            refine ⟨i + 1, by omega, by show n - (i + 1) < n - i; omega, fun _ K => ?_⟩
            have e1 : (arrF (stS τ 0 (nI 0)) 2 (fun k => if t ≤ k ∧ k < t + i then sb (r (k - t)) else τ.2.1 2 k)).1 1 = nI t := t3
            have e3 : (arrF (stS τ 0 (nI 0)) 2 (fun k => if t ≤ k ∧ k < t + i then sb (r (k - t)) else τ.2.1 2 k)).2.1 3 i = sb (r i) := by rw [arrF_k _ _ _ (by omega)]; exact t7 i (by omega)
            have hs' : stA (arrF (stS τ 0 (nI 0)) 2 (fun k => if t ≤ k ∧ k < t + i then sb (r (k - t)) else τ.2.1 2 k)) 2 (t + i) (sb (r i)) = arrF (stS τ 0 (nI 0)) 2 (fun k => if t ≤ k ∧ k < t + (i + 1) then sb (r (k - t)) else τ.2.1 2 k) := by
              refine arrF_s _ _ (fun k => ?_)
              show (if t ≤ k ∧ k < t + (i + 1) then sb (r (k - t)) else τ.2.1 2 k) = if k = t + i then sb (r i) else if t ≤ k ∧ k < t + i then sb (r (k - t)) else τ.2.1 2 k
              by_cases z : k = t + i
              · rw [if_pos z, z, if_pos (by omega), show t + i - t = i by omega]
              · rw [if_neg z]; by_cases z2 : t ≤ k ∧ k < t + i
                · rw [if_pos z2, if_pos (by omega)]
                · rw [if_neg z2, if_neg (by omega)]
            simp (disch := omega) only [fMX12_end_0_31, lit, litN, nI_ltI', nI_leI', nI_eqI, nI_clampI, n_or, if_neg, e1, e3, nI_add, nar_sb, hs']
        obtain ⟨_, _, hM⟩ := kM
        have hM' := hM ()
        have e2 : arrF (stS τ 0 (nI 0)) 2 (fun k => if t ≤ k ∧ k < t + 0 then sb (r (k - t)) else τ.2.1 2 k) = stS τ 0 (nI 0) := by
          have : (fun k => if t ≤ k ∧ k < t + 0 then sb (r (k - t)) else τ.2.1 2 k) = (stS τ 0 (nI 0)).2.1 2 := by funext k; rw [if_neg (by omega)]; rfl
          rw [this]; exact arrF_e _ 2
        rw [e2] at hM'
        have cM : fMX12_end_0 nb (nI n) τ = some (nI (t + n), stS s 1 (nI (t + n))) := by
          simp (disch := omega) only [fMX12_end_0, fMX12_end_0_0, t3, lit, litN, nI_add, nI_ltI', nI_leI', nI_eqI, nI_clampI, if_neg, if_pos]
          exact hM'
        refine ⟨_, _, cX, cM, rfl, ?_⟩
        subst hq hs hp
        refine INV_tape I (fun k hk => stS_k _ 8 _ hk) (fun k h6 h7 => ?_) (fun k h0 h1 => ?_) (fun k h2 h3 => ?_) rfl ?_
        · show (arrF (stC σ 7 6 0 t n) 7 _).2.1 k = _
          rw [arrF_k _ _ _ h7]; exact va_up_ne _ _ h6
        · rw [stS_k _ 1 _ h1]; exact stS_k τ 0 (nI 0) h0
        · show (arrF (arrF (stS τ 0 (nI 0)) 2 _) 3 _).2.1 k = _
          rw [arrF_k _ _ _ h3, arrF_k _ _ _ h2]; rfl
        · refine ⟨fun k => if t ≤ k ∧ k < t + n then r (k - t) else w k, fun _ => 0, t + n, c3, stS_e _ 8 _, stS_e _ 1 _, fun k hk => ?_, fun k hk => ?_, fun k hk => ?_, fun k hk => ?_⟩
          · show (arrF (stC σ 7 6 0 t n) 7 _).2.1 6 k = _
            rw [arrF_k _ _ _ (by omega)]
            show va_up σ.2.1 6 (va_cpy (σ.2.1 7) (σ.2.1 6) 0 t n) 6 k = sb (if t ≤ k ∧ k < t + n then r (k - t) else w k)
            rw [va_up_self]; unfold va_cpy
            by_cases z : t ≤ k ∧ k < t + n
            · rw [if_pos z, if_pos z, Nat.zero_add]; exact t6 _ (by omega)
            · rw [if_neg z, if_neg z]; exact t4 k hk
          · show (arrF (arrF (stS τ 0 (nI 0)) 2 _) 3 _).2.1 2 k = sb (if t ≤ k ∧ k < t + n then r (k - t) else w k)
            rw [arrF_k _ _ _ (by omega), arrF_at]
            by_cases z : t ≤ k ∧ k < t + n
            · rw [if_pos z, if_pos z]
            · rw [if_neg z, if_neg z]; exact t5 k hk
          · show (arrF (stC σ 7 6 0 t n) 7 _).2.1 7 k = sb 0
            rw [arrF_at, if_pos hk]
          · show (arrF (arrF (stS τ 0 (nI 0)) 2 _) 3 _).2.1 3 k = sb 0
            rw [arrF_at, if_pos hk]
      · refine no ?_ ?_
        · simp (disch := omega) only [fXX0_end_0, fXX0_end_0_0, fXX8_bring_16, fXX8_bring_16_0, lit, litN, t2, nI_sub, nI_ltI', nI_leI', nI_eqI, nI_clampI, if_neg, obs]
        · simp (disch := omega) only [fMX12_end_0, fMX12_end_0_0, t3, nI_add, lit, litN, nI_ltI', nI_leI', nI_eqI, nI_clampI, if_neg]
  · have hneg := nI_neg (by omega) hn
    refine no ?_ ?_
    · simp only [fXX0_end_0, fXX0_end_0_0, fXX8_bring_16, fXX8_bring_16_0, lit, litN, hneg, if_true, obs]
    · simp only [fMX12_end_0, fMX12_end_0_0, lit, litN, hneg, if_true]
