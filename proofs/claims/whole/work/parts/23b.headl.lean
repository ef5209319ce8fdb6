set_option maxRecDepth 4096 in
theorem headL_X {nb : Nat} {V : VV} (B : Bas nb V) (CB : CntB V) (CI : CntI V) (CD : CntD V) {σ : XS} (S : Sc V σ) {d0 : Nat → Nat} (hz : ∀ a, 1024 ≤ a → a < 3072 → d0 a = 0)
    (h4 : ∀ x m, x < vQ V → m < 1024 → d0 (1024 * (1 + x * vP V + 2) + m) = bits8 (fun t => ub V x (8 * m + t))) (h5 : ∀ x m, x < vQ V → m < 1024 → d0 (1024 * (1 + x * vP V + 3) + m) = bits8 (fun t => ui V x (8 * m + t)))
    (h6 : ∀ x k, x < vQ V → k < vG V → rd2 d0 (1024 * (1 + x * vP V + 4) + k * 128) = 0) (hk : ∀ i, vkd V i ≠ 2) :
    ∃ d', (∀ x a, x < vQ V → a < 2048 → d' (1024 * (1 + x * vP V) + a) = TE nb V x a) ∧ (∀ a, (∀ x, x < vQ V → ¬ (1024 * (1 + x * vP V) ≤ a ∧ a < 1024 * (1 + x * vP V) + 2048)) → d' a = d0 a) ∧ fXX6_lay_9_1 nb (nI (vI V)) (XD σ d0) = some (XD σ d') := by
  have hg := G_lt B
  have hgr := B.1.grp (x := 0) (by omega)
  have out : ∀ e a, OKb 1024 d0 e → 3072 ≤ a → e a = d0 a := fun e a ok ha => ok a (by omega)
  obtain ⟨e1, o1, t1, s1⟩ := sket1_X B CB CI CD S d0 (b := 1024) (by omega) (fun a ha => hz _ (by omega) (by omega))
    (fun x hx e ok => freeIn4_X B S hx (fun m hm => by rw [out e _ ok (by omega)]; exact h4 x m hx hm))
    (fun x hx e ok => freeIn5_X B S hx (fun m hm => by rw [out e _ ok (by omega)]; exact h5 x m hx hm))
    (fun x hx e ok => dirsIn_X B S hx (fun k hk' => by
      have : rd2 e (1024 * (1 + x * vP V + 4) + k * 128) = 0 := by
        rw [← h6 x k hx hk']; unfold rd2; rw [out e _ ok (by omega), out e _ ok (by omega)]
      rw [this]; exact ⟨fun z => by omega, fun z => absurd z (hk _)⟩))
  have key : ∃ e, (1 ≤ vQ V ∧ (∀ y a, y < vQ V → a < 2048 → e (1024 * (1 + y * vP V) + a) = TE nb V y a) ∧ ∀ a, (∀ y, y < vQ V → ¬ (1024 * (1 + y * vP V) ≤ a ∧ a < 1024 * (1 + y * vP V) + 2048)) → e a = d0 a) ∧ ∀ u : Unit, lfix ((fun _ k11 t => fXX6_lay_9_1_11 nb k11 t.1 t.2) u) FU (nI 1, XD σ e1) = some (XD σ e) := by
    refine lfor (κ := Unit) (fun _ k11 t => fXX6_lay_9_1_11 nb k11 t.1 t.2) (fun x (e : Nat → Nat) => (nI x, XD σ e)) (fun _ e => some (XD σ e)) (vQ V) (fun x e => 1 ≤ x ∧ (∀ y a, y < x → a < 2048 → e (1024 * (1 + y * vP V) + a) = TE nb V y a) ∧ ∀ a, (∀ y, y < x → ¬ (1024 * (1 + y * vP V) ≤ a ∧ a < 1024 * (1 + y * vP V) + 2048)) → e a = d0 a) ?_ ?_ 1 e1 FU (by omega) ⟨by omega, fun y a hy ha => ?_, fun a ha => ?_⟩ (by unfold FU; omega)
    · rintro x e hx ⟨x1, i1, i2⟩
      have hlt := fx_lt B (r := 1) hx (by omega)
      have hfar : 64 ≤ x * vP V := by
        have : 1 * vP V ≤ x * vP V := Nat.mul_le_mul_right _ x1
        omega
      have c := copy_X (nb := nb) (a := 1024) (b := 1024 * (1 + x * vP V + 0)) (n := 2048) σ e (by omega) (by omega) (by omega)
      have p := put2_W (nb := nb) (a := 1024 * (1 + x * vP V + 0) + 90) σ (wrC e 1024 (1024 * (1 + x * vP V + 0)) 2048) x (by omega) (by omega)
      have gX := groups_X B S e
      have pA := partAt_X B S e x 0
      have hT := TE_ch (nb := nb) CB CI CD (x := x) (y := 0) hx (by omega) (e := fun a => e (1024 + a)) (fun a ha => by
        have := i1 0 a (by omega) ha
        rw [show 1024 * (1 + 0 * vP V) + a = 1024 + a by omega] at this; exact this)
      refine ⟨wrN (wrC e 1024 (1024 * (1 + x * vP V + 0)) 2048) (1024 * (1 + x * vP V + 0) + 90) 2 x, ⟨by omega, fun y a hy ha => ?_, fun a ha => ?_⟩, fun _ K => ?_⟩
      · by_cases q : y = x
        · subst q
          rw [← hT a ha]
          unfold wrN
          by_cases w : 90 ≤ a ∧ a < 90 + 2
          · rw [if_pos (by omega), if_pos w, show 1024 * (1 + y * vP V) + a - (1024 * (1 + y * vP V + 0) + 90) = a - 90 by omega]
          · rw [if_neg (by omega), if_neg w]
            unfold wrC
            rw [if_pos (by omega), show 1024 + (1024 * (1 + y * vP V) + a - 1024 * (1 + y * vP V + 0)) = 1024 + a by omega]
        · have : (y + 1) * vP V ≤ x * vP V := Nat.mul_le_mul_right _ (by omega)
          rw [Nat.add_mul] at this
          unfold wrN; rw [if_neg (by omega)]
          unfold wrC; rw [if_neg (by omega)]
          exact i1 y a (by omega) ha
      · have := ha x (by omega)
        unfold wrN; rw [if_neg (by omega)]
        unfold wrC; rw [if_neg (by omega)]
        exact i2 a (fun y hy => ha y (by omega))
      · simp (disch := omega) only [fXX6_lay_9_1_11, gX, obs, nI_leI', if_neg, lit, litN, pA, c, nI_add, p]
    · rintro e _ _ K
      have gX := groups_X B S e
      simp (disch := omega) only [fXX6_lay_9_1_11, gX, obs, nI_leI', if_pos]
    · have y0 : y = 0 := by omega
      subst y0
      rw [show 1024 * (1 + 0 * vP V) + a = 1024 + a by omega]; exact t1 a ha
    · have := ha 0 (by omega)
      exact o1 a (by omega)
  obtain ⟨e, ⟨_, a1, a2⟩, h⟩ := key
  have h' := h ()
  refine ⟨e, a1, a2, ?_⟩
  simp only [fXX6_lay_9_1, fXX6_lay_9_1_0, lit, litN, s1, obs]
  exact h'
