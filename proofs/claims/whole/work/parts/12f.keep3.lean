set_option maxRecDepth 4096 in
theorem keepM_kp (V : VV) {τ : XS} {i : Nat} (hfs : τ.2.1 10 i = nI (fst0 V i)) (n : Nat) : keepM τ (kpA V τ i n) := by
  refine ⟨(kpA_s V τ i n).1, fun k hk => ?_, (kpA_s V τ i n).2⟩
  funext x
  rw [kpA_at V hfs, if_neg (by omega), if_neg (by omega), if_neg (by omega), if_neg (by omega), if_neg (by omega), if_neg (by omega), if_neg (by omega), kp_k _ _ _ _ _ (by omega) (by omega)]
set_option maxRecDepth 4096 in
theorem RM_keep {nb : Nat} {V W : VV} (A : Stc nb V) {τ : XS} {f : Nat → Nat} (R : RM nb V τ f) {i n : Nat} (hi : i < 2100) (hl : live V i) (P : Shp V i) (hn : n ≤ vmn V i) (T : dropTo nb V W i n) : RM nb W (kpA V τ i n) f := by
  obtain ⟨B, C, O⟩ := A
  have hg := G_lt B
  have hmn := mn_lt B O hl
  obtain ⟨P1, P2, P3, P4⟩ := P
  obtain ⟨AW, PW, ⟨k1, k2, k3, k4, k5, k6, k7, k8, k9, k10, k11, k12, ⟨k13, k14, k15, k16, k17⟩, k18, k19, k20, k21, k22, k23⟩, _⟩ := T
  obtain ⟨r1, r2, r3, r4, r5, r6, r7, r8, r9⟩ := R
  have hfs := (r3 i hi).2.2.2.2.2.2.1
  obtain ⟨o1, o2, o3, o4, o5, o6, o7, o8⟩ := O
  have hlW : ∀ j, live W j ↔ live V j := fun j => by unfold live; rw [k2]
  have hvb0 : vdb V i = 0 ↔ vmn V i ≤ 268 := ⟨fun e => Decidable.byContradiction (fun x => P2.mpr (by omega) e), fun e => Decidable.byContradiction (fun x => by have := P2.mp x; omega)⟩
  have hsg0 : vsg V i = 0 ↔ vmn V i ≤ 12 := ⟨fun e => Decidable.byContradiction (fun x => P1.mpr (by omega) e), fun e => Decidable.byContradiction (fun x => by have := P1.mp x; omega)⟩
  have hfar : far0 V i = 0 ↔ vmn V i ≤ 268 := by
    unfold far0; rw [P3]
    by_cases c : 268 < vmn V i
    · rw [if_pos c, if_neg (by omega)]
      have := o7 i 0 hl (by rw [P3, if_pos c]; omega); omega
    · rw [if_neg c, if_pos rfl]; omega
  have hfare : 268 < vmn V i → far0 V i = vrw V i 0 := fun c => by unfold far0; rw [P3, if_pos c, if_neg (by omega)]
  have hrow : 268 < vmn V i → 1 ≤ vrw V i 0 ∧ vrw V i 0 < nb ∧ vot V (vrw V i 0) = 6 ∧ voi V (vrw V i 0) = i ∧ vok V (vrw V i 0) = 0 := fun c => o7 i 0 hl (by rw [P3, if_pos c]; omega)
  refine ⟨?_, fun c c1 c2 => ?_, fun j hj => ?_, fun j hj lj hm => ?_, fun j hj lj => ?_, fun x hx => ?_, fun j k hj lj hk => ?_, fun j hj lj hr => ?_, fun b o hb ho ht => ?_⟩
  · have := RMs_of k1 r1; unfold RMs at this ⊢; rw [(kpA_s V τ i n).1]; exact this
  · rw [kpA_at V hfs, kp_4]
    simp only [show ¬ (4 : Nat) = 9 by omega, show ¬ (4 : Nat) = 5 by omega, show ¬ (4 : Nat) = 10 by omega, show ¬ (4 : Nat) = 13 by omega, show ¬ (4 : Nat) = 12 by omega, show ¬ (4 : Nat) = 14 by omega, false_and, if_false, false_or, true_and, and_true, and_false, or_false]
    by_cases hc : c < nb
    · rw [k23 c hc]
      have h3 : vot V c = 3 ∧ voi V c = i → vok V c < vmn V i := fun e => by have := o2 c hc e.1; rw [e.2] at this; exact this.2.1
      have h4 : vot V c = 4 ∧ voi V c = i ↔ (vsg V i ≠ 0 ∧ c = vsg V i) := by
        constructor
        · rintro ⟨x, y⟩; have := (o4 c hc x).2; rw [y] at this; exact ⟨by omega, this.symm⟩
        · rintro ⟨x, y⟩; have := o3 i hl x; rw [← y] at this; exact ⟨this.2.1, this.2.2⟩
      have h5 : vot V c = 5 ∧ voi V c = i ↔ (vdb V i ≠ 0 ∧ c = vdb V i) := by
        constructor
        · rintro ⟨x, y⟩; have := (o6 c hc x).2; rw [y] at this; exact ⟨by omega, this.symm⟩
        · rintro ⟨x, y⟩; have := o5 i hl x; rw [← y] at this; exact ⟨this.2.1, this.2.2⟩
      have h6 : vot V c = 6 ∧ voi V c = i ↔ (far0 V i ≠ 0 ∧ c = far0 V i) := by
        constructor
        · rintro ⟨x, y⟩
          have h := o8 c hc x; rw [y] at h
          have hr : 268 < vmn V i := Decidable.byContradiction (fun e => by rw [P3, if_neg e] at h; omega)
          have h1 : vrn V i = 1 := by rw [P3, if_pos hr]
          rw [h1] at h
          have e0 : vok V c = 0 := by omega
          rw [e0] at h
          rw [hfare hr]; exact ⟨by omega, h.2.2.symm⟩
        · rintro ⟨x, y⟩
          have hr : 268 < vmn V i := Decidable.byContradiction (fun e => x (hfar.mpr (by omega)))
          rw [hfare hr] at y
          have := hrow hr; rw [← y] at this; exact ⟨this.2.2.1, this.2.2.2.1⟩
      by_cases d5 : n ≤ 268 ∧ vdb V i ≠ 0 ∧ c = vdb V i
      · have := h5.mpr d5.2
        rw [if_pos d5, if_pos (show voi V c = i ∧ _ from ⟨this.2, .inr (.inr ⟨.inl this.1, d5.1⟩)⟩), if_pos rfl]
      · rw [if_neg d5]
        by_cases d4 : n ≤ 12 ∧ vsg V i ≠ 0 ∧ c = vsg V i
        · have := h4.mpr d4.2
          rw [if_pos d4, if_pos (show voi V c = i ∧ _ from ⟨this.2, .inr (.inl ⟨this.1, d4.1⟩)⟩), if_pos rfl]
        · rw [if_neg d4]
          by_cases d6 : far0 V i ≠ 0 ∧ c = far0 V i ∧ n ≤ 268
          · have := h6.mpr ⟨d6.1, d6.2.1⟩
            rw [if_pos d6, if_pos (show voi V c = i ∧ _ from ⟨this.2, .inr (.inr ⟨.inr this.1, d6.2.2⟩)⟩), if_pos rfl]
          · rw [if_neg d6]
            by_cases d3 : vot V c = 3 ∧ voi V c = i ∧ n ≤ vok V c ∧ vok V c < vmn V i
            · rw [if_pos d3, if_pos (show voi V c = i ∧ _ from ⟨d3.2.1, .inl ⟨d3.1, d3.2.2.1⟩⟩), if_pos rfl]
            · have hneg : ¬ (voi V c = i ∧ (vot V c = 3 ∧ n ≤ vok V c ∨ vot V c = 4 ∧ n ≤ 12 ∨ (vot V c = 5 ∨ vot V c = 6) ∧ n ≤ 268)) := by
                rintro ⟨x, y | y | ⟨y | y, z⟩⟩
                · exact d3 ⟨y.1, x, y.2, h3 ⟨y.1, x⟩⟩
                · exact d4 ⟨y.2, h4.mp ⟨y.1, x⟩⟩
                · exact d5 ⟨z, h5.mp ⟨y, x⟩⟩
                · have := h6.mp ⟨y, x⟩; exact d6 ⟨this.1, this.2, z⟩
              rw [if_neg d3, if_neg hneg]; exact r2 c c1 c2
    · have h7 := B.2.2.2 c (by omega)
      have h8 := AW.1.2.2.2 c (by omega)
      have d := r2 c c1 c2
      rw [h7, if_neg (by omega)] at d
      have e5 : ¬ (n ≤ 268 ∧ vdb V i ≠ 0 ∧ c = vdb V i) := fun e => by have := o5 i hl e.2.1; omega
      have e4 : ¬ (n ≤ 12 ∧ vsg V i ≠ 0 ∧ c = vsg V i) := fun e => by have := o3 i hl e.2.1; omega
      have e6 : ¬ (far0 V i ≠ 0 ∧ c = far0 V i ∧ n ≤ 268) := fun e => by
        have hr : 268 < vmn V i := Decidable.byContradiction (fun x => e.1 (hfar.mpr (by omega)))
        have := hrow hr; rw [← hfare hr] at this; omega
      rw [if_neg e5, if_neg e4, if_neg e6, if_neg (by omega), h8, if_neg (by omega)]; exact d
  · obtain ⟨s1, s2, s3, s4, s5, s6, s7, s8⟩ := r3 j hj
    rw [k2, k3, k4]
    have at0 : ∀ k, (k = 6 ∨ k = 7 ∨ k = 8) → (kpA V τ i n).2.1 k j = τ.2.1 k j := fun k hk => by
      rw [kpA_at V hfs, if_neg (by omega), if_neg (by omega), if_neg (by omega), if_neg (by omega), if_neg (by omega), if_neg (by omega), if_neg (by omega), kp_k _ _ _ _ _ (by omega) (by omega)]
    rw [at0 6 (by omega), at0 7 (by omega), at0 8 (by omega)]
    by_cases ej : j = i
    · subst ej
      refine ⟨s1, s2, s3, ?_, ?_, ?_, ?_, ?_⟩
      · rw [kpA_at V hfs, if_pos ⟨rfl, rfl⟩, k19]
      · rw [kpA_at V hfs, k20, if_neg (by omega), if_neg (by omega), if_neg (by omega), if_neg (by omega)]
        by_cases c : n ≤ 12
        · rw [if_pos c]
          by_cases c2 : vsg V j = 0
          · rw [if_neg (by omega), if_neg (by omega), if_neg (by omega), kp_k _ _ _ _ _ (by omega) (by omega), s5, c2]
          · rw [if_pos ⟨c, c2, .inl ⟨rfl, rfl⟩⟩]
        · rw [if_neg c, if_neg (by omega), if_neg (by omega), if_neg (by omega), kp_k _ _ _ _ _ (by omega) (by omega), s5]
      · rw [k21]
        by_cases c : n ≤ 268
        · rw [if_pos c, kpA_at V hfs, if_neg (by omega), if_neg (by omega), if_neg (by omega)]
          by_cases c2 : vdb V j = 0
          · rw [if_neg (by omega), if_neg (by omega), if_neg (by omega), if_neg (by omega), kp_k _ _ _ _ _ (by omega) (by omega), s6, c2]
          · rw [if_pos ⟨c, c2, .inl ⟨rfl, rfl⟩⟩]
        · rw [if_neg c, kpA_at V hfs, if_neg (by omega), if_neg (by omega), if_neg (by omega), if_neg (by omega), if_neg (by omega), if_neg (by omega), if_neg (by omega), kp_k _ _ _ _ _ (by omega) (by omega), s6]
      · have e : fst0 W j = if n = 0 then 0 else fst0 V j := by
          unfold fst0; rw [k19, k16]
          by_cases c : n = 0
          · rw [if_pos c, if_pos c]
          · rw [if_neg c, if_neg c, if_neg (by omega)]
        rw [kpA_at V hfs, e, if_neg (by omega), if_neg (by omega)]
        by_cases c : n = 0
        · rw [if_pos ⟨rfl, rfl, c⟩, if_pos c]
        · rw [if_neg (fun x => c x.2.2), if_neg c, if_neg (by omega), if_neg (by omega), if_neg (by omega), if_neg (by omega), kp_k _ _ _ _ _ (by omega) (by omega), s7]
      · have e : far0 W j = if n ≤ 268 then 0 else far0 V j := by
          unfold far0; rw [k22, k17]
          by_cases c : n ≤ 268
          · rw [if_pos c, if_pos rfl, if_pos c]
          · rw [if_neg c, if_neg c]
        rw [kpA_at V hfs, e, if_neg (by omega), if_neg (by omega), if_neg (by omega), if_neg (by omega), if_neg (by omega), if_pos ⟨rfl, rfl⟩]
    · obtain ⟨m1, m2, m3, m4, m5⟩ := k18 j ej
      have ef : fst0 W j = fst0 V j := by unfold fst0; rw [m1, k16]
      have ea : far0 W j = far0 V j := by unfold far0; rw [m2, k17]
      rw [m1, m4, m5, ef, ea]
      have at1 : ∀ k, (k = 9 ∨ k = 12 ∨ k = 13 ∨ k = 10 ∨ k = 14) → (kpA V τ i n).2.1 k j = τ.2.1 k j := fun k hk => by
        rw [kpA_at V hfs, if_neg (by omega), if_neg (by omega), if_neg (by omega), if_neg (by omega), if_neg (by omega), if_neg (by omega), if_neg (by omega), kp_k _ _ _ _ _ (by omega) (by omega)]
      rw [at1 9 (by omega), at1 12 (by omega), at1 13 (by omega), at1 10 (by omega), at1 14 (by omega)]
      exact ⟨s1, s2, s3, s4, s5, s6, s7, s8⟩
  · rw [kpA_at V hfs, if_neg (by omega), if_neg (by omega), if_neg (by omega), if_neg (by omega), if_neg (by omega), if_neg (by omega), if_neg (by omega), kp_11, k16]
    by_cases ej : j = i
    · subst ej; rw [k19] at hm ⊢; rw [if_pos ⟨rfl, hm, hn⟩]
    · rw [(k18 j ej).1] at hm ⊢; rw [if_neg (fun e => ej e.1)]; exact r4 j hj ((hlW j).mp lj) hm
  · rw [kpA_at V hfs, if_neg (by omega), if_neg (by omega), if_neg (by omega), if_neg (by omega), if_neg (by omega), if_neg (by omega), if_neg (by omega), kp_k _ _ _ _ _ (by omega) (by omega), k5]
    exact r5 j hj ((hlW j).mp lj)
  · rw [(kpA_s V τ i n).2, k7]; exact r6 x hx
  · have lj' := (hlW j).mp lj
    rw [k16]
    have hk' : k < vmn V j := by
      by_cases ej : j = i
      · subst ej; omega
      · rw [← (k18 j ej).1]; exact hk
    have o := o1 j k lj' hk'
    have hnx := r7 j k hj lj' hk'
    have hnr : ¬ (far0 V i ≠ 0 ∧ vbl V j k = far0 V i ∧ (n ≤ 268 ∧ (5 : Nat) = 4 ∨ 268 < n ∧ (5 : Nat) = 5)) := fun e => by
      have hr : 268 < vmn V i := Decidable.byContradiction (fun x => e.1 (hfar.mpr (by omega)))
      have h := hrow hr; rw [← hfare hr, ← e.2.1] at h; omega
    by_cases ej : j = i
    · subst ej
      rw [k19] at hk ⊢
      rw [kpA_at V hfs, if_neg (by omega)]
      by_cases ek : k = n - 1
      · rw [if_pos ⟨rfl, by rw [ek], by omega⟩, if_neg (show ¬ k + 1 < n by omega)]
      · have o' := o1 j (n - 1) lj' (by omega)
        have hne : vbl V j k ≠ vbl V j (n - 1) := fun e => by
          have a1 := o.2.2.2.2; have a2 := o'.2.2.2.2; rw [e, a2] at a1; omega
        rw [if_neg (fun e => hne e.2.1), if_neg (by omega), if_neg (by omega), if_neg (by omega), if_neg (by omega), if_neg hnr, kp_k _ _ _ _ _ (by omega) (by omega), hnx, if_pos (show k + 1 < n by omega), if_pos (show k + 1 < vmn V j by omega)]
    · rw [(k18 j ej).1, kpA_at V hfs, if_neg (by omega)]
      have hne : ¬ ((5 : Nat) = 5 ∧ vbl V j k = vbl V i (n - 1) ∧ n ≠ 0) := fun e => by
        have o' := o1 i (n - 1) hl (by omega)
        rw [← e.2.1] at o'; omega
      rw [if_neg hne, if_neg (by omega), if_neg (by omega), if_neg (by omega), if_neg (by omega), if_neg hnr, kp_k _ _ _ _ _ (by omega) (by omega), hnx]
  · have lj' := (hlW j).mp lj
    have hr' : 0 < vrn V j := by
      by_cases ej : j = i
      · subst ej; rw [k22] at hr; split at hr <;> omega
      · rw [← (k18 j ej).2.1]; exact hr
    rw [k17]
    have o := o7 j 0 lj' hr'
    have hne : ¬ ((5 : Nat) = 5 ∧ vrw V j 0 = vbl V i (n - 1) ∧ n ≠ 0) := fun e => by
      have o' := o1 i (n - 1) hl (by omega)
      rw [← e.2.1] at o'; omega
    rw [kpA_at V hfs, if_neg (by omega), if_neg hne, if_neg (by omega), if_neg (by omega), if_neg (by omega), if_neg (by omega)]
    by_cases c : far0 V i ≠ 0 ∧ vrw V j 0 = far0 V i ∧ (n ≤ 268 ∧ (5 : Nat) = 4 ∨ 268 < n ∧ (5 : Nat) = 5)
    · rw [if_pos c]
    · rw [if_neg c, kp_k _ _ _ _ _ (by omega) (by omega)]; exact r8 j hj lj' hr'
  · rw [k13]
    have : vot V b = 3 := by
      rw [k23 b hb] at ht; split at ht
      · omega
      · exact ht
    exact r9 b o hb ho this
