-- the volume right after its maps and heads are laid
def o0 (nb P G b : Nat) : Nat := if b = 0 ∨ nb ≤ b then 7 else if (b - 1) % P < 4 + G / 8 then 2 else 0
def Vb (nb P Q G I M : Nat) : VV := ((fun k => if k = 0 then P else if k = 1 then Q else if k = 2 then G else if k = 3 then I else if k = 4 then M else 0), va_up (va_up (fun _ _ => 0) 0 (o0 nb P G)) 11 (fun _ => 2), fun _ _ _ => 0, fun _ _ => [])
def V0 (nb P Q G I M : Nat) : VV := ((Vb nb P Q G I M).1, va_up (va_up (Vb nb P Q G I M).2.1 12 (fun _ => nfb (Vb nb P Q G I M))) 13 (fun _ => nfi (Vb nb P Q G I M)), (fun k => if k = 2 then (fun _ x => nfbg (Vb nb P Q G I M) x) else if k = 3 then (fun _ x => nfig (Vb nb P Q G I M) x) else (fun _ _ => 0)), fun _ _ => [])
set_option maxRecDepth 4096 in
theorem V0_P (nb P Q G I M : Nat) : vP (V0 nb P Q G I M) = P ∧ vQ (V0 nb P Q G I M) = Q ∧ vG (V0 nb P Q G I M) = G ∧ vI (V0 nb P Q G I M) = I ∧ vmd (V0 nb P Q G I M) = M := ⟨rfl, rfl, rfl, rfl, rfl⟩
set_option maxRecDepth 4096 in
theorem V0_ot (nb P Q G I M b : Nat) : vot (V0 nb P Q G I M) b = o0 nb P G b := rfl
set_option maxRecDepth 4096 in
theorem V0_kd (nb P Q G I M i : Nat) : vkd (V0 nb P Q G I M) i = 0 := rfl
set_option maxRecDepth 4096 in
theorem V0_z (nb P Q G I M : Nat) {k : Nat} (h0 : k ≠ 0) (h1 : k ≠ 11) (h2 : k ≠ 12) (h3 : k ≠ 13) (i : Nat) : (V0 nb P Q G I M).2.1 k i = 0 := by
  show va_up (va_up (va_up (va_up (fun _ _ => 0) 0 (o0 nb P G)) 11 (fun _ => 2)) 12 (fun _ => nfb (Vb nb P Q G I M))) 13 (fun _ => nfi (Vb nb P Q G I M)) k i = 0
  rw [va_up_ne _ _ h3, va_up_ne _ _ h2, va_up_ne _ _ h1, va_up_ne _ _ h0]
set_option maxRecDepth 4096 in
theorem V0_nl (nb P Q G I M i : Nat) : ¬ live (V0 nb P Q G I M) i := by unfold live; rw [V0_kd]; omega
set_option maxRecDepth 4096 in
theorem o0_3 {nb P G b : Nat} : o0 nb P G b = 7 ∨ o0 nb P G b = 2 ∨ o0 nb P G b = 0 := by unfold o0; split <;> (try split) <;> omega
set_option maxRecDepth 4096 in
theorem V0_B {nb P Q G : Nat} (L : Lay nb P Q G) (I M : Nat) : Bas nb (V0 nb P Q G I M) := by
  refine ⟨L, fun b h1 h2 => ?_, rfl, fun b hb => ?_⟩
  · show (b - 1) % P < 4 + G / 8 ↔ o0 nb P G b = 2
    unfold o0
    rw [if_neg (by omega)]
    by_cases c : (b - 1) % P < 4 + G / 8
    · rw [if_pos c]; exact ⟨fun _ => rfl, fun _ => c⟩
    · rw [if_neg c]; exact ⟨fun z => absurd z c, fun z => by omega⟩
  · show o0 nb P G b = 7
    unfold o0; rw [if_pos (.inr hb)]
set_option maxRecDepth 4096 in
theorem V0_CB (nb P Q G I M : Nat) : CntB (V0 nb P Q G I M) := fun _ _ => ⟨rfl, fun _ _ => rfl⟩
set_option maxRecDepth 4096 in
theorem V0_CI (nb P Q G I M : Nat) : CntI (V0 nb P Q G I M) := fun _ _ => ⟨rfl, fun _ _ => rfl⟩
set_option maxRecDepth 4096 in
theorem V0_nd (nb P Q G I M x : Nat) : ndcg (V0 nb P Q G I M) x = 0 := by
  unfold ndcg
  exact num_zero (n := 0) (Nat.zero_le _) (fun j _ _ => rfl)
set_option maxRecDepth 4096 in
theorem V0_CD (nb P Q G I M : Nat) : CntD (V0 nb P Q G I M) := fun y _ x _ => by rw [V0_nd]; rfl
set_option maxRecDepth 4096 in
theorem V0_O (nb P Q G I M : Nat) : OwnC nb (V0 nb P Q G I M) := by
  have nl := V0_nl nb P Q G I M
  have h3 : ∀ b, vot (V0 nb P Q G I M) b = 7 ∨ vot (V0 nb P Q G I M) b = 2 ∨ vot (V0 nb P Q G I M) b = 0 := fun b => o0_3
  exact ⟨fun i _ hl => absurd hl (nl i), fun b _ h => by have := h3 b; omega, fun i hl => absurd hl (nl i), fun b _ h => by have := h3 b; omega, fun i hl => absurd hl (nl i), fun b _ h => by have := h3 b; omega, fun i _ hl => absurd hl (nl i), fun b _ h => by have := h3 b; omega⟩
set_option maxRecDepth 4096 in
theorem V0_A {nb P Q G : Nat} (L : Lay nb P Q G) (I M : Nat) : Stc nb (V0 nb P Q G I M) := ⟨V0_B L I M, V0_CB _ _ _ _ _ _, V0_O _ _ _ _ _ _⟩
set_option maxRecDepth 4096 in
theorem V0_ub {nb P Q G : Nat} (L : Lay nb P Q G) (I M x k : Nat) (hx : x < Q) : ub (V0 nb P Q G I M) x k = uF (4 + G / 8) (rmB nb (V0 nb P Q G I M) x) k := by
  have hgr := L.grp hx
  show (if P ≤ k ∨ o0 nb P G (1 + x * P + k) ≠ 0 then 1 else 0) = uF (4 + G / 8) (if nb - (1 + x * P) < P then nb - (1 + x * P) else P) k
  unfold uF
  by_cases c : P ≤ k
  · rw [if_pos (.inl c), if_neg]
    intro z
    split at z <;> omega
  · have hb := L.blk (x := x) (r := k) (by omega)
    unfold o0
    by_cases c2 : nb ≤ 1 + x * P + k
    · rw [if_pos (c := 1 + x * P + k = 0 ∨ nb ≤ 1 + x * P + k) (.inr c2), if_pos (by omega), if_neg]
      intro z
      split at z <;> omega
    · rw [if_neg (c := 1 + x * P + k = 0 ∨ nb ≤ 1 + x * P + k) (by omega), show 1 + x * P + k - 1 = x * P + k by omega, hb.2]
      by_cases c3 : k < 4 + G / 8
      · rw [if_pos c3, if_pos (by omega), if_neg (by omega)]
      · rw [if_neg c3, if_neg (by omega), if_pos]
        refine ⟨by omega, ?_⟩
        split <;> omega
set_option maxRecDepth 4096 in
theorem V0_ui (nb P Q G I M x k : Nat) : ui (V0 nb P Q G I M) x k = uF 0 G k := by
  show (if G ≤ k ∨ vkd (V0 nb P Q G I M) (x * G + k + 1) ≠ 0 then 1 else 0) = uF 0 G k
  rw [V0_kd]
  unfold uF
  by_cases c : G ≤ k
  · rw [if_pos (.inl c), if_neg (by omega)]
  · rw [if_neg (by omega), if_pos (by omega)]
set_option maxRecDepth 4096 in
theorem V0_DX {nb P Q G : Nat} (L : Lay nb P Q G) (I M : Nat) {d : Nat → Nat} (h0 : ∀ o, o < 1024 → d o = 0) (ht : ∀ x a, x < Q → a < 2048 → d (1024 * (1 + x * P) + a) = TE nb (V0 nb P Q G I M) x a)
    (h2 : ∀ x m, x < Q → m < 1024 → d (1024 * (1 + x * P + 2) + m) = bits8 (fun t => ub (V0 nb P Q G I M) x (8 * m + t))) (h3 : ∀ x m, x < Q → m < 1024 → d (1024 * (1 + x * P + 3) + m) = bits8 (fun t => ui (V0 nb P Q G I M) x (8 * m + t)))
    (h4 : ∀ x r o, x < Q → 4 ≤ r → r < 4 + G / 8 → o < 1024 → d (1024 * (1 + x * P + r) + o) = 0) : DX nb (V0 nb P Q G I M) d := by
  intro b o hb ho hv
  by_cases c : b = 0
  · subst c
    have e : vot (V0 nb P Q G I M) 0 = 7 := rfl
    rw [img, if_neg (by omega), if_neg (by omega), if_neg (by omega), if_neg (by omega), if_neg (by omega), Nat.mul_zero, Nat.zero_add]
    exact h0 o ho
  · have e2 : vot (V0 nb P Q G I M) b = 2 := by
      rw [V0_ot] at hv ⊢
      unfold o0 at hv ⊢
      rw [if_neg (by omega)] at hv ⊢
      by_cases q : (b - 1) % P < 4 + G / 8
      · rw [if_pos q]
      · rw [if_neg q] at hv; omega
    have hr := ((V0_B L I M).2.1 b (by omega) hb).mpr e2
    obtain ⟨hx, he, hp⟩ := L.div (by omega) hb
    rw [img_2 _ e2]
    show d (1024 * b + o) = fx nb (V0 nb P Q G I M) ((b - 1) / P) ((b - 1) % P) o b
    have hr' : (b - 1) % P < 4 + G / 8 := hr
    have eb : b = 1 + (b - 1) / P * P + (b - 1) % P := by omega
    generalize (b - 1) / P = x at *
    generalize (b - 1) % P = r at *
    rcases (show r = 0 ∨ r = 1 ∨ r = 2 ∨ r = 3 ∨ 4 ≤ r by omega) with w | w | w | w | w
    · subst w
      have := ht x o hx (by omega)
      rw [fx_0, show 1024 * b + o = 1024 * (1 + x * P) + o by omega, this, TE_s ho]
    · subst w
      have := ht x (1024 + o) hx (by omega)
      rw [fx_1, show 1024 * b + o = 1024 * (1 + x * P) + (1024 + o) by omega, this]
      unfold TE
      rw [if_neg (by omega), show 1024 + o - 1024 = o by omega]
    · subst w
      rw [fx_2, show 1024 * b + o = 1024 * (1 + x * P + 2) + o by omega, h2 x o hx ho]
    · subst w
      rw [fx_3, show 1024 * b + o = 1024 * (1 + x * P + 3) + o by omega, h3 x o hx ho]
    · rw [fx_4 _ _ _ _ _ _ w, show 1024 * b + o = 1024 * (1 + x * P + r) + o by omega, h4 x r o hx w hr' ho]
      unfold ino; rw [if_neg (V0_nl nb P Q G I M _)]
