set_option maxRecDepth 4096 in
theorem fld_mid {q q' : Nat × Nat × Nat} (h1 : q.1 = q'.1) (h2 : q.2.1 = q'.2.1) {o : Nat} (ho : ¬ (q.1 ≤ o ∧ o < q.1 + q.2.1)) : ∀ (L1 L2 : List (Nat × Nat × Nat)), fld (L1 ++ q :: L2) o = fld (L1 ++ q' :: L2) o := by
  intro L1
  induction L1 with
  | nil => intro L2; show fld (q :: L2) o = fld (q' :: L2) o; unfold fld; rw [if_neg ho, if_neg (by rw [← h1, ← h2]; exact ho)]
  | cons p L1 ih => intro L2; show fld (p :: (L1 ++ q :: L2)) o = fld (p :: (L1 ++ q' :: L2)) o; unfold fld; rw [ih L2]
set_option maxRecDepth 4096 in
theorem sup_ch {nb : Nat} {V : VV} (CB : CntB V) (CI : CntI V) {x y a : Nat} (hx : x < vQ V) (hy : y < vQ V) (ha : ¬ (90 ≤ a ∧ a < 92)) : fld (supF nb V y) a = fld (supF nb V x) a := by
  have e : supF nb V y = [(0, 4, vQ V * vG V), (4, 4, nb), (12, 4, vFB V y), (16, 4, vFI V y), (20, 4, 1), (32, 4, vP V), (36, 4, vP V), (40, 4, vG V), (54, 2, 65535), (56, 2, 61267), (58, 2, 1), (60, 2, 1), (76, 4, 1), (84, 4, 11), (88, 2, 128)] ++ (90, 2, y) :: [(96, 4, 2), (104, 4, vI V)] := rfl
  have e2 : supF nb V x = [(0, 4, vQ V * vG V), (4, 4, nb), (12, 4, vFB V x), (16, 4, vFI V x), (20, 4, 1), (32, 4, vP V), (36, 4, vP V), (40, 4, vG V), (54, 2, 65535), (56, 2, 61267), (58, 2, 1), (60, 2, 1), (76, 4, 1), (84, 4, 11), (88, 2, 128)] ++ (90, 2, x) :: [(96, 4, 2), (104, 4, vI V)] := rfl
  rw [e, e2, (CB y hy).1, (CB x hx).1, (CI y hy).1, (CI x hx).1]
  exact fld_mid (q := (90, 2, y)) (q' := (90, 2, x)) rfl rfl ha _ _
set_option maxRecDepth 4096 in
theorem TE_ch {nb : Nat} {V : VV} (CB : CntB V) (CI : CntI V) (CD : CntD V) {x y : Nat} (hx : x < vQ V) (hy : y < vQ V) {e : Nat → Nat} (h : ∀ a, a < 2048 → e a = TE nb V y a) : ∀ a, a < 2048 → wrN e 90 2 x a = TE nb V x a := by
  intro a ha
  unfold wrN
  by_cases c : 90 ≤ a ∧ a < 90 + 2
  · rw [if_pos c, TE_s (by omega)]
    have := fld_get _ (Srt_sup nb V x) (90, 2, x) (by unfold supF; simp) (a - 90) (by show a - 90 < 2; omega)
    rw [show (90, 2, x).1 + (a - 90) = a by show 90 + (a - 90) = a; omega] at this
    exact this.symm
  · rw [if_neg c, h a ha]
    unfold TE
    by_cases c2 : a < 1024
    · rw [if_pos c2, if_pos c2]; exact sup_ch CB CI hx hy (by omega)
    · rw [if_neg c2, if_neg c2]
      by_cases c3 : (a - 1024) / 32 < vQ V
      · rw [if_pos c3, if_pos c3, dkL_e CB CI CD hy c3, dkL_e CB CI CD hx c3]
      · rw [if_neg c3, if_neg c3]
set_option maxRecDepth 4096 in
theorem inoA_g {nb : Nat} {V : VV} (B : Bas nb V) {x k : Nat} (hk : k < vG V) : inoA (vP V) (vG V) (x * vG V + k + 1) = 1024 * (1 + x * vP V + 4) + k * 128 := by
  have hg := G_lt B
  unfold inoA
  have e1 : (x * vG V + k + 1 - 1) / vG V = x := by
    rw [show x * vG V + k + 1 - 1 = k + x * vG V by omega, Nat.add_mul_div_right _ _ (by omega), Nat.div_eq_of_lt hk, Nat.zero_add]
  have e2 : (x * vG V + k + 1 - 1) % vG V = k := by
    rw [show x * vG V + k + 1 - 1 = k + x * vG V by omega, Nat.add_mul_mod_self_right, Nat.mod_eq_of_lt hk]
  rw [e1, e2, Nat.mul_comm k 128]
set_option maxRecDepth 4096 in
theorem ino_le {V : VV} {x k : Nat} (hx : x < vQ V) (hk : k < vG V) : x * vG V + k + 1 ≤ vQ V * vG V := by
  have : (x + 1) * vG V ≤ vQ V * vG V := Nat.mul_le_mul_right _ hx
  rw [Nat.add_mul] at this; omega
set_option maxRecDepth 4096 in
theorem mode_D {nb : Nat} {V : VV} {d : Nat → Nat} (B : Bas nb V) (D : DX nb V d) {x k : Nat} (hx : x < vQ V) (hk : k < vG V) : rd2 d (1024 * (1 + x * vP V + 4) + k * 128) = 16877 ↔ vkd V (x * vG V + k + 1) = 2 := by
  rw [← inoA_g B hk]
  have h2 := ino_le hx hk
  by_cases hl : live V (x * vG V + k + 1)
  · rw [rd_mode B D (by omega) h2 hl]
    by_cases q : vkd V (x * vG V + k + 1) = 2
    · rw [if_pos q]; exact ⟨fun _ => q, fun _ => rfl⟩
    · rw [if_neg q]; exact ⟨fun z => by omega, fun z => absurd z q⟩
  · rw [rd_dead B D (by omega) h2 hl]
    exact ⟨fun z => by omega, fun z => absurd (.inr z) hl⟩
set_option maxRecDepth 4096 in
theorem TE_D {nb : Nat} {V : VV} {d : Nat → Nat} (B : Bas nb V) (D : DX nb V d) {x i : Nat} (hx : x < vQ V) (hi : i < 2048) : d (1024 * (1 + x * vP V + 0) + i) % 256 = TE nb V x i := by
  have hg := G_lt B
  rw [← Nat.mod_eq_of_lt (TE_lt nb V x i)]
  congr 1
  by_cases c : i < 1024
  · rw [fx_d B D (r := 0) hx (by omega) c, fx_0, TE_s c]
  · have := fx_d B D (r := 1) (o := i - 1024) hx (by omega) (by omega)
    rw [show 1024 * (1 + x * vP V + 1) + (i - 1024) = 1024 * (1 + x * vP V + 0) + i by omega] at this
    rw [this, fx_1]; unfold TE; rw [if_neg c]
set_option maxRecDepth 4096 in
theorem headsH_X {nb : Nat} {V : VV} (G : Good nb V) {ρ : XS} {d : Nat → Nat} (S : Sc V ρ) (D : DX nb V d) : ∃ e, fXX7_headsHold_10 nb (XD ρ d) = some (nI 1, XD (XE ρ e) d) := by
  have B := G.1.1
  have CB := G.1.2.1; have CI := G.2.1; have CD := G.2.2.1
  have hg := G_lt B
  have ff := fill_E (nb := nb) ρ d
  have gr := B.1.grp (x := 0) (by omega)
  have id4 : rd4 d 1128 = vI V := by
    refine rd4_of G.2.2.2.2.2.2.2.2.2.2.2.2.1.1 (fun j hj => ?_)
    have := fx_d B D (x := 0) (r := 0) (o := 104 + j) (by omega) (by omega) (by omega)
    rw [show 1024 * (1 + 0 * vP V + 0) + (104 + j) = 1128 + j by omega] at this
    rw [this, fx_0]
    exact fld_get _ (Srt_sup nb V 0) (104, 4, vI V) (by unfold supF; simp) j hj
  have g4 := get4_X (nb := nb) (a := 1128) (XE ρ (fun _ => 0)) d (by omega) (by omega)
  rw [id4] at g4
  obtain ⟨e1, _, a2, a3⟩ := sket11_X B CB CI CD S (fun _ => 0) d (b := 0) (by omega) (fun _ _ => rfl)
    (fun x hx e _ => freeIn4_X B (show Sc V (XE ρ e) from S) hx (fun m hm => by rw [fx_d B D (r := 2) hx (by omega) hm, fx_2]))
    (fun x hx e _ => freeIn5_X B (show Sc V (XE ρ e) from S) hx (fun m hm => by rw [fx_d B D (r := 3) hx (by omega) hm, fx_3]))
    (fun x hx e _ => dirsIn_X B (show Sc V (XE ρ e) from S) hx (fun k hk => mode_D B D hx hk))
  have key : ∃ e, (∃ y, y < vQ V ∧ ∀ a, a < 2048 → e a = TE nb V y a) ∧ ∀ u : Unit, lfix ((fun _ k40 t => fXX7_headsHold_10_40 nb k40 t.1 t.2) u) FU (nI 0, XD (XE ρ e1) d) = some (nI 1, XD (XE ρ e) d) := by
    refine lfor (κ := Unit) (fun _ k40 t => fXX7_headsHold_10_40 nb k40 t.1 t.2) (fun x (e : Nat → Nat) => (nI x, XD (XE ρ e) d)) (fun _ e => some (nI 1, XD (XE ρ e) d)) (vQ V) (fun _ e => ∃ y, y < vQ V ∧ ∀ a, a < 2048 → e a = TE nb V y a) ?_ ?_ 0 e1 FU (Nat.zero_le _) ⟨0, by omega, fun a ha => by have := a2 a ha; rw [Nat.zero_add] at this; exact this⟩ (by unfold FU; omega)
    · rintro x e hx ⟨y, hy, he⟩
      have hT := TE_ch CB CI CD hx hy he
      have gX := groups_X B (show Sc V (XE ρ e) from S) d
      have p2 := put2_E (nb := nb) (a := 90) ρ e d x (by omega)
      generalize hE : wrN e 90 2 x = e' at *
      have pA := partAt_X B (show Sc V (XE ρ e') from S) d x 0
      have hlt := fx_lt B (r := 1) hx (by omega)
      refine ⟨e', ⟨x, hx, hT⟩, fun _ K => ?_⟩
      have inner : ∃ _ : Unit, True ∧ ∀ K : (Int32 × XS) → Option (Int32 × XS), lfix ((fun k40 k73 t => fXX7_headsHold_10_73 nb k40 k73 t.1 t.2.1 t.2.2.1 t.2.2.2) K) FU (nI x, nI (1024 * (1 + x * vP V + 0)), nI 0, XD (XE ρ e') d) = K (nI (x + 1), XD (XE ρ e') d) := by
        refine lfor (fun k40 k73 t => fXX7_headsHold_10_73 nb k40 k73 t.1 t.2.1 t.2.2.1 t.2.2.2) (fun i (_ : Unit) => (nI x, nI (1024 * (1 + x * vP V + 0)), nI i, XD (XE ρ e') d)) (fun K _ => K (nI (x + 1), XD (XE ρ e') d)) 2048 (fun _ _ => True) ?_ ?_ 0 () FU (by omega) trivial (by unfold FU; omega)
        · rintro i _ hi _
          refine ⟨(), trivial, fun K K2 => ?_⟩
          have g := get_X (nb := nb) (a := 1024 * (1 + x * vP V + 0) + i) (XE ρ e') d (by omega) (by omega)
          rw [TE_D B D hx hi] at g
          have gE := get_E (nb := nb) (a := i) ρ e' d hi
          rw [hT i hi, Nat.mod_eq_of_lt (TE_lt nb V x i)] at gE
          simp (disch := omega) only [fXX7_headsHold_10_73, fXX1_length_11, fXX1_length_11_0, obs, lit, litN, nI_leI', if_neg, nI_add, g, gE, if_true]
        · rintro _ _ K K2
          simp (disch := omega) only [fXX7_headsHold_10_73, fXX1_length_11, fXX1_length_11_0, obs, lit, litN, nI_leI', if_pos, nI_add]
      obtain ⟨_, _, hin⟩ := inner
      have hin := hin K
      simp (disch := omega) only [fXX7_headsHold_10_40, gX, obs, nI_leI', if_neg, lit, litN, p2, pA]
      exact hin
    · rintro e _ _ K
      have gX := groups_X B (show Sc V (XE ρ e) from S) d
      simp (disch := omega) only [fXX7_headsHold_10_40, gX, obs, nI_leI', if_pos, lit, litN]
  obtain ⟨e, _, h⟩ := key
  have h' := h ()
  refine ⟨e, ?_⟩
  simp only [fXX7_headsHold_10, fXX7_headsHold_10_0, fXX1_length_11, fXX1_length_11_0, obs, lit, litN, ff, g4, a3]
  exact h'
