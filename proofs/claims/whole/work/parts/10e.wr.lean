theorem fx_d {nb : Nat} {V : VV} {d : Nat → Nat} (B : Bas nb V) (D : DX nb V d) {x r o : Nat} (hx : x < vQ V) (hr : r < 4 + vG V / 8) (ho : o < 1024) : d (1024 * (1 + x * vP V + r) + o) = fx nb V x r o (1 + x * vP V + r) := by
  have hg := B.1.grp hx
  have hP := B.1.2.2.2.2.2.2.2.1
  have hb := B.1.blk (x := x) (r := r) (by omega)
  have e : 1 + x * vP V + r - 1 = x * vP V + r := by omega
  have ht := (B.2.1 (1 + x * vP V + r) (by omega) (by omega)).mp (by rw [e, hb.2]; exact hr)
  rw [D _ _ (by omega) ho (by omega), img, if_pos ht, e, hb.1, hb.2]
theorem fx_lt {nb : Nat} {V : VV} (B : Bas nb V) {x r : Nat} (hx : x < vQ V) (hr : r < 4 + vG V / 8) : 1024 * (1 + x * vP V + r) + 1023 < nb * 1024 := by
  have hg := B.1.grp hx
  omega
theorem rd_FB {nb : Nat} {V : VV} {d : Nat → Nat} (B : Bas nb V) (D : DX nb V d) {x : Nat} (hx : x < vQ V) (hv : vFB V x < 4294967296) : rd4 d (1024 * (1 + x * vP V) + 12) = vFB V x := by
  refine rd4_of hv (fun j hj => ?_)
  have h := fx_d B D hx (r := 0) (o := 12 + j) (by omega) (by omega)
  rw [Nat.add_zero] at h
  rw [Nat.add_assoc, h, fx, if_pos rfl]
  rcases lt4 hj with rfl | rfl | rfl | rfl <;> rfl
theorem rd_FI {nb : Nat} {V : VV} {d : Nat → Nat} (B : Bas nb V) (D : DX nb V d) {x : Nat} (hx : x < vQ V) (hv : vFI V x < 4294967296) : rd4 d (1024 * (1 + x * vP V) + 16) = vFI V x := by
  refine rd4_of hv (fun j hj => ?_)
  have h := fx_d B D hx (r := 0) (o := 16 + j) (by omega) (by omega)
  rw [Nat.add_zero] at h
  rw [Nat.add_assoc, h, fx, if_pos rfl]
  rcases lt4 hj with rfl | rfl | rfl | rfl <;> rfl
theorem rd_dsc {nb : Nat} {V : VV} {d : Nat → Nat} (B : Bas nb V) (D : DX nb V d) {x y s : Nat} {v : Nat} (hx : x < vQ V) (hy : y < vQ V) (hs : s + 2 ≤ 32) (hv : v < 65536) (hf : ∀ j, j < 2 → fld (dscF V x y) (s + j) = byt v j) : rd2 d (1024 * (1 + x * vP V + 1) + (32 * y + s)) = v := by
  have hQ : vQ V ≤ 8 := B.1.2.2.2.2.1
  refine rd2_of hv (fun j hj => ?_)
  have h := fx_d B D hx (r := 1) (o := 32 * y + s + j) (by omega) (by omega)
  rw [Nat.add_assoc, h, fx, if_neg (by omega), if_pos rfl, show (32 * y + s + j) / 32 = y from by omega, show (32 * y + s + j) % 32 = s + j from by omega, if_pos hy, hf j hj]
theorem rd_fb {nb : Nat} {V : VV} {d : Nat → Nat} (B : Bas nb V) (D : DX nb V d) {x y : Nat} (hx : x < vQ V) (hy : y < vQ V) (hv : vfb V x y < 65536) : rd2 d (1024 * (1 + x * vP V + 1) + (32 * y + 12)) = vfb V x y := by
  refine rd_dsc B D hx hy (by omega) hv (fun j hj => ?_)
  rcases lt2 hj with rfl | rfl <;> rfl
theorem rd_fi {nb : Nat} {V : VV} {d : Nat → Nat} (B : Bas nb V) (D : DX nb V d) {x y : Nat} (hx : x < vQ V) (hy : y < vQ V) (hv : vfi V x y < 65536) : rd2 d (1024 * (1 + x * vP V + 1) + (32 * y + 14)) = vfi V x y := by
  refine rd_dsc B D hx hy (by omega) hv (fun j hj => ?_)
  rcases lt2 hj with rfl | rfl <;> rfl
theorem rd_dc {nb : Nat} {V : VV} {d : Nat → Nat} (B : Bas nb V) (D : DX nb V d) {x y : Nat} (hx : x < vQ V) (hy : y < vQ V) (hv : vdc V x y < 65536) : rd2 d (1024 * (1 + x * vP V + 1) + (32 * y + 16)) = vdc V x y := by
  refine rd_dsc B D hx hy (by omega) hv (fun j hj => ?_)
  rcases lt2 hj with rfl | rfl <;> rfl
theorem rd_bmp {nb : Nat} {V : VV} {d : Nat → Nat} (B : Bas nb V) (D : DX nb V d) {x o : Nat} (hx : x < vQ V) (ho : o < 1024) : d (1024 * (1 + x * vP V + 2) + o) = bits8 (fun t => ub V x (8 * o + t)) := by
  rw [fx_d B D hx (by omega) ho, fx, if_neg (by omega), if_neg (by omega), if_pos rfl]
theorem rd_imp {nb : Nat} {V : VV} {d : Nat → Nat} (B : Bas nb V) (D : DX nb V d) {x o : Nat} (hx : x < vQ V) (ho : o < 1024) : d (1024 * (1 + x * vP V + 3) + o) = bits8 (fun t => ui V x (8 * o + t)) := by
  rw [fx_d B D hx (by omega) ho, fx, if_neg (by omega), if_neg (by omega), if_neg (by omega), if_pos rfl]
-- writing
def wrN (d : Nat → Nat) (a n v : Nat) : Nat → Nat := fun x => if a ≤ x ∧ x < a + n then byt v (x - a) else d x
theorem wr4_N (d : Nat → Nat) (a v : Nat) : wr4 d a v = wrN d a 4 v := by
  funext x; unfold wr4 wr2 wr1 wrN byt
  by_cases h0 : x = a
  · subst h0; simp
  by_cases h1 : x = a + 1
  · subst h1; simp
  by_cases h2 : x = a + 2
  · subst h2; simp
  by_cases h3 : x = a + 3
  · subst h3; simp
  rw [if_neg h3, if_neg h2, if_neg h1, if_neg h0, if_neg (by omega)]
theorem wr2_N (d : Nat → Nat) (a v : Nat) : wr2 d a v = wrN d a 2 v := by
  funext x; unfold wr2 wr1 wrN byt
  by_cases h0 : x = a
  · subst h0; simp
  by_cases h1 : x = a + 1
  · subst h1; simp
  rw [if_neg h1, if_neg h0, if_neg (by omega)]
theorem wr1_N (d : Nat → Nat) (a v : Nat) : wr1 d a v = wrN d a 1 v := by
  funext x; unfold wr1 wrN byt
  by_cases h0 : x = a
  · subst h0; simp
  rw [if_neg h0, if_neg (by omega)]
theorem DX_wr {nb : Nat} {V V' : VV} {d : Nat → Nat} {a n v : Nat} (D : DX nb V d) (ho : ∀ b, b < nb → 2 ≤ vot V' b → 2 ≤ vot V b)
    (hi : ∀ b o, b < nb → o < 1024 → 2 ≤ vot V' b → img nb V' b o = if a ≤ 1024 * b + o ∧ 1024 * b + o < a + n then byt v (1024 * b + o - a) else img nb V b o) : DX nb V' (wrN d a n v) := by
  intro b o hb hoo ht
  rw [hi b o hb hoo ht, wrN]
  by_cases h : a ≤ 1024 * b + o ∧ 1024 * b + o < a + n
  · rw [if_pos h, if_pos h]
  · rw [if_neg h, if_neg h, D b o hb hoo (ho b hb ht)]
theorem fld_set : ∀ (L : List (Nat × Nat × Nat)) (k s n v v0 : Nat) (o : Nat), L[k]? = some (s, n, v0) → (∀ q ∈ L.take k, q.1 + q.2.1 ≤ s ∨ s + n ≤ q.1) → fld (L.set k (s, n, v)) o = if s ≤ o ∧ o < s + n then byt v (o - s) else fld L o := by
  intro L
  induction L with
  | nil => intro k s n v v0 o h; simp at h
  | cons q t ih =>
    intro k s n v v0 o h hd
    cases k with
    | zero =>
      simp only [List.getElem?_cons_zero, Option.some.injEq] at h
      subst h
      simp only [List.set_cons_zero, fld]
      by_cases h1 : s ≤ o ∧ o < s + n
      · rw [if_pos h1, if_pos h1]
      · rw [if_neg h1, if_neg h1, if_neg h1]
    | succ k =>
      simp only [List.getElem?_cons_succ] at h
      have h1 := ih k s n v v0 o h (fun r hr => hd r (by simp [List.take_succ_cons, hr]))
      have h2 := hd q (by simp [List.take_succ_cons])
      simp only [List.set_cons_succ, fld, h1]
      by_cases h3 : q.1 ≤ o ∧ o < q.1 + q.2.1
      · rw [if_pos h3, if_pos h3, if_neg (by omega)]
      · rw [if_neg h3, if_neg h3]
