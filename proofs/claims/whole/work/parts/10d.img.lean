def byt (v j : Nat) : Nat := v / 256 ^ j % 256
def fld : List (Nat × Nat × Nat) → Nat → Nat
  | [], _ => 0
  | q :: t, o => if q.1 ≤ o ∧ o < q.1 + q.2.1 then byt q.2.2 (o - q.1) else fld t o
def bits8 (f : Nat → Nat) : Nat := f 0 + 2 * f 1 + 4 * f 2 + 8 * f 3 + 16 * f 4 + 32 * f 5 + 64 * f 6 + 128 * f 7
def ub (V : VV) (x k : Nat) : Nat := if vP V ≤ k ∨ vot V (1 + x * vP V + k) ≠ 0 then 1 else 0
def ui (V : VV) (x k : Nat) : Nat := if vG V ≤ k ∨ vkd V (x * vG V + k + 1) ≠ 0 then 1 else 0
def ptr (V : VV) (i k : Nat) : Nat := if k < vmn V i then vbl V i k else 0
abbrev live (V : VV) (i : Nat) : Prop := vkd V i = 1 ∨ vkd V i = 2
def inoF (V : VV) (i : Nat) : List (Nat × Nat × Nat) := [(0, 2, if vkd V i = 2 then 16877 else 33188), (4, 4, vsz V i), (8, 4, vtm V (3 * i)), (12, 4, vtm V (3 * i + 1)), (16, 4, vtm V (3 * i + 2)), (26, 2, vlk V i), (28, 4, vtw V i), (88, 4, vsg V i), (92, 4, vdb V i)]
def ino (V : VV) (i o : Nat) : Nat := if vkd V i = 1 ∨ vkd V i = 2 then (if 40 ≤ o ∧ o < 88 then byt (ptr V i ((o - 40) / 4)) ((o - 40) % 4) else fld (inoF V i) o) else 0
def supF (nb : Nat) (V : VV) (x : Nat) : List (Nat × Nat × Nat) := [(0, 4, vQ V * vG V), (4, 4, nb), (12, 4, vFB V x), (16, 4, vFI V x), (20, 4, 1), (32, 4, vP V), (36, 4, vP V), (40, 4, vG V), (54, 2, 65535), (56, 2, 61267), (58, 2, 1), (60, 2, 1), (76, 4, 1), (84, 4, 11), (88, 2, 128), (90, 2, x), (96, 4, 2), (104, 4, vI V)]
def dscF (V : VV) (x y : Nat) : List (Nat × Nat × Nat) := [(0, 4, 1 + y * vP V + 2), (4, 4, 1 + y * vP V + 3), (8, 4, 1 + y * vP V + 4), (12, 2, vfb V x y), (14, 2, vfi V x y), (16, 2, vdc V x y)]
def fx (nb : Nat) (V : VV) (x r o : Nat) (b : Nat) : Nat :=
  if r = 0 then fld (supF nb V x) o else if r = 1 then (if o / 32 < vQ V then fld (dscF V x (o / 32)) (o % 32) else 0)
  else if r = 2 then bits8 (fun t => ub V x (8 * o + t)) else if r = 3 then bits8 (fun t => ui V x (8 * o + t)) else ino V (inoX (vP V) (vG V) b o) (o % 128)
def img (nb : Nat) (V : VV) (b o : Nat) : Nat :=
  if vot V b = 2 then fx nb V ((b - 1) / vP V) ((b - 1) % vP V) o b
  else if vot V b = 3 then vdat V (1024 * b + o)
  else if vot V b = 4 then byt (ptr V (voi V b) (12 + o / 4)) (o % 4)
  else if vot V b = 5 then byt (if o / 4 < vrn V (voi V b) then vrw V (voi V b) (o / 4) else 0) (o % 4)
  else if vot V b = 6 then byt (ptr V (voi V b) (268 + 256 * vok V b + o / 4)) (o % 4) else 0
def DX (nb : Nat) (V : VV) (d : Nat → Nat) : Prop := ∀ b o, b < nb → o < 1024 → 2 ≤ vot V b → d (1024 * b + o) = img nb V b o
def Bas (nb : Nat) (V : VV) : Prop := Lay nb (vP V) (vQ V) (vG V) ∧ (∀ b, 1 ≤ b → b < nb → ((b - 1) % vP V < 4 + vG V / 8 ↔ vot V b = 2)) ∧ vot V 0 = 7 ∧ ∀ b, nb ≤ b → vot V b = 7
theorem rd4_of {f : Nat → Nat} {a v : Nat} (hv : v < 4294967296) (h : ∀ j, j < 4 → f (a + j) = byt v j) : rd4 f a = v := by
  unfold rd4
  have h0 := h 0 (by omega); have h1 := h 1 (by omega); have h2 := h 2 (by omega); have h3 := h 3 (by omega)
  simp only [byt, Nat.add_zero, Nat.reducePow, Nat.div_one] at h0 h1 h2 h3
  rw [h0, h1, h2, h3]; omega
theorem rd2_of {f : Nat → Nat} {a v : Nat} (hv : v < 65536) (h : ∀ j, j < 2 → f (a + j) = byt v j) : rd2 f a = v := by
  unfold rd2
  have h0 := h 0 (by omega); have h1 := h 1 (by omega)
  simp only [byt, Nat.add_zero, Nat.reducePow, Nat.div_one] at h0 h1
  rw [h0, h1]; omega
-- an inode's bytes
theorem ino_d {nb : Nat} {V : VV} {d : Nat → Nat} (B : Bas nb V) (D : DX nb V d) {i : Nat} (h1 : 1 ≤ i) (h2 : i ≤ vQ V * vG V) {o : Nat} (ho : o < 128) : d (inoA (vP V) (vG V) i + o) = ino V i o := by
  obtain ⟨b, o', hb, hb1, ho', e, hr, hr2, hx, hm⟩ := B.1.at h1 h2 ho
  have ht := (B.2.1 b hb1 hb).mp hr2
  rw [e, D b o' hb ho' (by omega), img, if_pos ht, fx, if_neg (by omega), if_neg (by omega), if_neg (by omega), if_neg (by omega), hx, hm]
theorem inoA_lt {nb : Nat} {V : VV} (B : Bas nb V) {i : Nat} (h1 : 1 ≤ i) (h2 : i ≤ vQ V * vG V) : inoA (vP V) (vG V) i + 127 < nb * 1024 := by
  obtain ⟨b, o', hb, hb1, ho', e, _⟩ := B.1.at h1 h2 (o := 127) (by omega)
  omega
theorem rd_ino4 {nb : Nat} {V : VV} {d : Nat → Nat} (B : Bas nb V) (D : DX nb V d) {i : Nat} (h1 : 1 ≤ i) (h2 : i ≤ vQ V * vG V) (hl : live V i) (s v : Nat) (hs : s + 4 ≤ 128) (hp : s + 4 ≤ 40 ∨ 88 ≤ s) (hv : v < 4294967296) (hf : ∀ j, j < 4 → fld (inoF V i) (s + j) = byt v j) : rd4 d (inoA (vP V) (vG V) i + s) = v := by
  refine rd4_of hv (fun j hj => ?_)
  rw [Nat.add_assoc, ino_d B D h1 h2 (by omega), ino, if_pos hl, if_neg (by omega), hf j hj]
theorem rd_ino2 {nb : Nat} {V : VV} {d : Nat → Nat} (B : Bas nb V) (D : DX nb V d) {i : Nat} (h1 : 1 ≤ i) (h2 : i ≤ vQ V * vG V) (hl : live V i) (s v : Nat) (hs : s + 2 ≤ 40) (hv : v < 65536) (hf : ∀ j, j < 2 → fld (inoF V i) (s + j) = byt v j) : rd2 d (inoA (vP V) (vG V) i + s) = v := by
  refine rd2_of hv (fun j hj => ?_)
  rw [Nat.add_assoc, ino_d B D h1 h2 (by omega), ino, if_pos hl, if_neg (by omega), hf j hj]
theorem lt4 {j : Nat} (h : j < 4) : j = 0 ∨ j = 1 ∨ j = 2 ∨ j = 3 := by omega
theorem lt2 {j : Nat} (h : j < 2) : j = 0 ∨ j = 1 := by omega
theorem rd_mode {nb : Nat} {V : VV} {d : Nat → Nat} (B : Bas nb V) (D : DX nb V d) {i : Nat} (h1 : 1 ≤ i) (h2 : i ≤ vQ V * vG V) (hl : live V i) : rd2 d (inoA (vP V) (vG V) i) = if vkd V i = 2 then 16877 else 33188 := by
  refine rd_ino2 B D h1 h2 hl 0 _ (by omega) (by split <;> omega) (fun j hj => ?_)
  rcases lt2 hj with rfl | rfl <;> rfl
theorem rd_dead {nb : Nat} {V : VV} {d : Nat → Nat} (B : Bas nb V) (D : DX nb V d) {i : Nat} (h1 : 1 ≤ i) (h2 : i ≤ vQ V * vG V) (hl : ¬ live V i) : rd2 d (inoA (vP V) (vG V) i) = 0 := by
  unfold rd2
  rw [show inoA (vP V) (vG V) i = inoA (vP V) (vG V) i + 0 from rfl, ino_d B D h1 h2 (by omega), Nat.add_assoc, ino_d B D h1 h2 (by omega), ino, if_neg hl, ino, if_neg hl]
theorem rd_sz {nb : Nat} {V : VV} {d : Nat → Nat} (B : Bas nb V) (D : DX nb V d) {i : Nat} (h1 : 1 ≤ i) (h2 : i ≤ vQ V * vG V) (hl : live V i) (hv : vsz V i < 4294967296) : rd4 d (inoA (vP V) (vG V) i + 4) = vsz V i := by
  refine rd_ino4 B D h1 h2 hl 4 _ (by omega) (by omega) hv (fun j hj => ?_)
  rcases lt4 hj with rfl | rfl | rfl | rfl <;> rfl
theorem rd_tm {nb : Nat} {V : VV} {d : Nat → Nat} (B : Bas nb V) (D : DX nb V d) {i : Nat} (h1 : 1 ≤ i) (h2 : i ≤ vQ V * vG V) (hl : live V i) {w : Nat} (hw : w < 3) (hv : vtm V (3 * i + w) < 4294967296) : rd4 d (inoA (vP V) (vG V) i + (8 + 4 * w)) = vtm V (3 * i + w) := by
  rcases (show w = 0 ∨ w = 1 ∨ w = 2 by omega) with rfl | rfl | rfl
  all_goals
    refine rd_ino4 B D h1 h2 hl _ _ (by omega) (by omega) hv (fun j hj => ?_)
    rcases lt4 hj with rfl | rfl | rfl | rfl <;> rfl
theorem rd_lk {nb : Nat} {V : VV} {d : Nat → Nat} (B : Bas nb V) (D : DX nb V d) {i : Nat} (h1 : 1 ≤ i) (h2 : i ≤ vQ V * vG V) (hl : live V i) (hv : vlk V i < 65536) : rd2 d (inoA (vP V) (vG V) i + 26) = vlk V i := by
  refine rd_ino2 B D h1 h2 hl 26 _ (by omega) hv (fun j hj => ?_)
  rcases lt2 hj with rfl | rfl <;> rfl
theorem rd_tw {nb : Nat} {V : VV} {d : Nat → Nat} (B : Bas nb V) (D : DX nb V d) {i : Nat} (h1 : 1 ≤ i) (h2 : i ≤ vQ V * vG V) (hl : live V i) (hv : vtw V i < 4294967296) : rd4 d (inoA (vP V) (vG V) i + 28) = vtw V i := by
  refine rd_ino4 B D h1 h2 hl 28 _ (by omega) (by omega) hv (fun j hj => ?_)
  rcases lt4 hj with rfl | rfl | rfl | rfl <;> rfl
theorem rd_sg {nb : Nat} {V : VV} {d : Nat → Nat} (B : Bas nb V) (D : DX nb V d) {i : Nat} (h1 : 1 ≤ i) (h2 : i ≤ vQ V * vG V) (hl : live V i) (hv : vsg V i < 4294967296) : rd4 d (inoA (vP V) (vG V) i + 88) = vsg V i := by
  refine rd_ino4 B D h1 h2 hl 88 _ (by omega) (by omega) hv (fun j hj => ?_)
  rcases lt4 hj with rfl | rfl | rfl | rfl <;> rfl
theorem rd_db {nb : Nat} {V : VV} {d : Nat → Nat} (B : Bas nb V) (D : DX nb V d) {i : Nat} (h1 : 1 ≤ i) (h2 : i ≤ vQ V * vG V) (hl : live V i) (hv : vdb V i < 4294967296) : rd4 d (inoA (vP V) (vG V) i + 92) = vdb V i := by
  refine rd_ino4 B D h1 h2 hl 92 _ (by omega) (by omega) hv (fun j hj => ?_)
  rcases lt4 hj with rfl | rfl | rfl | rfl <;> rfl
theorem rd_dir {nb : Nat} {V : VV} {d : Nat → Nat} (B : Bas nb V) (D : DX nb V d) {i : Nat} (h1 : 1 ≤ i) (h2 : i ≤ vQ V * vG V) (hl : live V i) {k : Nat} (hk : k < 12) (hv : ptr V i k < 4294967296) : rd4 d (inoA (vP V) (vG V) i + (40 + 4 * k)) = ptr V i k := by
  refine rd4_of hv (fun j hj => ?_)
  rw [Nat.add_assoc, ino_d B D h1 h2 (by omega), ino, if_pos hl, if_pos (by omega)]
  rw [show (40 + 4 * k + j - 40) / 4 = k from by omega, show (40 + 4 * k + j - 40) % 4 = j from by omega]
-- words of blocks of pointers
theorem rd_word {nb : Nat} {V : VV} {d : Nat → Nat} (D : DX nb V d) {b : Nat} (hb : b < nb) (ht : 2 ≤ vot V b) {w v : Nat} (hw : w < 256) (hv : v < 4294967296) (hi : ∀ j, j < 4 → img nb V b (4 * w + j) = byt v j) : rd4 d (1024 * b + 4 * w) = v := by
  refine rd4_of hv (fun j hj => ?_)
  rw [Nat.add_assoc, D b _ hb (by omega) ht, hi j hj]
theorem rd_sing {nb : Nat} {V : VV} {d : Nat → Nat} (D : DX nb V d) {b : Nat} (hb : b < nb) (ht : vot V b = 4) {w : Nat} (hw : w < 256) (hv : ptr V (voi V b) (12 + w) < 4294967296) : rd4 d (1024 * b + 4 * w) = ptr V (voi V b) (12 + w) := by
  refine rd_word D hb (by omega) hw hv (fun j hj => ?_)
  rw [img, if_neg (by omega), if_neg (by omega), if_pos ht, show (4 * w + j) / 4 = w from by omega, show (4 * w + j) % 4 = j from by omega]
theorem rd_dbl {nb : Nat} {V : VV} {d : Nat → Nat} (D : DX nb V d) {b : Nat} (hb : b < nb) (ht : vot V b = 5) {w : Nat} (hw : w < 256) (hv : vrw V (voi V b) w < 4294967296) : rd4 d (1024 * b + 4 * w) = if w < vrn V (voi V b) then vrw V (voi V b) w else 0 := by
  refine rd_word D hb (by omega) hw (by split <;> omega) (fun j hj => ?_)
  rw [img, if_neg (by omega), if_neg (by omega), if_neg (by omega), if_pos ht, show (4 * w + j) / 4 = w from by omega, show (4 * w + j) % 4 = j from by omega]
theorem rd_row {nb : Nat} {V : VV} {d : Nat → Nat} (D : DX nb V d) {b : Nat} (hb : b < nb) (ht : vot V b = 6) {w : Nat} (hw : w < 256) (hv : ptr V (voi V b) (268 + 256 * vok V b + w) < 4294967296) : rd4 d (1024 * b + 4 * w) = ptr V (voi V b) (268 + 256 * vok V b + w) := by
  refine rd_word D hb (by omega) hw hv (fun j hj => ?_)
  rw [img, if_neg (by omega), if_neg (by omega), if_neg (by omega), if_neg (by omega), if_pos ht, show (4 * w + j) / 4 = w from by omega, show (4 * w + j) % 4 = j from by omega]
