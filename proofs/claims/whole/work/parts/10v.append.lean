
set_option maxRecDepth 4096 in
theorem n_sdm' (a : Nat) : a - 1024 * (a / 1024) = a % 1024 := by omega
noncomputable def addN (V : VV) (i : Nat) : Nat → VV
  | 0 => V
  | n + 1 => addB (addN V i n) i
set_option maxRecDepth 4096 in
theorem addN_S {nb : Nat} {V : VV} (A : Stc nb V) {i : Nat} (h1 : 1 ≤ i) (h2 : i ≤ vQ V * vG V) (hl : live V i) (P : Shp V i) : ∀ n, alln (vmn V i + n) ≤ nfb V + alln (vmn V i) →
    Stc nb (addN V i n) ∧ Shp (addN V i n) i ∧ vmn (addN V i n) i = vmn V i + n ∧ nfb (addN V i n) + alln (vmn V i + n) = nfb V + alln (vmn V i) ∧ Ext V (addN V i n) i := by
  intro n
  induction n with
  | zero => intro _; exact ⟨A, P, rfl, rfl, Ext_rfl V i⟩
  | succ n ih =>
    intro hn
    have hmo := alln_mono (show vmn V i + n ≤ vmn V i + (n + 1) by omega)
    obtain ⟨A1, P1, m1, f1, E1⟩ := ih (by omega)
    have hg := G_lt A.1
    have eQ : vQ (addN V i n) = vQ V := congrFun E1.1 1
    have eG : vG (addN V i n) = vG V := congrFun E1.1 2
    have hl1 : live (addN V i n) i := by unfold live; rw [E1.2.1]; exact hl
    have hm1 := mn_lt A1.1 A1.2.2 hl1
    have hc := cost_alln (n := vmn V i + n) (by omega)
    have hn' : alln (vmn V i + n + 1) ≤ nfb V + alln (vmn V i) := hn
    obtain ⟨A2, P2, m2, f2, E2, _, _⟩ := addB_S A1 h1 (by rw [eQ, eG]; exact h2) hl1 P1 (by rw [m1]; omega)
    rw [m1] at m2 f2
    refine ⟨A2, P2, m2, ?_, Ext_trans A1.2.2 hl1 E1 E2⟩
    show nfb (addB (addN V i n) i) + alln (vmn V i + n + 1) = _
    omega
set_option maxRecDepth 4096 in
theorem setR_R (V : VV) (f g : Nat → Nat) : setR (setR V 15 f) 15 g = setR V 15 g := by
  unfold setR; simp only [Prod.mk.injEq, true_and, and_true]
  funext j; unfold va_up; split <;> rfl
def pd (dat bl : Nat → Nat) (s : Nat) (w : Nat → Nat) : Nat → Nat → Nat
  | 0 => dat
  | n + 1 => wr1 (pd dat bl s w n) (1024 * bl ((s + n) / 1024) + (s + n) % 1024) (w n)
set_option maxRecDepth 4096 in
theorem DX_wr1 {nb : Nat} {V : VV} {d : Nat → Nat} (D : DX nb V d) {b o : Nat} (hb : b < nb) (ho : o < 1024) (ht : vot V b = 3) (v : Nat) : DX nb (setR V 15 (wr1 (vdat V) (1024 * b + o) v)) (wr1 d (1024 * b + o) v) := by
  refine DX_dat D (b0 := b) (by omega) (fun _ x hx => ?_) (fun a ha => ⟨?_, ?_⟩)
  · unfold wr1
    by_cases c : 1024 * b + x = 1024 * b + o
    · rw [if_pos c, if_pos c]
    · rw [if_neg c, if_neg c, D b x hb hx (by omega), img_3 _ ht]
  · unfold wr1; rw [if_neg (by omega)]
  · unfold wr1; rw [if_neg (by omega)]

set_option maxRecDepth 4096 in
theorem app2_16 {nb : Nat} {V : VV} (A : Stc nb V) {i s c : Nat} (h1 : 1 ≤ i) (h2 : i ≤ vQ V * vG V) (hl : live V i) (P : Shp V i) (hm : vmn V i = prt (s + c)) (hs : s + c < 1000000) (w : Nat → Nat) {σ : XS} (S : Sc V σ) (d : Nat → Nat) (D : DX nb V d) (base : Int32) (hb : 0 < c → s % 1024 ≠ 0 → base = nI (1024 * vbl V i (s / 1024)))
    (hv : ∀ k d, k < c → fXX8_valueAt_16 nb (nI k) (XD σ d) = some (nI (w k), XD σ d)) :
    ∃ d', DX nb (setR V 15 (pd (vdat V) (vbl V i) s w c)) d' ∧ lfix (fun k72 t => fXX4_append_6_16_72 nb k72 t.1 t.2.1 t.2.2.1 t.2.2.2.1 t.2.2.2.2.1 t.2.2.2.2.2) FU (nI i, nI c, nI s, base, nI 0, XD σ d) = some (nI (s + c), XD σ d') := by
  have hg := G_lt A.1
  have hmn := mn_lt A.1 A.2.2 hl
  have key : ∃ d', DX nb (setR V 15 (pd (vdat V) (vbl V i) s w c)) d' ∧ ∀ u : Unit, lfix ((fun (_ : Unit) k72 t => fXX4_append_6_16_72 nb k72 t.1 t.2.1 t.2.2.1 t.2.2.2.1 t.2.2.2.2.1 t.2.2.2.2.2) u) FU (nI i, nI c, nI s, base, nI 0, XD σ d) = some (nI (s + c), XD σ d') := by
    refine lmea (κ := Unit) (fun (_ : Unit) k72 t => fXX4_append_6_16_72 nb k72 t.1 t.2.1 t.2.2.1 t.2.2.2.1 t.2.2.2.2.1 t.2.2.2.2.2) (fun q : Nat × Int32 × (Nat → Nat) => (nI i, nI c, nI s, q.2.1, nI q.1, XD σ q.2.2)) (fun _ (d' : Nat → Nat) => some (nI (s + c), XD σ d'))
      (fun q => q.1 ≤ c ∧ DX nb (setR V 15 (pd (vdat V) (vbl V i) s w q.1)) q.2.2 ∧ (q.1 < c → (s + q.1) % 1024 ≠ 0 → q.2.1 = nI (1024 * vbl V i ((s + q.1) / 1024)))) _ (fun q => c - q.1) ?_ FU (0, base, d) ⟨Nat.zero_le _, ?_, fun x y => hb x y⟩ (by show c - 0 < FU; unfold FU; omega)
    · rintro ⟨k, bs, dk⟩ ⟨c1, D1, c2⟩
      have c1 : k ≤ c := c1
      have D1 : DX nb (setR V 15 (pd (vdat V) (vbl V i) s w k)) dk := D1
      have c2 : k < c → (s + k) % 1024 ≠ 0 → bs = nI (1024 * vbl V i ((s + k) / 1024)) := c2
      by_cases e : k = c
      · right
        refine ⟨dk, by rw [← e]; exact D1, fun _ kk => ?_⟩
        simp (disch := omega) only [fXX4_append_6_16_72, nI_ltI', nI_leI', nI_eqI, nI_clampI, if_pos, nI_add]
      · left
        have hk : (s + k) / 1024 < vmn V i := by rw [hm]; unfold prt; omega
        obtain ⟨p0, p1, p2, p3, p4⟩ := A.2.2.1 i _ hl hk
        have ho : (s + k) % 1024 < 1024 := Nat.mod_lt _ (by omega)
        have D2 := DX_wr1 (V := setR V 15 (pd (vdat V) (vbl V i) s w k)) D1 p1 ho p2 (w k)
        rw [setR_R] at D2
        have bo := blockOf_X (V := setR V 15 (pd (vdat V) (vbl V i) s w k)) A.1 S D1 A.2.2 h1 h2 hl P hk
        have bo : fXX4_blockOf_6 nb (nI i) (nI ((s + k) / 1024)) (XD σ dk) = some (nI (vbl V i ((s + k) / 1024)), XD σ dk) := bo
        refine ⟨(k + 1, nI (1024 * vbl V i ((s + k) / 1024)), wr1 dk (1024 * vbl V i ((s + k) / 1024) + (s + k) % 1024) (w k)), ⟨by show k + 1 ≤ c; omega, D2, fun x y => ?_⟩, by show c - (k + 1) < c - k; omega, fun _ kk => ?_⟩
        · show nI (1024 * vbl V i ((s + k) / 1024)) = nI (1024 * vbl V i ((s + (k + 1)) / 1024))
          have y : (s + (k + 1)) % 1024 ≠ 0 := y
          rw [show (s + (k + 1)) / 1024 = (s + k) / 1024 by omega]
        · have v1 := hv k dk (by omega)
          by_cases z : (s + k) % 1024 = 0
          · have z' : nI ((s + k) % 1024) = nI 0 := by rw [z]
            simp (disch := omega) only [fXX4_append_6_16_72, fXX4_append_6_16_114, lit, litN, nI_ltI', nI_leI', nI_eqI, nI_clampI, if_neg, if_pos, nI_add, nI_div, nI_mul, nI_sub_dm, n_sdm, n_sdm', nI_sub, bo, obs, m1024, v1, put_X]
          · have c3 := c2 (by omega) z
            subst c3
            simp (disch := omega) only [fXX4_append_6_16_72, fXX4_append_6_16_114, lit, litN, nI_ltI', nI_leI', nI_eqI, nI_clampI, if_neg, nI_add, nI_div, nI_mul, nI_sub_dm, n_sdm, n_sdm', nI_sub, obs, m1024, v1, put_X]
    · show DX nb (setR V 15 (vdat V)) d
      intro b o hb ho ht
      rw [D b o hb ho ht]
      have : setR V 15 (vdat V) = V := by
        unfold setR; show (V.1, va_up V.2.1 15 (V.2.1 15), V.2.2) = V
        have : va_up V.2.1 15 (V.2.1 15) = V.2.1 := by funext j; unfold va_up; split
                                                       · rename_i h; rw [h]
                                                       · rfl
        rw [this]
      rw [this]
  obtain ⟨d', k1, k2⟩ := key
  exact ⟨d', k1, k2 ()⟩
set_option maxRecDepth 4096 in
theorem append_16 {nb : Nat} {V : VV} (A : Stc nb V) {i c : Nat} (h1 : 1 ≤ i) (h2 : i ≤ vQ V * vG V) (hl : live V i) (P : Shp V i) (hz : prt (vsz V i) = vmn V i) (hs : vsz V i + c < 1000000) (hf : alln (prt (vsz V i + c)) ≤ nfb V + alln (vmn V i)) (w : Nat → Nat) {σ : XS} (S : Sc V σ) (d : Nat → Nat) (D : DX nb V d)
    (hv : ∀ k d, k < c → fXX8_valueAt_16 nb (nI k) (XD σ d) = some (nI (w k), XD σ d)) :
    ∃ d', DX nb (setR (setA (addN V i (prt (vsz V i + c) - vmn V i)) 4 i (vsz V i + c)) 15 (pd (vdat (addN V i (prt (vsz V i + c) - vmn V i))) (vbl (addN V i (prt (vsz V i + c) - vmn V i)) i) (vsz V i) w c)) d' ∧ fXX4_append_6_16 nb (nI i) (nI c) (XD σ d) = some (nI (vsz V i + c), XD σ d') := by
  have hg := G_lt A.1
  have hmn := mn_lt A.1 A.2.2 hl
  have sz := size_X A.1 S D h1 h2 hl (by omega)
  have b1 := blocksFor_X nb (XD σ d) (s := vsz V i + c) (by omega)
  have b2 := blocksFor_X nb (XD σ d) (s := vsz V i) (by omega)
  rw [hz] at b2
  have hle : vmn V i ≤ prt (vsz V i + c) := by rw [← hz]; unfold prt; omega
  have hpb : prt (vsz V i + c) < 3000 := by unfold prt; omega
  generalize hN : prt (vsz V i + c) = N at *
  have key : ∃ d', DX nb (setR (setA (addN V i (N - vmn V i)) 4 i (vsz V i + c)) 15 (pd (vdat (addN V i (N - vmn V i))) (vbl (addN V i (N - vmn V i)) i) (vsz V i) w c)) d' ∧ ∀ u : Unit, lfix ((fun (_ : Unit) k23 t => fXX4_append_6_16_23 nb k23 t.1 t.2.1 t.2.2.1 t.2.2.2.1 t.2.2.2.2.1 t.2.2.2.2.2) u) FU (nI i, nI c, nI (vsz V i), nI N, nI (vmn V i), XD σ d) = some (nI (vsz V i + c), XD σ d') := by
    refine lmea (κ := Unit) (fun (_ : Unit) k23 t => fXX4_append_6_16_23 nb k23 t.1 t.2.1 t.2.2.1 t.2.2.2.1 t.2.2.2.2.1 t.2.2.2.2.2) (fun q : Nat × (Nat → Nat) => (nI i, nI c, nI (vsz V i), nI N, nI (vmn V i + q.1), XD σ q.2)) (fun _ (d' : Nat → Nat) => some (nI (vsz V i + c), XD σ d'))
      (fun q => vmn V i + q.1 ≤ N ∧ DX nb (addN V i q.1) q.2) _ (fun q => N - (vmn V i + q.1)) ?_ FU (0, d) ⟨hle, D⟩ (by show N - (vmn V i + 0) < FU; unfold FU; omega)
    rintro ⟨n, dn⟩ ⟨c1, D1⟩
    have c1 : vmn V i + n ≤ N := c1
    have D1 : DX nb (addN V i n) dn := D1
    have hmo := alln_mono c1
    obtain ⟨A1, P1, m1, f1, E1⟩ := addN_S A h1 h2 hl P n (by omega)
    have eQ : vQ (addN V i n) = vQ V := congrFun E1.1 1
    have eG : vG (addN V i n) = vG V := congrFun E1.1 2
    have hl1 : live (addN V i n) i := by unfold live; rw [E1.2.1]; exact hl
    have h21 : i ≤ vQ (addN V i n) * vG (addN V i n) := by rw [eQ, eG]; exact h2
    have S1 : Sc (addN V i n) σ := Sc_of E1.1 S
    have hm1 := mn_lt A1.1 A1.2.2 hl1
    by_cases e : vmn V i + n = N
    · right
      have en : N - vmn V i = n := by omega
      obtain ⟨d2, D2, g2⟩ := setSize_X A1.1 S1 D1 h1 h21 hl1 (vsz V i + c)
      have hbase : ∃ v, fXX4_blockOf_6 nb (nI i) (nI (vsz V i / 1024)) (XD σ d2) = some (v, XD σ d2) ∧ (0 < c → v = nI (vbl (addN V i n) i (vsz V i / 1024))) := by
        rcases Nat.eq_zero_or_pos c with h0 | h0
        · obtain ⟨v, hv⟩ := blockOf_T A.1 S d2 h1 h2 (nI (vsz V i / 1024))
          exact ⟨v, hv, fun h => by omega⟩
        · exact ⟨_, blockOf_X (V := setA (addN V i n) 4 i (vsz V i + c)) A1.1 S1 D2 A1.2.2 h1 h21 hl1 P1 (n := vsz V i / 1024) (by show vsz V i / 1024 < vmn (addN V i n) i; rw [m1, e, ← hN]; unfold prt; omega), fun _ => rfl⟩
      obtain ⟨v, v1, v2⟩ := hbase
      obtain ⟨d3, D3, g3⟩ := app2_16 (V := setA (addN V i n) 4 i (vsz V i + c)) (Stc_sz A1) (s := vsz V i) (c := c) h1 h21 hl1 P1 (by show vmn (addN V i n) i = _; rw [m1, e, hN]) hs w S1 d2 D2 (v * nI 1024) (fun x y => by rw [v2 x, nI_mul, m1024]; rfl) hv
      refine ⟨d3, by rw [en]; exact D3, fun _ k => ?_⟩
      rw [← e]
      simp (disch := omega) only [fXX4_append_6_16_23, lit, litN, nI_ltI', nI_leI', nI_eqI, nI_clampI, if_pos, nI_add, nI_div, g2, obs, v1]
      exact g3
    · left
      have hc := cost_alln (n := vmn V i + n) (by omega)
      have hmo2 := alln_mono (show vmn V i + n + 1 ≤ N by omega)
      obtain ⟨A2, P2, m2, f2, E2, _, X2⟩ := addB_S A1 h1 h21 hl1 P1 (by rw [m1]; omega)
      obtain ⟨d2, D2, g2⟩ := X2 σ dn S1 D1
      rw [m1] at g2
      refine ⟨(n + 1, d2), ⟨by show vmn V i + (n + 1) ≤ N; omega, D2⟩, by show N - (vmn V i + (n + 1)) < N - (vmn V i + n); omega, fun _ k => ?_⟩
      simp (disch := omega) only [fXX4_append_6_16_23, lit, litN, nI_ltI', nI_leI', nI_eqI, nI_clampI, if_neg, nI_add, g2, obs, Nat.add_assoc]
  obtain ⟨d', k1, k2⟩ := key
  refine ⟨d', k1, ?_⟩
  have k3 := k2 ()
  simp only [fXX4_append_6_16, fXX4_append_6_16_0, sz, obs, nI_add, b1, b2]
  exact k3

set_option maxRecDepth 4096 in
theorem app2_19 {nb : Nat} {V : VV} (A : Stc nb V) {i s c : Nat} (h1 : 1 ≤ i) (h2 : i ≤ vQ V * vG V) (hl : live V i) (P : Shp V i) (hm : vmn V i = prt (s + c)) (hs : s + c < 1000000) (w : Nat → Nat) {σ : XS} (sd : Int32) (S : Sc V σ) (d : Nat → Nat) (D : DX nb V d) (base : Int32) (hb : 0 < c → s % 1024 ≠ 0 → base = nI (1024 * vbl V i (s / 1024)))
    (hv : ∀ k d, k < c → fXX11_valueAt_19 nb sd (nI k) (XD σ d) = some (nI (w k), XD σ d)) :
    ∃ d', DX nb (setR V 15 (pd (vdat V) (vbl V i) s w c)) d' ∧ lfix (fun k72 t => fXX4_append_6_19_72 nb sd k72 t.1 t.2.1 t.2.2.1 t.2.2.2.1 t.2.2.2.2.1 t.2.2.2.2.2) FU (nI i, nI c, nI s, base, nI 0, XD σ d) = some (nI (s + c), XD σ d') := by
  have hg := G_lt A.1
  have hmn := mn_lt A.1 A.2.2 hl
  have key : ∃ d', DX nb (setR V 15 (pd (vdat V) (vbl V i) s w c)) d' ∧ ∀ u : Unit, lfix ((fun (_ : Unit) k72 t => fXX4_append_6_19_72 nb sd k72 t.1 t.2.1 t.2.2.1 t.2.2.2.1 t.2.2.2.2.1 t.2.2.2.2.2) u) FU (nI i, nI c, nI s, base, nI 0, XD σ d) = some (nI (s + c), XD σ d') := by
    refine lmea (κ := Unit) (fun (_ : Unit) k72 t => fXX4_append_6_19_72 nb sd k72 t.1 t.2.1 t.2.2.1 t.2.2.2.1 t.2.2.2.2.1 t.2.2.2.2.2) (fun q : Nat × Int32 × (Nat → Nat) => (nI i, nI c, nI s, q.2.1, nI q.1, XD σ q.2.2)) (fun _ (d' : Nat → Nat) => some (nI (s + c), XD σ d'))
      (fun q => q.1 ≤ c ∧ DX nb (setR V 15 (pd (vdat V) (vbl V i) s w q.1)) q.2.2 ∧ (q.1 < c → (s + q.1) % 1024 ≠ 0 → q.2.1 = nI (1024 * vbl V i ((s + q.1) / 1024)))) _ (fun q => c - q.1) ?_ FU (0, base, d) ⟨Nat.zero_le _, ?_, fun x y => hb x y⟩ (by show c - 0 < FU; unfold FU; omega)
    · rintro ⟨k, bs, dk⟩ ⟨c1, D1, c2⟩
      have c1 : k ≤ c := c1
      have D1 : DX nb (setR V 15 (pd (vdat V) (vbl V i) s w k)) dk := D1
      have c2 : k < c → (s + k) % 1024 ≠ 0 → bs = nI (1024 * vbl V i ((s + k) / 1024)) := c2
      by_cases e : k = c
      · right
        refine ⟨dk, by rw [← e]; exact D1, fun _ kk => ?_⟩
        simp (disch := omega) only [fXX4_append_6_19_72, nI_ltI', nI_leI', nI_eqI, nI_clampI, if_pos, nI_add]
      · left
        have hk : (s + k) / 1024 < vmn V i := by rw [hm]; unfold prt; omega
        obtain ⟨p0, p1, p2, p3, p4⟩ := A.2.2.1 i _ hl hk
        have ho : (s + k) % 1024 < 1024 := Nat.mod_lt _ (by omega)
        have D2 := DX_wr1 (V := setR V 15 (pd (vdat V) (vbl V i) s w k)) D1 p1 ho p2 (w k)
        rw [setR_R] at D2
        have bo := blockOf_X (V := setR V 15 (pd (vdat V) (vbl V i) s w k)) A.1 S D1 A.2.2 h1 h2 hl P hk
        have bo : fXX4_blockOf_6 nb (nI i) (nI ((s + k) / 1024)) (XD σ dk) = some (nI (vbl V i ((s + k) / 1024)), XD σ dk) := bo
        refine ⟨(k + 1, nI (1024 * vbl V i ((s + k) / 1024)), wr1 dk (1024 * vbl V i ((s + k) / 1024) + (s + k) % 1024) (w k)), ⟨by show k + 1 ≤ c; omega, D2, fun x y => ?_⟩, by show c - (k + 1) < c - k; omega, fun _ kk => ?_⟩
        · show nI (1024 * vbl V i ((s + k) / 1024)) = nI (1024 * vbl V i ((s + (k + 1)) / 1024))
          have y : (s + (k + 1)) % 1024 ≠ 0 := y
          rw [show (s + (k + 1)) / 1024 = (s + k) / 1024 by omega]
        · have v1 := hv k dk (by omega)
          by_cases z : (s + k) % 1024 = 0
          · have z' : nI ((s + k) % 1024) = nI 0 := by rw [z]
            simp (disch := omega) only [fXX4_append_6_19_72, fXX4_append_6_19_114, lit, litN, nI_ltI', nI_leI', nI_eqI, nI_clampI, if_neg, if_pos, nI_add, nI_div, nI_mul, nI_sub_dm, n_sdm, n_sdm', nI_sub, bo, obs, m1024, v1, put_X]
          · have c3 := c2 (by omega) z
            subst c3
            simp (disch := omega) only [fXX4_append_6_19_72, fXX4_append_6_19_114, lit, litN, nI_ltI', nI_leI', nI_eqI, nI_clampI, if_neg, nI_add, nI_div, nI_mul, nI_sub_dm, n_sdm, n_sdm', nI_sub, obs, m1024, v1, put_X]
    · show DX nb (setR V 15 (vdat V)) d
      intro b o hb ho ht
      rw [D b o hb ho ht]
      have : setR V 15 (vdat V) = V := by
        unfold setR; show (V.1, va_up V.2.1 15 (V.2.1 15), V.2.2) = V
        have : va_up V.2.1 15 (V.2.1 15) = V.2.1 := by funext j; unfold va_up; split
                                                       · rename_i h; rw [h]
                                                       · rfl
        rw [this]
      rw [this]
  obtain ⟨d', k1, k2⟩ := key
  exact ⟨d', k1, k2 ()⟩
set_option maxRecDepth 4096 in
theorem append_19 {nb : Nat} {V : VV} (A : Stc nb V) {i c : Nat} (h1 : 1 ≤ i) (h2 : i ≤ vQ V * vG V) (hl : live V i) (P : Shp V i) (hz : prt (vsz V i) = vmn V i) (hs : vsz V i + c < 1000000) (hf : alln (prt (vsz V i + c)) ≤ nfb V + alln (vmn V i)) (w : Nat → Nat) {σ : XS} (sd : Int32) (S : Sc V σ) (d : Nat → Nat) (D : DX nb V d)
    (hv : ∀ k d, k < c → fXX11_valueAt_19 nb sd (nI k) (XD σ d) = some (nI (w k), XD σ d)) :
    ∃ d', DX nb (setR (setA (addN V i (prt (vsz V i + c) - vmn V i)) 4 i (vsz V i + c)) 15 (pd (vdat (addN V i (prt (vsz V i + c) - vmn V i))) (vbl (addN V i (prt (vsz V i + c) - vmn V i)) i) (vsz V i) w c)) d' ∧ fXX4_append_6_19 nb sd (nI i) (nI c) (XD σ d) = some (nI (vsz V i + c), XD σ d') := by
  have hg := G_lt A.1
  have hmn := mn_lt A.1 A.2.2 hl
  have sz := size_X A.1 S D h1 h2 hl (by omega)
  have b1 := blocksFor_X nb (XD σ d) (s := vsz V i + c) (by omega)
  have b2 := blocksFor_X nb (XD σ d) (s := vsz V i) (by omega)
  rw [hz] at b2
  have hle : vmn V i ≤ prt (vsz V i + c) := by rw [← hz]; unfold prt; omega
  have hpb : prt (vsz V i + c) < 3000 := by unfold prt; omega
  generalize hN : prt (vsz V i + c) = N at *
  have key : ∃ d', DX nb (setR (setA (addN V i (N - vmn V i)) 4 i (vsz V i + c)) 15 (pd (vdat (addN V i (N - vmn V i))) (vbl (addN V i (N - vmn V i)) i) (vsz V i) w c)) d' ∧ ∀ u : Unit, lfix ((fun (_ : Unit) k23 t => fXX4_append_6_19_23 nb sd k23 t.1 t.2.1 t.2.2.1 t.2.2.2.1 t.2.2.2.2.1 t.2.2.2.2.2) u) FU (nI i, nI c, nI (vsz V i), nI N, nI (vmn V i), XD σ d) = some (nI (vsz V i + c), XD σ d') := by
    refine lmea (κ := Unit) (fun (_ : Unit) k23 t => fXX4_append_6_19_23 nb sd k23 t.1 t.2.1 t.2.2.1 t.2.2.2.1 t.2.2.2.2.1 t.2.2.2.2.2) (fun q : Nat × (Nat → Nat) => (nI i, nI c, nI (vsz V i), nI N, nI (vmn V i + q.1), XD σ q.2)) (fun _ (d' : Nat → Nat) => some (nI (vsz V i + c), XD σ d'))
      (fun q => vmn V i + q.1 ≤ N ∧ DX nb (addN V i q.1) q.2) _ (fun q => N - (vmn V i + q.1)) ?_ FU (0, d) ⟨hle, D⟩ (by show N - (vmn V i + 0) < FU; unfold FU; omega)
    rintro ⟨n, dn⟩ ⟨c1, D1⟩
    have c1 : vmn V i + n ≤ N := c1
    have D1 : DX nb (addN V i n) dn := D1
    have hmo := alln_mono c1
    obtain ⟨A1, P1, m1, f1, E1⟩ := addN_S A h1 h2 hl P n (by omega)
    have eQ : vQ (addN V i n) = vQ V := congrFun E1.1 1
    have eG : vG (addN V i n) = vG V := congrFun E1.1 2
    have hl1 : live (addN V i n) i := by unfold live; rw [E1.2.1]; exact hl
    have h21 : i ≤ vQ (addN V i n) * vG (addN V i n) := by rw [eQ, eG]; exact h2
    have S1 : Sc (addN V i n) σ := Sc_of E1.1 S
    have hm1 := mn_lt A1.1 A1.2.2 hl1
    by_cases e : vmn V i + n = N
    · right
      have en : N - vmn V i = n := by omega
      obtain ⟨d2, D2, g2⟩ := setSize_X A1.1 S1 D1 h1 h21 hl1 (vsz V i + c)
      have hbase : ∃ v, fXX4_blockOf_6 nb (nI i) (nI (vsz V i / 1024)) (XD σ d2) = some (v, XD σ d2) ∧ (0 < c → v = nI (vbl (addN V i n) i (vsz V i / 1024))) := by
        rcases Nat.eq_zero_or_pos c with h0 | h0
        · obtain ⟨v, hv⟩ := blockOf_T A.1 S d2 h1 h2 (nI (vsz V i / 1024))
          exact ⟨v, hv, fun h => by omega⟩
        · exact ⟨_, blockOf_X (V := setA (addN V i n) 4 i (vsz V i + c)) A1.1 S1 D2 A1.2.2 h1 h21 hl1 P1 (n := vsz V i / 1024) (by show vsz V i / 1024 < vmn (addN V i n) i; rw [m1, e, ← hN]; unfold prt; omega), fun _ => rfl⟩
      obtain ⟨v, v1, v2⟩ := hbase
      obtain ⟨d3, D3, g3⟩ := app2_19 (V := setA (addN V i n) 4 i (vsz V i + c)) (Stc_sz A1) (s := vsz V i) (c := c) h1 h21 hl1 P1 (by show vmn (addN V i n) i = _; rw [m1, e, hN]) hs w sd S1 d2 D2 (v * nI 1024) (fun x y => by rw [v2 x, nI_mul, m1024]; rfl) hv
      refine ⟨d3, by rw [en]; exact D3, fun _ k => ?_⟩
      rw [← e]
      simp (disch := omega) only [fXX4_append_6_19_23, lit, litN, nI_ltI', nI_leI', nI_eqI, nI_clampI, if_pos, nI_add, nI_div, g2, obs, v1]
      exact g3
    · left
      have hc := cost_alln (n := vmn V i + n) (by omega)
      have hmo2 := alln_mono (show vmn V i + n + 1 ≤ N by omega)
      obtain ⟨A2, P2, m2, f2, E2, _, X2⟩ := addB_S A1 h1 h21 hl1 P1 (by rw [m1]; omega)
      obtain ⟨d2, D2, g2⟩ := X2 σ dn S1 D1
      rw [m1] at g2
      refine ⟨(n + 1, d2), ⟨by show vmn V i + (n + 1) ≤ N; omega, D2⟩, by show N - (vmn V i + (n + 1)) < N - (vmn V i + n); omega, fun _ k => ?_⟩
      simp (disch := omega) only [fXX4_append_6_19_23, lit, litN, nI_ltI', nI_leI', nI_eqI, nI_clampI, if_neg, nI_add, g2, obs, Nat.add_assoc]
  obtain ⟨d', k1, k2⟩ := key
  refine ⟨d', k1, ?_⟩
  have k3 := k2 ()
  simp only [fXX4_append_6_19, fXX4_append_6_19_0, sz, obs, nI_add, b1, b2]
  exact k3
