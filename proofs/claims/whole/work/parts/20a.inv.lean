set_option maxRecDepth 4096 in
theorem XDe {σ : XS} {d : Nat → Nat} (h : σ.2.1 0 = fun a => sb (d a)) : XD σ d = σ := by
  refine XS_ext rfl (fun k x => ?_) rfl
  by_cases c : k = 0
  · subst c; rw [h]; rfl
  · rw [XD_o _ _ c]
set_option maxRecDepth 4096 in
theorem XD_XD (σ : XS) (d e : Nat → Nat) : XD (XD σ d) e = XD σ e := by
  refine XS_ext rfl (fun k x => ?_) rfl
  by_cases c : k = 0
  · subst c; rfl
  · rw [XD_o _ _ c, XD_o _ _ c, XD_o _ _ c]
def TapeR (σ τ : XS) : Prop := ∃ (w r : Nat → Nat) (t : Nat), t ≤ 4096 ∧ σ.1 8 = nI t ∧ τ.1 1 = nI t ∧ (∀ k, k < 4096 → σ.2.1 6 k = sb (w k)) ∧ (∀ k, k < 4096 → τ.2.1 2 k = sb (w k)) ∧ (∀ k, k < 20 → σ.2.1 7 k = sb (r k)) ∧ ∀ k, k < 20 → τ.2.1 3 k = sb (r k)
def SHW (nb : Nat) (V : VV) (τ : XS) : Prop := τ.1 3 = nI 0 ∨ (τ.1 3 = nI 1 ∧ ∀ b o, b < nb → o < 1024 → vot V b ≠ 0 → τ.2.1 1 (1024 * b + o) = sb (img nb V b o))
def VolR (nb : Nat) (V : VV) (σ τ : XS) (d f : Nat → Nat) (h : Nat) : Prop := Good nb V ∧ σ.2.1 0 = (fun a => sb (d a)) ∧ DX nb V d ∧ Sc V σ ∧ σ.1 0 = nI 1 ∧ σ.1 1 = nI h ∧ vkd V h = 2 ∧ τ.2.1 0 = (fun a => sb (f a)) ∧ RM nb V τ f ∧ τ.1 9 = nI h ∧ SHW nb V τ
def INV (nb : Nat) (σ τ : XS) : Prop := TapeR σ τ ∧ (∃ g : Nat → Nat, τ.2.1 1 = fun a => sb (g a)) ∧ ((σ.1 0 = nI 0 ∧ τ.1 2 = nI 0 ∧ σ.2.1 0 = (fun _ => sb 0) ∧ ∃ f : Nat → Nat, τ.2.1 0 = fun a => sb (f a)) ∨ ∃ V d f h, VolR nb V σ τ d f h)
set_option maxRecDepth 4096 in
theorem INV_0 (nb : Nat) : INV nb sX0 sM0 := by
  have z : (0 : Int32) = sb 0 := by decide +kernel
  refine ⟨⟨fun _ => 0, fun _ => 0, 0, by omega, rfl, rfl, fun _ _ => z, fun _ _ => z, fun _ _ => z, fun _ _ => z⟩, ⟨fun _ => 0, funext fun _ => z⟩, .inl ⟨rfl, rfl, funext fun _ => z, fun _ => 0, funext fun _ => z⟩⟩
def keepT (τ τ' : XS) : Prop := (∀ k, k ≠ 0 → k ≠ 10 → k ≠ 11 → k ≠ 12 → k ≠ 13 → τ'.1 k = τ.1 k) ∧ (∀ k, k ≠ 17 → τ'.2.1 k = τ.2.1 k) ∧ τ'.2.2 = τ.2.2
set_option maxRecDepth 4096 in
theorem keepT_rfl (τ : XS) : keepT τ τ := ⟨fun _ _ _ _ _ _ => rfl, fun _ _ => rfl, rfl⟩
set_option maxRecDepth 4096 in
theorem keepT_trans {a b c : XS} (h : keepT a b) (g : keepT b c) : keepT a c := ⟨fun k h1 h2 h3 h4 h5 => (g.1 k h1 h2 h3 h4 h5).trans (h.1 k h1 h2 h3 h4 h5), fun k hk => (g.2.1 k hk).trans (h.2.1 k hk), g.2.2.trans h.2.2⟩
set_option maxRecDepth 4096 in
theorem keepT_S (τ : XS) {m : Nat} (v : Int32) (h : m = 0 ∨ m = 10 ∨ m = 11 ∨ m = 12 ∨ m = 13) : keepT τ (stS τ m v) := ⟨fun k h1 h2 h3 h4 h5 => stS_k τ m v (by omega), fun _ _ => rfl, rfl⟩
set_option maxRecDepth 4096 in
theorem keepT_f (τ : XS) (a b c : Int32) : keepT τ (fnd τ a b c) := ⟨fun k h1 h2 h3 h4 h5 => fnd_k τ a b c h2 h3 h5, fun _ _ => rfl, rfl⟩
set_option maxRecDepth 4096 in
theorem VolR_ro {nb : Nat} {V : VV} {σ τ ρ τ' : XS} {d f : Nat → Nat} {h : Nat} (H : VolR nb V σ τ d f h) (hx : keepX σ ρ) (hm : keepT τ τ') : VolR nb V (XD ρ d) (XD τ' f) d f h := by
  obtain ⟨g, _, D, S, m1, h1, hk, _, R, h9, sh⟩ := H
  refine ⟨g, rfl, D, (Sc_keep hx S : Sc V ρ), (hx.1 0 (by omega)).trans m1, (hx.1 1 (by omega)).trans h1, hk, rfl, ?_, (hm.1 9 (by omega) (by omega) (by omega) (by omega) (by omega)).trans h9, ?_⟩
  · have R2 : RM nb V τ' f := RM_tau R (fun k hk => hm.1 k (by omega) (by omega) (by omega) (by omega) (by omega)) (fun k k1 k2 => hm.2.1 k (by omega)) hm.2.2
    exact RM_tau R2 (fun _ _ => rfl) (fun k k1 k2 => XD_o _ _ (by omega)) rfl
  · have e3 : (XD τ' f).1 3 = τ.1 3 := hm.1 3 (by omega) (by omega) (by omega) (by omega) (by omega)
    have e1 : (XD τ' f).2.1 1 = τ.2.1 1 := by rw [XD_o _ _ (by omega), hm.2.1 1 (by omega)]
    unfold SHW; rw [e3, e1]; exact sh
set_option maxRecDepth 4096 in
theorem TapeR_ro {σ τ ρ τ' : XS} {d f : Nat → Nat} (T : TapeR σ τ) (hx : keepX σ ρ) (hm : keepT τ τ') : TapeR (XD ρ d) (XD τ' f) := by
  obtain ⟨w, r, t, t1, t2, t3, t4, t5, t6, t7⟩ := T
  refine ⟨w, r, t, t1, (hx.1 8 (by omega)).trans t2, (hm.1 1 (by omega) (by omega) (by omega) (by omega) (by omega)).trans t3, fun k hk => ?_, fun k hk => ?_, fun k hk => ?_, fun k hk => ?_⟩
  · rw [XD_o _ _ (by omega), hx.2.1 6 (by omega)]; exact t4 k hk
  · rw [XD_o _ _ (by omega), hm.2.1 2 (by omega)]; exact t5 k hk
  · rw [XD_o _ _ (by omega), hx.2.1 7 (by omega)]; exact t6 k hk
  · rw [XD_o _ _ (by omega), hm.2.1 3 (by omega)]; exact t7 k hk
set_option maxRecDepth 4096 in
theorem INV_ro {nb : Nat} {V : VV} {σ τ ρ τ' : XS} {d f : Nat → Nat} {h : Nat} (I : INV nb σ τ) (H : VolR nb V σ τ d f h) (hx : keepX σ ρ) (hm : keepT τ τ') : INV nb (XD ρ d) (XD τ' f) := by
  obtain ⟨g, hg⟩ := I.2.1
  exact ⟨TapeR_ro I.1 hx hm, ⟨g, by rw [XD_o _ _ (by omega), hm.2.1 1 (by omega)]; exact hg⟩, .inr ⟨V, d, f, h, VolR_ro H hx hm⟩⟩
-- not made: the numbers of the reference change, nothing else
set_option maxRecDepth 4096 in
theorem INV_nm {nb : Nat} {σ τ τ' : XS} {f : Nat → Nat} (I : INV nb σ τ) (h0 : σ.1 0 = nI 0) (h2 : τ.1 2 = nI 0) (hd : σ.2.1 0 = fun _ => sb 0) (hf : τ.2.1 0 = fun a => sb (f a)) (hm : keepT τ τ') : INV nb σ τ' := by
  obtain ⟨g, hg⟩ := I.2.1
  obtain ⟨w, r, t, t1, t2, t3, t4, t5, t6, t7⟩ := I.1
  refine ⟨⟨w, r, t, t1, t2, (hm.1 1 (by omega) (by omega) (by omega) (by omega) (by omega)).trans t3, t4, fun k hk => by rw [hm.2.1 2 (by omega)]; exact t5 k hk, t6, fun k hk => by rw [hm.2.1 3 (by omega)]; exact t7 k hk⟩, ⟨g, by rw [hm.2.1 1 (by omega)]; exact hg⟩, .inl ⟨h0, (hm.1 2 (by omega) (by omega) (by omega) (by omega) (by omega)).trans h2, hd, f, by rw [hm.2.1 0 (by omega)]; exact hf⟩⟩
set_option maxRecDepth 4096 in
theorem nI10 : ¬ nI 1 = nI 0 := by decide +kernel
set_option maxRecDepth 4096 in
theorem none_M1 (nb : Nat) {τ : XS} (h : τ.1 2 = nI 1) : fMX12_none_0 nb τ = some (nI 0, stS τ 0 (nI 0)) := by
  have e0 : (stS τ 0 (nI 0)).1 0 = nI 0 := stS_e τ 0 (nI 0)
  simp only [fMX12_none_0_18, fMX12_none_0_0, fMX12_none_0, fMX12_fails_0_16, fMX12_fails_0_0, fMX12_fails_0, h, lit, litN, nI10, if_false, if_true, e0, obs]
set_option maxRecDepth 4096 in
theorem none_M0 (nb : Nat) {τ : XS} (h : τ.1 2 = nI 0) : fMX12_none_0 nb τ = some (nI 1, stS (stS τ 0 (nI 0)) 0 (nI 1)) := by
  have e0 : (stS τ 0 (nI 0)).1 0 = nI 0 := stS_e τ 0 (nI 0)
  have e1 : (stS (stS τ 0 (nI 0)) 0 (nI 1)).1 0 = nI 1 := stS_e _ 0 (nI 1)
  simp only [fMX12_none_0_18, fMX12_none_0_0, fMX12_none_0, fMX12_fails_0_16, fMX12_fails_0_0, fMX12_fails_0, h, lit, litN, nI10, if_false, if_true, e0, e1, obs]
set_option maxRecDepth 4096 in
theorem fails_0 (nb : Nat) {τ : XS} (h : τ.1 0 = nI 0) (c : Int32) : fMX12_fails_0 nb (nI 0) c τ = some (nI 0, τ) := by
  simp only [fMX12_fails_0_16, fMX12_fails_0_0, fMX12_fails_0, lit, litN, if_true, h]
set_option maxRecDepth 4096 in
theorem fails_1 (nb : Nat) {τ : XS} (h : τ.1 0 = nI 0) {c : Nat} (hc : c ≠ 0) (hc2 : c < 100) : fMX12_fails_0 nb (nI 1) (nI c) τ = some (nI 1, stS τ 0 (nI c)) := by
  have e1 : (stS τ 0 (nI c)).1 0 = nI c := stS_e _ 0 _
  simp (disch := omega) only [fMX12_fails_0_16, fMX12_fails_0_0, fMX12_fails_0, lit, litN, nI10, if_false, h, if_true, e1, nI_eqI, if_neg]
set_option maxRecDepth 4096 in
theorem stS_S (τ : XS) (m : Nat) (u v : Int32) : stS (stS τ m u) m v = stS τ m v := by
  unfold stS; congr 1; funext k; show upd (upd τ.1 m u) m v k = upd τ.1 m v k; unfold upd; split <;> rfl
set_option maxRecDepth 4096 in
theorem fnd_S0 (τ : XS) (a b c v : Int32) : stS (fnd τ a b c) 0 v = fnd (stS τ 0 v) a b c := by
  unfold stS fnd upd; congr 1; funext k
  by_cases h : k = 0
  · subst h; rfl
  · show (if k = 0 then v else if k = 10 then a else if k = 11 then b else if k = 13 then c else τ.1 k) = if k = 10 then a else if k = 11 then b else if k = 13 then c else if k = 0 then v else τ.1 k
    rw [if_neg h, if_neg h]
set_option maxRecDepth 4096 in
theorem no_M {nb : Nat} {V : VV} {σ τ : XS} {d f : Nat → Nat} {h : Nat} (H : VolR nb V σ τ d f h) {k : Nat} (hk : k < 4294967296) :
    (∃ a be, (itm (vdat V) (fl V h))[k]? = some a ∧ BeOK (fl V h) a be ∧ fMX12_no_0 nb (nI k) τ = some (nI 0, XD (fnd (stS τ 0 (nI 0)) (nI a) be (nI k)) f)) ∨ ((itm (vdat V) (fl V h))[k]? = none ∧ ∃ fo be se, fMX12_no_0 nb (nI k) τ = some (nI 1, XD (fnd (stS τ 0 (nI 2)) fo be se) f)) := by
  obtain ⟨G, _, D, S, m1, h1, hkd, hf, R, h9, sh⟩ := H
  have hl : live V h := .inr hkd
  have hin := G.ino hl
  have DI := G.2.2.2.2.2.2.2.2.2.2.2.2.2 h hkd
  have D2 := dir_DS2 G.1.1 G.1.2.2 hl DI
  have hle := itm_len (f := vdat V) D2.2.1
  have nn := none_M1 nb (RM1 G R)
  have R0 : RM nb V (stS τ 0 (nI 0)) f := RM_S (by omega) R
  have e0 : XD (stS τ 0 (nI 0)) f = stS τ 0 (nI 0) := by rw [← XD_S, XDe hf]
  have s9 : (stS τ 0 (nI 0)).1 9 = nI h := h9
  have z0 : (stS τ 0 (nI 0)).1 0 = nI 0 := stS_e τ 0 (nI 0)
  by_cases c : k < 2147483648
  · have hnn := nI_nn c
    rcases finds_M G.1 R0 hin.2.2 hl D2 hk with ⟨y, be, q1, q2, q3⟩ | ⟨q1, fo, be, q2⟩
    · left
      rw [e0] at q3
      refine ⟨y, be, q1, q2, ?_⟩
      have ff := fails_0 nb (τ := XD (fnd (stS τ 0 (nI 0)) (nI y) be (nI k)) f) (show (stS τ 0 (nI 0)).1 0 = nI 0 from z0) (nI 2)
      simp only [fMX12_no_0, fMX12_no_0_0, fMX12_no_0_29, nn, obs, lit, litN, if_true, hnn, if_false, s9, q3, nI10, ff]
    · right
      rw [e0] at q2
      refine ⟨q1, fo, be, nI (itm (vdat V) (fl V h)).length, ?_⟩
      have ff := fails_1 nb (τ := XD (fnd (stS τ 0 (nI 0)) fo be (nI (itm (vdat V) (fl V h)).length)) f) (show (stS τ 0 (nI 0)).1 0 = nI 0 from z0) (c := 2) (by omega) (by omega)
      rw [XD_S, fnd_S0, stS_S] at ff
      simp only [fMX12_no_0, fMX12_no_0_0, fMX12_no_0_24, fMX12_no_0_29, fMX12_no_0_36, nn, obs, lit, litN, if_true, hnn, if_false, s9, q2, nI10, ff]
  · right
    have hneg := nI_neg (by omega) hk
    refine ⟨List.getElem?_eq_none (by omega), τ.1 10, τ.1 11, τ.1 13, ?_⟩
    have ff := fails_1 nb z0 (c := 2) (by omega) (by omega)
    rw [stS_S] at ff
    have ee : XD (fnd (stS τ 0 (nI 2)) (τ.1 10) (τ.1 11) (τ.1 13)) f = stS τ 0 (nI 2) := by
      rw [show fnd (stS τ 0 (nI 2)) (τ.1 10) (τ.1 11) (τ.1 13) = stS τ 0 (nI 2) from fnd_e (stS τ 0 (nI 2)), ← XD_S, XDe hf]
    rw [ee]
    simp only [fMX12_no_0, fMX12_no_0_0, fMX12_no_0_24, fMX12_no_0_29, fMX12_no_0_36, nn, obs, lit, litN, if_true, hneg, if_false, nI10, ff]
set_option maxRecDepth 4096 in
theorem itemHere_X {nb : Nat} {V : VV} {σ τ : XS} {d f : Nat → Nat} {h : Nat} (H : VolR nb V σ τ d f h) {k : Nat} (hk : k < 4294967296) :
    (∃ q a ρ, keepX σ ρ ∧ RdL (fl V h) ρ ∧ 2 ≤ q ∧ (fl V h)[q]? = some a ∧ (itm (vdat V) (fl V h))[k]? = some a ∧ fXX0_itemHere_0 nb (nI k) σ = some (0, nI q, XD ρ d)) ∨ ((itm (vdat V) (fl V h))[k]? = none ∧ ∃ ρ, keepX σ ρ ∧ fXX0_itemHere_0 nb (nI k) σ = some (2, nI 0, XD ρ d)) := by
  obtain ⟨G, hd, D, S, m1, h1, hkd, hf, R, h9, sh⟩ := H
  have hg := G_lt G.1.1
  have hl : live V h := .inr hkd
  have hin := G.ino hl
  have DI := G.2.2.2.2.2.2.2.2.2.2.2.2.2 h hkd
  have D2 := dir_DS2 G.1.1 G.1.2.2 hl DI
  have hL := dir_LO G.1.2.2 hl DI
  obtain ⟨ρ, k1, k2, k3⟩ := read_X G.1 hin.1 hin.2.1 hl (G.2.2.2.1 h hl).1 DI.1 D2.2.1 σ d S D
  rw [XDe hd] at k3
  have r2 := k2.2.1
  rcases placeOf_X (by omega) D k2 hL (fl_2 D2) hk with ⟨q, a, q1, q2, q3, q4⟩ | ⟨q1, q2⟩
  · left
    refine ⟨q, a, ρ, k1, k2, q1, q2, q3, ?_⟩
    have hq := get_lt q2
    have hne : ¬ nI q = -nI 1 := by
      rw [show -nI 1 = nI 4294967295 by decide +kernel]; intro e; have := nI_inj (by omega) (by omega) e; omega
    simp only [fXX0_itemHere_0, fXX0_itemHere_0_0, fXX0_needVolume_0, fXX0_needVolume_0_0, m1, h1, lit, litN, nI10, if_false, obs, if_true, k3, q4, hne]
  · right
    refine ⟨q1, ρ, k1, ?_⟩
    simp only [fXX0_itemHere_0, fXX0_itemHere_0_0, fXX0_needVolume_0, fXX0_needVolume_0_0, m1, h1, lit, litN, nI10, if_false, obs, if_true, k3, q2]
set_option maxRecDepth 4096 in
theorem itemHere_X0 {nb : Nat} {σ : XS} (h0 : σ.1 0 = nI 0) (x : Int32) : fXX0_itemHere_0 nb x σ = some (1, nI 0, σ) := by
  simp only [fXX0_itemHere_0, fXX0_itemHere_0_0, fXX0_needVolume_0, fXX0_needVolume_0_0, h0, lit, litN, if_true, obs, show ¬ (1 : Nat) = 0 by omega, if_false]
set_option maxRecDepth 4096 in
theorem no_M0 {nb : Nat} {τ : XS} (h2 : τ.1 2 = nI 0) (x : Int32) : fMX12_no_0 nb x τ = some (nI 1, stS τ 0 (nI 1)) := by
  have nn := none_M0 nb h2
  rw [stS_S] at nn
  simp only [fMX12_no_0, fMX12_no_0_0, fMX12_no_0_36, nn, obs, lit, litN, nI10, if_false]
