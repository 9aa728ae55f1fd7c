/-! the component's run through a graph: its start, what it owes -/
theorem lrel.rxx {σ : sS} {r m : Nat} (h1 : 19 ≤ r) (h2 : r ≤ 25) : lrel σ (rx σ r m) := ⟨fun b hb => ⟨by rw [rx_I], rx_U, rx_Cn (by omega)⟩, rx_2.2.1, rx_2.2.2.1⟩
theorem lrel.rzz {σ : sS} {r m : Nat} (h1 : 19 ≤ r) (h2 : r ≤ 25) : lrel σ (rz σ r m) := ⟨fun b hb => ⟨funext fun j => rz_at.2.1 b j (by omega), rz_at.2.2.2.2.2.2 b (by omega), (rz_at.2.2.1 b).trans (rx_Cn (by omega))⟩, rz_at.2.2.2.1, rz_at.2.2.2.2.1⟩
theorem Rm.rz {B : Nat × Nat} {σ : sS} {r m : Nat} (h : Rm B σ) (hr : r ∈ grR) (hm : m ≤ 3000 ∨ lim r = 270000) : Rm B (rz σ r m) := (h.rx hr hm).c rfl
theorem l_iniP {σ : sS} {n : Nat} (hn : n ≤ 3000) : (∀ r, 20 ≤ r → r ≤ 25 → n ≤ vC (l_ini σ n) r) ∧ (∀ j, j < n → vI (l_ini σ n) 20 j = 0 ∧ vI (l_ini σ n) 22 j = 0 ∧ vI (l_ini σ n) 23 j = 0) ∧ lrel σ (l_ini σ n) ∧ ∀ B, Rm B σ → Rm B (l_ini σ n) := by
  have h27 : n ≤ 270000 := by omega
  refine ⟨fun r h1 h2 => ?_, fun j hj => ⟨?_, ?_, ?_⟩, ?_, fun B h => ?_⟩
  · show n ≤ vC (rx (rx (rz (rz (rx (rz σ 20 n) 21 n) 22 n) 23 n) 24 n) 25 n) r
    rcases (by omega : r = 20 ∨ r = 21 ∨ r = 22 ∨ r = 23 ∨ r = 24 ∨ r = 25) with e | e | e | e | e | e
    · rw [e, rx_Cn (by decide), rx_Cn (by decide), rz_at.2.2.1, rx_Cn (by decide), rz_at.2.2.1, rx_Cn (by decide), rx_Cn (by decide), rz_at.2.2.1]
      exact rx_cap h27
    · rw [e, rx_Cn (by decide), rx_Cn (by decide), rz_at.2.2.1, rx_Cn (by decide), rz_at.2.2.1, rx_Cn (by decide)]
      exact rx_cap h27
    · rw [e, rx_Cn (by decide), rx_Cn (by decide), rz_at.2.2.1, rx_Cn (by decide), rz_at.2.2.1]
      exact rx_cap h27
    · rw [e, rx_Cn (by decide), rx_Cn (by decide), rz_at.2.2.1]
      exact rx_cap h27
    · rw [e, rx_Cn (by decide)]
      exact rx_cap h27
    · rw [e]
      exact rx_cap h27
  · show vI (rx (rx (rz (rz (rx (rz σ 20 n) 21 n) 22 n) 23 n) 24 n) 25 n) 20 j = 0
    rw [rx_at.1, rx_at.1, rz_at.2.1 _ _ (by decide), rz_at.2.1 _ _ (by decide), rx_at.1]
    exact rz_at.1 j hj
  · show vI (rx (rx (rz (rz (rx (rz σ 20 n) 21 n) 22 n) 23 n) 24 n) 25 n) 22 j = 0
    rw [rx_at.1, rx_at.1, rz_at.2.1 _ _ (by decide)]
    exact rz_at.1 j hj
  · show vI (rx (rx (rz (rz (rx (rz σ 20 n) 21 n) 22 n) 23 n) 24 n) 25 n) 23 j = 0
    rw [rx_at.1, rx_at.1]
    exact rz_at.1 j hj
  · exact ((((((((lrel.rzz (by decide) (by decide)).tr (lrel.rxx (by decide) (by decide))).tr (lrel.rzz (by decide) (by decide))).tr (lrel.rzz (by decide) (by decide))).tr (lrel.rxx (by decide) (by decide))).tr (lrel.rxx (by decide) (by decide))).tr lrel.uI).tr lrel.uI).tr lrel.uI
  · have k : Rm B (rx (rx (rz (rz (rx (rz σ 20 n) 21 n) 22 n) 23 n) 24 n) 25 n) := (((((h.rz (by decide) (Or.inl hn)).rx (by decide) (Or.inl hn)).rz (by decide) (Or.inl hn)).rz (by decide) (Or.inl hn)).rx (by decide) (Or.inl hn)).rx (by decide) (Or.inl hn)
    exact k.c rfl
theorem LI.ini {G : gG} (hG : gOk G) {σ : sS} : LI G (lg (l_ini σ (GN G))) [] 0 (l_ini σ (GN G)) := by
  obtain ⟨h1, h2, -, -⟩ := l_iniP (σ := σ) hG.1
  refine ⟨fun _ => 0, fun _ => 0, fun _ => 0, fun _ => false, fun _ => false, [], lg.rf, ⟨fun v hv => (h2 v hv).1, fun v hv => (nomatch hv), fun v hv => ?_, ⟨trivial, rfl⟩, ⟨trivial, rfl⟩, rfl, h1, fun v hv => (nomatch hv), fun _ _ => rfl, hG.1, Nat.zero_le _⟩, ⟨⟨fun v hv => (nomatch hv), fun v w h => absurd rfl h, fun _ => Nat.le_refl _, List.Pairwise.nil, List.Pairwise.nil, fun p hp => (nomatch hp), fun t u q => (nomatch q.m.1), fun v _ => ⟨rfl, rfl⟩⟩, fun v hv => (nomatch hv), fun v hv => (nomatch hv), fun v hv => (nomatch hv), fun v hv => (nomatch hv), fun v hv => absurd rfl hv, fun v hv => (nomatch hv), fun v hv => (nomatch hv)⟩, fun v hv _ => (h2 v hv).2.2, fun k q1 q2 => by omega, fun u hu => (nomatch hu)⟩
  rw [flv_out (hs := []) (fun q => nomatch q)]
  exact (h2 v hv).2.1
theorem l_okP {G : gG} {J : sS → Prop} {fF fN fE fM : sS → List Int32 → Int32} {σ : sS} (hG : gOk G) (hJ : ∀ τ, lg (l_ini σ (GN G)) τ → J τ) (hS : ∀ τ, lg (l_ini σ (GN G)) τ → gSt G fF fN fE fM τ) : l_ok J (fun τ => ∃ ne, LI G (lg (l_ini σ (GN G))) [] ne τ) fF fN fE fM (GL G) (GN G) ∧ (∃ ne, LI G (lg (l_ini σ (GN G))) [] ne (l_ini σ (GN G))) := by
  have hst : ∀ σ1 τ, lg σ1 τ → lg (l_ini σ (GN G)) σ1 → lg (l_ini σ (GN G)) τ := fun σ1 τ h k => k.tr h
  have g1 := hG.1
  refine ⟨⟨fun τ ⟨ne, h⟩ => hJ τ h.nn.1, fun τ => ∃ pa ne, LI G (lg (l_ini σ (GN G))) pa ne τ, ?_, ?_⟩, 0, LI.ini hG⟩
  · rintro τ r ⟨ne, h⟩ hr - h0
    rw [rg_nI (by omega)] at h0
    obtain ⟨e1, e2, e3⟩ := h.en hst hr h0
    have := e1.nn.2.1
    obtain ⟨ne', r1, r2⟩ := y_st hG hst hS (2 * GN G) [r] (ne + 1) _ e1 (by simp only [List.length_cons, List.length_nil]; omega)
    exact ⟨⟨_, _, e1⟩, ne', r1⟩
  · rintro τ ⟨pa, ne, h⟩
    obtain ⟨k1, k2, k3, k4⟩ := h.nn
    refine ⟨hJ τ k1, fun hd => ?_⟩
    cases pa with
    | nil => rw [k4] at hd; exact absurd (by decide) hd
    | cons v pr =>
      obtain ⟨o1, o2, o3, o4⟩ := h.hok hG.2.1
      rw [o3]
      refine ⟨o2, o4, ?_⟩
      rcases (y_gon (fM := fM) hG hst hS h).1 with ⟨t, q⟩ | q
      · exact ⟨_, _, q⟩
      · exact ⟨_, _, q⟩
theorem y_run {G : gG} {fF fN fE fM : sS → List Int32 → Int32} {σ : sS} (hG : gOk G) (hS : ∀ τ, lg (l_ini σ (GN G)) τ → gSt G fF fN fE fM τ) : lRes G (l_run fF fN fE fM (GL G) (GN G) σ) ∧ lg (l_ini σ (GN G)) (l_run fF fN fE fM (GL G) (GN G) σ) := by
  have hst : ∀ σ1 τ, lg σ1 τ → lg (l_ini σ (GN G)) σ1 → lg (l_ini σ (GN G)) τ := fun σ1 τ h k => k.tr h
  obtain ⟨⟨ne, r1⟩, r2, r3⟩ := y_ro (fF := fF) (fM := fM) hG hst hS (GN G) 0 0 _ (LI.ini hG) (by omega)
  exact ⟨r1.res hG (fun w hw hf => r3 w (Nat.zero_le _) hw hf), r1.nn.1⟩
