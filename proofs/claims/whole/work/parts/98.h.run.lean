/-! going deep: the component's run -/
theorem LI.nn {G : gG} {J : sS → Prop} {pa : List Nat} {ne : Nat} {τ : sS} (h : LI G J pa ne τ) : J τ ∧ ne ≤ GN G ∧ pa.length ≤ GN G ∧ vI τ 19 6 = nI pa.length := by
  obtain ⟨od, lo, cu, gd, lp, hs, hJ, hR, hT, h23, hsu, hcu⟩ := h
  exact ⟨hJ, hR.2.2.2.2.2.2.2.2.2.2, nodup_len (pw_nd hT.1.2.2.2.2.1) (fun x hx => hR.2.2.2.2.2.2.2.1 x (hT.1.2.2.2.2.2.1 x hx)), hR.2.2.2.1.2⟩
theorem y_st {G : gG} {J : sS → Prop} {fF fN fE fM : sS → List Int32 → Int32} (hG : gOk G) (hst : ∀ σ τ, lg σ τ → J σ → J τ) (hS : ∀ σ, J σ → gSt G fF fN fE fM σ) : ∀ (k : Nat) (pa : List Nat) (ne : Nat) (τ : sS), LI G J pa ne τ → 2 * (GN G - ne) + pa.length ≤ k → ∃ ne', LI G J [] ne' (l_st fN fE fM (GL G) k τ) ∧ lmo G τ (l_st fN fE fM (GL G) k τ) := by
  intro k
  induction k with
  | zero =>
    intro pa ne τ h hk
    cases pa with
    | nil => exact ⟨ne, h, lmo.rf⟩
    | cons v pr => rw [List.length_cons] at hk; omega
  | succ k ih =>
    intro pa ne τ h hk
    obtain ⟨-, n1, n2, n3⟩ := h.nn
    have g1 := hG.1
    rw [l_st, n3]
    cases pa with
    | nil =>
      rw [if_pos (show nI ([] : List Nat).length ≤ 0 by decide)]
      exact ⟨ne, h, lmo.rf⟩
    | cons v pr =>
      rw [List.length_cons] at hk n2 ⊢
      rw [if_neg (show ¬ nI (pr.length + 1) ≤ 0 from nI_ge (a := 0) (by omega) (by omega)), (h.hok hG.2.1).2.2.1]
      obtain ⟨q1, q2⟩ := y_gon (fM := fM) hG hst hS h
      rcases q1 with ⟨t, q1⟩ | q1
      · have := q1.nn.2.1
        obtain ⟨ne', r1, r2⟩ := ih _ _ _ q1 (by rw [List.length_cons, List.length_cons]; omega)
        exact ⟨ne', r1, q2.tr r2⟩
      · obtain ⟨ne', r1, r2⟩ := ih _ _ _ q1 (by omega)
        exact ⟨ne', r1, q2.tr r2⟩
theorem LI.en {G : gG} {J : sS → Prop} (hst : ∀ σ τ, lg σ τ → J σ → J τ) {ne r : Nat} {τ : sS} (h : LI G J [] ne τ) (hr : r < GN G) (h0 : vI τ 20 r = 0) : LI G J [r] (ne + 1) (l_en τ (nI r)) ∧ lmo G τ (l_en τ (nI r)) ∧ vI (l_en τ (nI r)) 20 r ≠ 0 := by
  obtain ⟨od, lo, cu, gd, lp, hs, hJ, hR, hT, h23, hsu, hcu⟩ := h
  have hs0 : hs = [] := by
    cases hs with
    | nil => rfl
    | cons w l =>
      obtain ⟨p, p1, -⟩ := hT.2.2.2.2.1 w List.mem_cons_self
      exact nomatch p1
  rw [hs0] at hR hT
  have c := (hR.ne0 hT.1.2.2.1 hr).mp h0
  have t0 := hT.1.2.2.2.2.2.2.2 r c
  obtain ⟨r1, r2⟩ := y_en (cu' := cu) hR List.nodup_nil (Nat.le_refl _) hr c hT.1.1 (ne_lt hr c hsu) t0.2 t0.1 (fun _ _ _ => rfl)
  have T' := hT.root c
  have key : ∀ w, w < GN G → vI (l_en τ (nI r)) 20 w = 0 → vI τ 20 w = 0 ∧ w ≠ r := by
    intro w hw z
    have z' := (r1.ne0 T'.1.2.2.1 hw).mp z
    have e : w ≠ r := fun e => by rw [e, pu_s] at z'; omega
    rw [pu_n e] at z'
    exact ⟨(hR.ne0 hT.1.2.2.1 hw).mpr z', e⟩
  refine ⟨⟨_, _, _, _, _, _, hst _ _ r2.rel hJ, r1, T', fun w hw q => ?_, od_sur hr c hsu, fun u hu => ?_⟩, fun w hw q z => q (key w hw z).1, fun z => (key r hr z).2 rfl⟩
  · rw [r2.1 23 w (by decide)]
    have e : w ≠ r := fun e => by rw [e, pu_s] at q; omega
    rw [pu_n e] at q
    exact h23 w hw q
  · rw [List.mem_singleton.mp hu, r2.1 23 r (by decide), h23 r hr c, t0.1]
    exact ⟨0, 0, by decide, Nat.zero_le _, rfl, rfl, Nat.zero_le _, fun _ => Nat.zero_le _⟩
theorem y_r1 {G : gG} {J : sS → Prop} {fF fN fE fM : sS → List Int32 → Int32} (hG : gOk G) (hst : ∀ σ τ, lg σ τ → J σ → J τ) (hS : ∀ σ, J σ → gSt G fF fN fE fM σ) {r ne : Nat} {τ : sS} (h : LI G J [] ne τ) (hr : r < GN G) : (∃ ne', LI G J [] ne' (l_r1 fF fN fE fM (GL G) (GN G) r τ)) ∧ lmo G τ (l_r1 fF fN fE fM (GL G) (GN G) r τ) ∧ (GF G r = true → vI (l_r1 fF fN fE fM (GL G) (GN G) r τ) 20 r ≠ 0) := by
  have hf := (hS τ h.nn.1 r hr).1
  have g1 := hG.1
  unfold l_r1
  by_cases c : fF τ [nI r] = 0
  · rw [if_pos c]
    exact ⟨⟨ne, h⟩, lmo.rf, fun q => by rw [hf.mp c] at q; exact nomatch q⟩
  · rw [if_neg c, rg_nI (by omega)]
    by_cases d : vI τ 20 r = 0
    · rw [if_pos d]
      obtain ⟨e1, e2, e3⟩ := h.en hst hr d
      have := e1.nn.2.1
      obtain ⟨ne', r1, r2⟩ := y_st hG hst hS (2 * GN G) [r] (ne + 1) _ e1 (by simp only [List.length_cons, List.length_nil]; omega)
      exact ⟨⟨ne', r1⟩, e2.tr r2, fun _ => r2 r hr e3⟩
    · rw [if_neg d]
      exact ⟨⟨ne, h⟩, lmo.rf, fun _ => d⟩
theorem y_ro {G : gG} {J : sS → Prop} {fF fN fE fM : sS → List Int32 → Int32} (hG : gOk G) (hst : ∀ σ τ, lg σ τ → J σ → J τ) (hS : ∀ σ, J σ → gSt G fF fN fE fM σ) : ∀ (k r ne : Nat) (τ : sS), LI G J [] ne τ → r + k = GN G → (∃ ne', LI G J [] ne' (l_ro fF fN fE fM (GL G) (GN G) k r τ)) ∧ lmo G τ (l_ro fF fN fE fM (GL G) (GN G) k r τ) ∧ ∀ w, r ≤ w → w < GN G → GF G w = true → vI (l_ro fF fN fE fM (GL G) (GN G) k r τ) 20 w ≠ 0 := by
  intro k
  induction k with
  | zero =>
    intro r ne τ h hr
    exact ⟨⟨ne, h⟩, lmo.rf, fun w h1 h2 => by omega⟩
  | succ k ih =>
    intro r ne τ h hr
    rw [l_ro]
    obtain ⟨⟨ne1, r1⟩, r2, r3⟩ := y_r1 (fF := fF) (fM := fM) hG hst hS h (show r < GN G by omega)
    obtain ⟨s1, s2, s3⟩ := ih (r + 1) ne1 _ r1 (by omega)
    refine ⟨s1, r2.tr s2, fun w h1 h2 h3 => ?_⟩
    by_cases e : w = r
    · rw [e] at h3 ⊢
      exact s2 r (by omega) (r3 h3)
    · exact s3 w (by omega) h2 h3
/-- what the run tells -/
def lRes (G : gG) (τ : sS) : Prop := ∀ f v, f < GN G → GF G f = true → rch (gsc G) f v → v < GN G ∧ (l_hs τ (nI v) 4 = 0 ↔ ¬ lpP (gsc G) v) ∧ (l_hs τ (nI v) 8 = 0 ↔ ¬ gdP (gsc G) (GM G) v)
theorem LI.res {G : gG} {J : sS → Prop} (hG : gOk G) {ne : Nat} {τ : sS} (h : LI G J [] ne τ) (hf : ∀ w, w < GN G → GF G w = true → vI τ 20 w ≠ 0) : lRes G τ := by
  obtain ⟨od, lo, cu, gd, lp, hs, hJ, hR, hT, h23, hsu, hcu⟩ := h
  have hs0 : hs = [] := by
    cases hs with
    | nil => rfl
    | cons w l =>
      obtain ⟨p, p1, -⟩ := hT.2.2.2.2.1 w List.mem_cons_self
      exact nomatch p1
  rw [hs0] at hR hT
  have g1 := hG.1
  intro f v fn ff ⟨k, hk⟩
  have F := hT.2.2.2.2.2.1
  have P := rchN_in (p := fun x => x < GN G ∧ od x ≠ 0) (fun x hx t ht => ⟨hG.sc hx.1 ht, ((F x hx.2 (fun q => nomatch q)).1 t ht).1⟩) ⟨fn, fun q => hf f fn ff ((hR.ne0 hT.1.2.2.1 fn).mpr q)⟩ hk
  obtain ⟨vn, v0⟩ := P
  obtain ⟨-, f2, f3⟩ := F v v0 (fun q => nomatch q)
  obtain ⟨b1, b2, b3⟩ := fr_bits (lp v) (gd v)
  unfold l_hs
  rw [rg_nI (by omega), hR.2.2.1 v vn, flv_out (hs := []) (fun q => nomatch q), b2, b3]
  refine ⟨vn, ?_, ?_⟩
  · rw [← f2]
    cases lp v
    · exact ⟨fun _ q => (nomatch q), fun _ => by decide⟩
    · exact ⟨fun q => absurd q (by decide), fun q => absurd rfl q⟩
  · rw [← f3]
    cases gd v
    · exact ⟨fun _ q => (nomatch q), fun _ => by decide⟩
    · exact ⟨fun q => absurd q (by decide), fun q => absurd rfl q⟩
theorem rx_cap {σ : sS} {r m : Nat} (hm : m ≤ 270000) : m ≤ vC (rx σ r m) r := by
  unfold rx
  by_cases c : vC σ r < m ∧ m ≤ 270000
  · rw [if_pos c]
    have : vC (uC σ r (rw_cap (vC σ r) m)) r = rw_cap (vC σ r) m := by
      show u1 σ.2.2.2.2.1 r _ r = _
      unfold u1
      exact if_pos rfl
    rw [this]
    exact (gw_up c.1 c.2).2.2.1
  · rw [if_neg c]
    omega
theorem rz_at {σ : sS} {r m : Nat} : (∀ j, j < m → vI (rz σ r m) r j = 0) ∧ (∀ b j, b ≠ r → vI (rz σ r m) b j = vI σ b j) ∧ (∀ b, vC (rz σ r m) b = vC (rx σ r m) b) ∧ (rz σ r m).2.1 = σ.2.1 ∧ (rz σ r m).2.2.1 = σ.2.2.1 ∧ (rz σ r m).2.2.2.2 = (rx σ r m).2.2.2.2 ∧ (∀ b, b ≠ r → vU (rz σ r m) b = vU σ b) := by
  obtain ⟨e1, e2, e3, e4⟩ := rx_2 (σ := σ) (r := r) (m := m)
  refine ⟨fun j hj => ?_, fun b j hb => ?_, fun b => rfl, e2, e3, rfl, fun b hb => ?_⟩
  · show (if r = r ∧ j < m then (0 : Int32) else (rx σ r m).1 r j) = 0
    exact if_pos ⟨rfl, hj⟩
  · show (if b = r ∧ j < m then (0 : Int32) else (rx σ r m).1 b j) = _
    rw [if_neg (fun q => hb q.1), e1]
    rfl
  · show vU (uU (uZ (rx σ r m) r m) r 0) b = _
    rw [vU_n hb]
    show (rx σ r m).2.2.2.1 b = _
    rw [e4]
    rfl
theorem rx_at {σ : sS} {r m : Nat} : (∀ b j, vI (rx σ r m) b j = vI σ b j) ∧ (∀ b, b ≠ r → vC (rx σ r m) b = vC σ b) ∧ vC σ r ≤ vC (rx σ r m) r ∧ (∀ b, vU (rx σ r m) b = vU σ b) := by
  obtain ⟨e1, e2, e3, e4⟩ := rx_2 (σ := σ) (r := r) (m := m)
  refine ⟨fun b j => ?_, fun b hb => rx_Cn hb, ?_, fun b => ?_⟩
  · show (rx σ r m).1 b j = _
    rw [e1]; rfl
  · by_cases c : vC σ r < m ∧ m ≤ 270000
    · have := rx_cap (σ := σ) (r := r) c.2; omega
    · unfold rx; rw [if_neg c]; exact Nat.le_refl _
  · show (rx σ r m).2.2.2.1 b = _
    rw [e4]; rfl
