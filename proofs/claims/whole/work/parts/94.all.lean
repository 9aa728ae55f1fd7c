/-! the whole tape (the reference) -/
theorem nx_le {b : Nat → Int32} {e q : Nat} (h : q ≤ e) : q ≤ nx b e q ∧ nx b e q ≤ e := by
  have h1 := tke_le (b := b) h
  have h2 := scn_le (P := kBl b) (e := e) (e - tke b e q) (tke b e q) (by omega)
  exact ⟨by show q ≤ scn (kBl b) e (tke b e q); omega, h2.2⟩
theorem pbd_r {α β : Type} {x : pE α} {f : α → pE β} {z : β} (h : pbd x f = .inr z) : ∃ a, x = .inr a ∧ f a = .inr z := by
  cases x with
  | inl k => exact nomatch h
  | inr a => exact ⟨a, rfl, h⟩
theorem sLine_le {b : Nat → Int32} {e q : Nat} {D : dD} {z : Nat × dD} (hq : q ≤ e) (h : sLine b e q D = .inr z) : q ≤ z.1 ∧ z.1 ≤ e := by
  have n1 := nx_le (b := b) hq
  have n2 := nx_le (b := b) n1.2
  have n3 := nx_le (b := b) n2.2
  have n4 := nx_le (b := b) n3.2
  have hMk : ∀ k, sMark b e q D k = .inr z → q ≤ z.1 ∧ z.1 ≤ e := by
    intro k h
    unfold sMark at h
    split at h
    · exact nomatch h
    · obtain ⟨v, -, h⟩ := pbd_r h
      by_cases ht : (if k = 0 then mF (dA D) else mB (dA D)).testBit v = true
      · rw [if_pos ht] at h
        exact nomatch h
      · rw [if_neg ht] at h
        injection h with h
        rw [← h]
        exact ⟨by show q ≤ nx b e (nx b e q); omega, n2.2⟩
  unfold sLine at h
  split at h
  · unfold sLet at h
    split at h
    · obtain ⟨v, -, h⟩ := pbd_r h
      injection h with h
      rw [← h]
      exact ⟨by show q ≤ nx b e (nx b e q); omega, n2.2⟩
    · exact nomatch h
  · split at h
    · unfold sAuto at h
      split at h
      · exact nomatch h
      · split at h
        · exact nomatch h
        · obtain ⟨q2, h2, h⟩ := pbd_r h
          unfold sName at h2
          split at h2
          · split at h2
            · exact nomatch h2
            · injection h2 with h2
              split at h
              · obtain ⟨v, -, h⟩ := pbd_r h
                injection h with h
                rw [← h, ← h2]
                exact ⟨by show q ≤ nx b e (nx b e (nx b e (nx b e q))); omega, n4.2⟩
              · exact nomatch h
          · exact nomatch h2
    · split at h
      · exact hMk 1 h
      · split at h
        · exact hMk 0 h
        · split at h
          · unfold sEdge at h
            split at h
            · exact nomatch h
            · obtain ⟨v, -, h⟩ := pbd_r h
              dsimp only at h
              split at h
              · obtain ⟨t, -, h⟩ := pbd_r h
                split at h
                · exact nomatch h
                · injection h with h
                  rw [← h]
                  exact ⟨by show q ≤ nx b e (nx b e (nx b e (nx b e q))); omega, n4.2⟩
              · exact nomatch h
          · exact nomatch h
def kxE (σ6 : sS) : Option sS := bd (L_X12_needsEnd σ6) (fun σ8 => if (vI σ8 90 7) = 0 then (if (vI σ8 90 22) = 0 then (bd (L_X12_flaw 5 σ8) (fun σ12 => some σ12)) else (some σ8)) else (some σ8))
def rQ (b : Nat → Int32) (e : Nat) (σ : sS) (x : pE dD) (o : Option sS) : Prop := match x with
  | .inl (k, w) => ∃ τ, o = some τ ∧ vI τ 90 7 = k ∧ 0 < k ∧ vI τ 90 8 = nI w ∧ fo σ τ
  | .inr D => ∃ τ, o = some τ ∧ vI τ 90 7 = 0 ∧ rD b e D τ ∧ dK D ≠ 0 ∧ fo σ τ
theorem rQ.fo {b : Nat → Int32} {e : Nat} {σ τ : sS} {x : pE dD} {o : Option sS} (h : rQ b e τ x o) (f : fo σ τ) : rQ b e σ x o := by
  cases x with
  | inl k =>
    obtain ⟨τ, t1, t2, t3, t4, t5⟩ := h
    exact ⟨τ, t1, t2, t3, t4, f.tr t5⟩
  | inr z =>
    obtain ⟨τ, t1, t2, t3, t4, t5⟩ := h
    exact ⟨τ, t1, t2, t3, t4, f.tr t5⟩
theorem x_isSign {b : Nat → Int32} {e q : Nat} {τ : sS} {x : Int32} (h : tkT b e q τ) (h7 : vI τ 90 7 = 0) : L_X12_isSign x τ = if tkk b e q = 4 ∧ b q = x then 1 else 0 := by
  unfold L_X12_isSign
  rw [if_pos h7, h.2.2.2.1]
  by_cases k : tkk b e q = 4
  · rw [if_pos k, h.2.2.2.2.2.2 k]
    by_cases kb : b q = x
    · rw [if_pos kb, if_pos ⟨k, kb⟩]
    · rw [if_neg kb, if_neg (fun c => kb c.2)]
  · rw [if_neg k, if_neg (fun c => k c.1)]
theorem x_38N {F f : Nat} {σ : sS} (h : 0 < vI σ 90 7) (hf : 0 < f) : L_X12_readAll_38 F kxE f σ = some σ := by
  obtain ⟨f, rfl⟩ : ∃ g, f = g + 1 := ⟨f - 1, by omega⟩
  have hs : L_X12_isSign 59 σ = 0 := by
    unfold L_X12_isSign
    rw [if_neg (n0_pos h)]
  rw [L_X12_readAll_38, hs, if_pos rfl]
  unfold kxE L_X12_needsEnd
  rw [if_neg (n0_pos h), bd_s, if_neg (n0_pos h)]
theorem tke_4 {b : Nat → Int32} {e q : Nat} (hq : q ≤ e) (h : tkk b e q = 4) : q < e ∧ q + 1 ≤ tke b e q := by
  have hc := tk_cases (b := b) hq
  have hqe : q < e := by
    rcases hc with ⟨-, c, -⟩ | ⟨c, -⟩ | ⟨c, -⟩ | ⟨c, -⟩ | ⟨c, -⟩
    · rw [c] at h; exact absurd h (by decide)
    · exact c
    · exact c
    · exact c
    · exact c
  refine ⟨hqe, ?_⟩
  unfold tke
  rw [if_neg (by omega)]
  by_cases h2 : kSm b q = true
  · rw [if_pos h2, scn_go hqe h2]; exact (scn_le (e - (q + 1)) (q + 1) (by omega)).1
  · rw [if_neg h2]
    by_cases h3 : kDg b q = true
    · rw [if_pos h3, scn_go hqe h3]; exact (scn_le (e - (q + 1)) (q + 1) (by omega)).1
    · rw [if_neg h3]; omega
theorem xl_all {b : Nat → Int32} {e F : Nat} (hF : 400 < F) : ∀ (n q f : Nat) (D : dD) (σ : sS), tkT b e q σ → vI σ 90 7 = 0 → rD b e D σ → e < q + n → n ≤ f → rQ b e σ (sAll b e n q D) (bd (L_X12_readLine F σ) (fun σ5 => L_X12_readAll_38 F kxE f σ5)) := by
  intro n
  induction n with
  | zero => intro q f D σ h _ _ hn; have := h.2.1; omega
  | succ n ih =>
    intro q f D σ h h7 hD hn hf
    have hl := xl_line h h7 hD hF
    rw [sAll]
    cases hs : sLine b e q D with
    | inl k =>
      obtain ⟨k, w⟩ := k
      rw [hs] at hl
      obtain ⟨τ, t1, t2, t3, t4, t5⟩ := hl
      rw [t1, bd_s, x_38N (by rw [t2]; exact t3) (by omega)]
      exact ⟨τ, rfl, t2, t3, t4, t5⟩
    | inr z =>
      have hle := sLine_le h.2.1 hs
      obtain ⟨q', D'⟩ := z
      rw [hs] at hl
      obtain ⟨τ, t1, t2, t3, t4, t5⟩ := hl
      have hle : q ≤ q' ∧ q' ≤ e := hle
      rw [t1, bd_s]
      obtain ⟨f, rfl⟩ : ∃ g, f = g + 1 := ⟨f - 1, by omega⟩
      rw [L_X12_readAll_38, x_isSign t2 t3]
      show rQ b e σ (if tkk b e q' = 1 then (if dK D' = 0 then .inl (5, q') else .inr D') else if tkk b e q' = 4 ∧ b q' = 59 then sAll b e n (nx b e q') D' else .inl (1, q')) _
      by_cases k4 : tkk b e q' = 4 ∧ b q' = 59
      · have k1 : ¬ tkk b e q' = 1 := by rw [k4.1]; decide
        rw [if_neg k1, if_pos k4, if_pos k4, if_neg i1n0]
        obtain ⟨υ, u1, u2⟩ := x_goOn t2.1 t3 hF
        have f1 := f_L_X12_goOn u1
        have u7 : vI υ 90 7 = 0 := (f1.f (by decide) (fun h => nomatch h)).trans t3
        have uD := t4.fm f1 (by decide) (by decide)
        have h5 := tke_4 hle.2 k4.1
        have h6 := tke_le (b := b) hle.2
        have h8 := scn_le (P := kBl b) (e := e) (e - tke b e q') (tke b e q') (by omega)
        have h9 : nx b e q' = scn (kBl b) e (tke b e q') := rfl
        rw [u1, bd_s]
        exact (ih (nx b e q') f D' υ u2 u7 uD (by omega) (by omega)).fo (t5.tr (fo.fm f1))
      · rw [if_neg k4, if_neg k4, if_pos rfl]
        unfold kxE L_X12_needsEnd
        rw [if_pos t3, t2.2.2.2.1]
        by_cases k1 : tkk b e q' = 1
        · rw [if_pos k1, if_pos k1, bd_s, if_pos t3, t4.2.2.1]
          by_cases kz : dK D' = 0
          · rw [if_pos kz, if_pos (by rw [kz]; rfl), bd_id, x_flaw t3, t2.2.2.1]
            exact ⟨_, rfl, rfl, by decide, rfl, t5⟩
          · rw [if_neg kz, if_neg (nI_n0 kz (by have := t4.1.2.1; omega))]
            exact ⟨τ, rfl, t3, t4, kz, t5⟩
        · rw [if_neg k1, if_neg k1, bd_id, x_flaw t3, bd_s, t2.2.2.1, if_neg (show ¬ vI (uI (uI τ 90 7 1) 90 8 (nI q')) 90 7 = 0 from i1n0)]
          exact ⟨_, rfl, rfl, by decide, rfl, t5⟩
