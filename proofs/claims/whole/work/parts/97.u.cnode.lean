/-! node, rank, next, nodes (the component) -/
theorem y_im {c G n : Nat} {v : zS × (Nat → Nat)} {σ : sS} (h : cCv c G v σ) (hN : zN v.1 ≤ 300) (hn : n < zN v.1) (hx : ndO (zX v.1 n)) : p_im σ c (nI n) = if nfin (zX v.1 n) = true then 1 else 0 := by
  have kx := kyN_lt hx
  have h1 := hx.1
  have h3 := rv_lt (P := (zX v.1 n).2.2.1)
  unfold p_im nfin
  rw [rg_nI (by omega), h.2.1 n hn, ky_ow hx]
  by_cases g0 : (zX v.1 n).2.1 = 0
  · rw [if_pos g0]
    have ek : kyN (zX v.1 n) = (zX v.1 n).1 := if_pos g0
    by_cases t0 : (zX v.1 n).1 = 0
    · rw [if_pos (by rw [ek, t0]; rfl), decide_eq_true t0]
      rfl
    · rw [if_neg (fun q => t0 (by rw [ek] at q; exact (nI_k0 (by omega)).mp q)), if_pos ((ky_and hx).1.mpr g0), decide_eq_false t0]
      rfl
  · rw [if_neg g0, if_neg (fun q => by have := (nI_k0 (by omega)).mp q; unfold kyN at this; rw [if_neg g0] at this; omega), if_neg (fun q => g0 ((ky_and hx).1.mp q))]
    by_cases o0 : (zX v.1 n).2.2.2 = 0
    · rw [if_pos (by rw [o0]; rfl), decide_eq_true o0]
      rfl
    · rw [if_neg (fun q => o0 ((nI_k0 (by have := hx.2.1; omega)).mp q)), decide_eq_false o0]
      rfl
theorem y_cab {c G : Nat} {x : nd} {v : zS × (Nat → Nat)} {σ : sS} (h : cCv c G v σ) (hN : zN v.1 ≤ 300) (hO : ∀ n, n < zN v.1 → ndO (zX v.1 n)) (hx : ndO x) : ∀ (n m : Nat), m + n ≤ zN v.1 → p_cab σ c (nI (kyN x)) 300 n m (nI (cntF (nbel x) (zX v.1) m)) = nI (cntF (nbel x) (zX v.1) (m + n)) := by
  intro n
  induction n with
  | zero => intro m _; rfl
  | succ n ih =>
    intro m hm
    have hc := cntF_le (p := nbel x) (X := zX v.1) m
    rw [p_cab, if_neg (show ¬ (300 : Int32) ≤ nI (cntF (nbel x) (zX v.1) m) from nI_ge (b := 300) (by omega) (by omega)), rg_nI (by omega), h.2.1 m (by omega), y_bl hx (hO m (by omega))]
    have key := ih (m + 1) (by omega)
    rw [show m + 1 + n = m + (n + 1) by omega] at key
    rw [← key, cntF]
    by_cases b : nbel x (zX v.1 m) = true
    · rw [if_pos b, if_neg i1n0, if_pos b, nI_1]
    · rw [if_neg b, if_pos rfl, if_neg b]
      rfl
theorem cntF_mono {p : nd → Bool} {X : Nat → nd} {m : Nat} : ∀ n, cntF p X m ≤ cntF p X (m + n) := by
  intro n
  induction n with
  | zero => exact Nat.le_refl _
  | succ n ih =>
    show cntF p X m ≤ cntF p X (m + n) + _
    omega
theorem y_cab1 {c G : Nat} {x : nd} {v : zS × (Nat → Nat)} {σ : sS} (h : cCv c G v σ) (hN : zN v.1 ≤ 300) (hO : ∀ n, n < zN v.1 → ndO (zX v.1 n)) (hx : ndO x) : ∀ (n m : Nat), m + n ≤ zN v.1 → cntF (nbel x) (zX v.1) m = 0 → (p_cab σ c (nI (kyN x)) 1 n m 0 = 0 ↔ cntF (nbel x) (zX v.1) (m + n) = 0) := by
  intro n
  induction n with
  | zero => intro m _ h0; exact ⟨fun _ => h0, fun _ => rfl⟩
  | succ n ih =>
    intro m hm h0
    rw [p_cab, if_neg (by decide), rg_nI (by omega), h.2.1 m (by omega), y_bl hx (hO m (by omega))]
    by_cases b : nbel x (zX v.1 m) = true
    · rw [if_pos b, if_neg i1n0]
      have e1 : ∀ k j, p_cab σ c (nI (kyN x)) 1 k j (0 + 1) = 1 := by
        intro k j
        cases k with
        | zero => rfl
        | succ k => rw [p_cab, if_pos (by decide)]; rfl
      rw [e1]
      have c1 : cntF (nbel x) (zX v.1) (m + 1) = 1 := by rw [cntF, h0, if_pos b]
      have c2 := cntF_mono (p := nbel x) (X := zX v.1) (m := m + 1) n
      rw [show m + 1 + n = m + (n + 1) by omega] at c2
      exact ⟨fun q => absurd q i1n0, fun q => by omega⟩
    · rw [if_neg b, if_pos rfl]
      have c1 : cntF (nbel x) (zX v.1) (m + 1) = 0 := by rw [cntF, h0, if_neg b]
      have := ih (m + 1) (by omega) c1
      rw [show m + 1 + n = m + (n + 1) by omega] at this
      exact this
theorem y_sub {c G a b : Nat} {v : zS × (Nat → Nat)} {M : aM} {σ : sS} (h : cCv c G v σ) (hO : cO M G v) (hG : G ≤ 3) (hab : a ≤ b) (hb : b ≤ zN v.1 * G) : rg σ (c + 6) (nI b) - rg σ (c + 6) (nI a) = nI (v.2 b - v.2 a) := by
  have h9 : zN v.1 * G ≤ 300 * 3 := Nat.mul_le_mul hO.1.2.1 hG
  rw [rg_nI (by omega), rg_nI (by omega), h.2.2.2 b (by omega), h.2.2.2 a (by omega), nI_sb (hO.2.2.1.le hab hb)]
theorem y_told {c G n : Nat} {w : Int32} {v : zS × (Nat → Nat)} {M : aM} {σ : sS} (h : cCv c G v σ) (hO : cO M G v) (hG : G ≤ 3) (hn : n < zN v.1) (h2 : vI σ (c - 6) 2 = nI G) (hw : aOk 6 w = true) : L_X1_told c (nI n) w σ = some (nval G v n w) := by
  have hN := hO.1.2.1
  have hx := hO.1.2.2.2.1 n hn
  unfold L_X1_told clm
  rw [h.1, nI_clamp (by omega), decide_eq_true (nI_pos' (by omega)), decide_eq_true hN]
  show some (p_td σ c (nI n) w (zN v.1)) = _
  congr 1
  unfold p_td p_tk nval
  rw [rg_nI (by omega), h.2.1 n hn, (ky_and hx).2, h2]
  by_cases w0 : w = 0
  · rw [if_pos w0, if_pos w0]
  · rw [if_neg w0, if_neg w0]
    by_cases w1 : w = 1
    · rw [if_pos w1, if_pos w1]
      unfold ndT
      by_cases g0 : (zX v.1 n).2.1 = 0
      · rw [if_pos ((ky_and hx).1.mpr g0), if_pos g0]
      · rw [if_neg (fun q => g0 ((ky_and hx).1.mp q)), if_neg g0]
        exact ky_go hx g0
    · rw [if_neg w1, if_neg w1]
      by_cases w2 : w = 2
      · rw [if_pos w2, if_pos w2]
        exact ky_ow hx
      · rw [if_neg w2, if_neg w2]
        by_cases w3 : w = 3
        · rw [if_pos w3, if_pos w3, y_im h hN hn hx]
          by_cases b : nfin (zX v.1 n) = true
          · rw [if_pos b, if_neg i1n0]
          · rw [if_neg b, if_pos rfl]
        · rw [if_neg w3, if_neg w3]
          by_cases w4 : w = 4
          · rw [if_pos w4, if_pos w4, nI_1, nI_mul, nI_mul]
            have : (n + 1) * G ≤ zN v.1 * G := Nat.mul_le_mul_right _ (by omega)
            exact y_sub h hO hG (Nat.mul_le_mul_right _ (by omega)) this
          · rw [if_neg w4, if_neg w4]
            have := y_cab h hN hO.1.2.2.2.1 hx (zN v.1) 0 (by omega)
            rw [Nat.zero_add] at this
            exact this
theorem aOk_6 {w : Int32} {k : Nat} (hk : k < 2 ^ 31 - 1) : aOk (k + 1) w = true ↔ ¬ w < 0 ∧ w ≤ nI k := by
  constructor
  · intro h
    obtain ⟨j, hj, rfl⟩ := aOk_t h (by omega)
    exact ⟨nI_pos (by omega), nI_le (by omega) (by omega)⟩
  · rintro ⟨h1, h2⟩
    obtain ⟨j, hj, rfl⟩ := nI_of h1
    have := (nI_leI hj (by omega)).mp h2
    simp [aOk, nI_pos' hj]
    exact nI_lt (by omega) (by omega)
theorem y_node {B : cB} {A : aS} {σ : sS} (h : CI B A σ) (a n w : Int32) : yCI B (sp_node A a n w) (L_X11_node a n w σ) := by
  have h3 := h.1.c
  unfold L_X11_node sp_node
  rw [y_at h.1]
  by_cases ha : aOk (aC A) a = true
  · obtain ⟨i, hi, rfl⟩ := aOk_t ha (by omega)
    rw [if_pos ha, if_pos ha]
    simp only [bnd_s]
    rw [nI_clamp (by omega), isCo_n (by omega), grd_s]
    by_cases hn0 : n < 0
    · rw [if_pos hn0, if_pos hn0]
      exact yCI.r h 1 (by decide)
    · rw [if_neg hn0, if_neg hn0]
      have hw := aOk_6 (w := w) (k := 5) (by decide)
      by_cases w0 : w < 0
      · rw [if_pos w0, if_neg (fun q => (hw.mp q).1 w0)]
        exact yCI.r h 1 (by decide)
      · rw [if_neg w0]
        by_cases w5 : w ≤ 5
        · have hwo : aOk 6 w = true := hw.mpr ⟨w0, w5⟩
          rw [if_pos w5, if_pos hwo]
          obtain ⟨n, hn, rfl⟩ := nI_of hn0
          rw [nI_clamp hn]
          rcases y_std h hi with ⟨hq, τ, t1, t2, -⟩ | ⟨v, τ, hq, t1, t2, t3, t4, -⟩
          · rw [hq, t1, bd2_s, if_pos rfl]
            exact yCI.r t2 3 (by decide)
          · have hN := t4.1.2.1
            rw [hq, t1, bd2_s, if_neg i1n0, t3.1]
            show yCI B (if n < zN v.1 then _ else _) _
            by_cases hlt : n < zN v.1
            · have e6 : 33 + i - 6 = 27 + i := by omega
              rw [if_pos hlt, if_pos (nI_lt hlt (by omega)), y_told t3 t4 h3.2 hlt (by rw [e6]; exact (t2.1.m hi).2.2.1) hwo, bd_s]
              exact yCI.g t2 _
            · rw [if_neg hlt, if_neg (fun q => hlt ((nI_ltI hn (by omega)).mp q))]
              exact yCI.r t2 1 (by decide)
        · rw [if_neg w5, if_neg (fun q => w5 (hw.mp q).2)]
          exact yCI.r h 1 (by decide)
  · rw [if_neg ha, if_neg ha]
    exact yCI.r h 1 (by decide)
theorem y_rank {B : cB} {A : aS} {σ : sS} (h : CI B A σ) (a n s : Int32) : yCI B (sp_rank A a n s) (L_X11_rank a n s σ) := by
  have h3 := h.1.c
  unfold L_X11_rank sp_rank
  rw [y_at h.1]
  by_cases ha : aOk (aC A) a = true
  · obtain ⟨i, hi, rfl⟩ := aOk_t ha (by omega)
    have hm := (h.1.m hi).1
    have hm4 := hm.2.1
    have e6 : 33 + i - 6 = 27 + i := by omega
    rw [if_pos ha]
    simp only [bnd_s]
    rw [nI_clamp (by omega), isCo_n (by omega), grd_s, e6, y_hs h.1 hi]
    by_cases hs : aOk (mN (aMa A i)) s = true
    · rw [if_pos (show aOk (aC A) (nI i) = true ∧ aOk (mN (aMa A i)) s = true from ⟨ha, hs⟩), if_pos hs, if_neg i1n0]
      obtain ⟨s, hs4, rfl⟩ := aOk_t hs (by omega)
      rw [nI_clamp (show s < 2 ^ 31 by omega)]
      by_cases hn0 : n < 0
      · rw [if_pos hn0, if_pos hn0]
        exact yCI.r h 1 (by decide)
      · rw [if_neg hn0, if_neg hn0]
        obtain ⟨n, hn, rfl⟩ := nI_of hn0
        rw [nI_clamp hn]
        rcases y_std h hi with ⟨hq, τ, t1, t2, -⟩ | ⟨v, τ, hq, t1, t2, t3, t4, -⟩
        · rw [hq, t1, bd2_s, if_pos rfl]
          exact yCI.r t2 3 (by decide)
        · have hN := t4.1.2.1
          rw [hq, t1, bd2_s, if_neg i1n0, t3.1]
          show yCI B (if n < zN v.1 then _ else _) _
          by_cases hlt : n < zN v.1
          · have hx := t4.1.2.2.2.1 n hlt
            rw [if_pos hlt, if_pos (nI_lt hlt (by omega))]
            have er : p_ri τ (33 + i) (nI n) (nI s) = if (zX v.1 n).2.1 = 0 then -2 else if (zX v.1 n).1.testBit s = true then nI (dg (zX v.1 n).2.2.1 s) else -2 := by
              unfold p_ri
              rw [rg_nI (by omega), t3.2.1 n hlt, (ky_and hx).2, y_in hx.1 (by omega)]
              by_cases g0 : (zX v.1 n).2.1 = 0
              · rw [if_pos ((ky_and hx).1.mpr g0), if_pos g0]
              · rw [if_neg (fun q => g0 ((ky_and hx).1.mp q)), if_neg g0, ky_ro hx g0 (by omega)]
                by_cases b : (zX v.1 n).1.testBit s = true
                · rw [if_pos b, if_neg i1n0, if_pos b]
                · rw [if_neg b, if_pos rfl, if_neg b]
            rw [er]
            exact yCI.g t2 _
          · rw [if_neg hlt, if_neg (fun q => hlt ((nI_ltI hn (by omega)).mp q))]
            exact yCI.r t2 1 (by decide)
    · rw [if_neg (show ¬ (aOk (aC A) (nI i) = true ∧ aOk (mN (aMa A i)) s = true) from fun q => hs q.2), if_neg hs, if_pos rfl]
      split
      · exact yCI.r h 1 (by decide)
      · exact yCI.r h 1 (by decide)
  · rw [if_neg ha, if_neg (fun q => ha q.1)]
    exact yCI.r h 1 (by decide)
theorem y_next {B : cB} {A : aS} {σ : sS} (h : CI B A σ) (a n s k : Int32) : yCI B (sp_next A a n s k) (L_X11_next a n s k σ) := by
  have h3 := h.1.c
  unfold L_X11_next sp_next
  rw [y_at h.1]
  by_cases ha : aOk (aC A) a = true
  · obtain ⟨i, hi, rfl⟩ := aOk_t ha (by omega)
    have e6 : 33 + i - 6 = 27 + i := by omega
    rw [if_pos ha, if_pos ha]
    simp only [bnd_s]
    rw [nI_clamp (by omega), isCo_n (by omega), grd_s, e6, y_hg h.1 hi]
    by_cases hn0 : n < 0
    · rw [if_pos hn0, if_pos hn0]
      exact yCI.r h 1 (by decide)
    · rw [if_neg hn0, if_neg hn0]
      by_cases hs : aOk (aG A) s = true
      · rw [if_pos hs, if_pos hs, if_neg i1n0]
        obtain ⟨s, hs3, rfl⟩ := aOk_t hs (by omega)
        by_cases hk0 : k < 0
        · rw [if_pos hk0, if_pos hk0]
          exact yCI.r h 1 (by decide)
        · rw [if_neg hk0, if_neg hk0]
          obtain ⟨n, hn, rfl⟩ := nI_of hn0
          obtain ⟨k, hk, rfl⟩ := nI_of hk0
          rw [nI_clamp hn, nI_clamp hk, nI_clamp (show s < 2 ^ 31 by omega)]
          rcases y_std h hi with ⟨hq, τ, t1, t2, -⟩ | ⟨v, τ, hq, t1, t2, t3, t4, -⟩
          · rw [hq, t1, bd2_s, if_pos rfl]
            exact yCI.r t2 3 (by decide)
          · have hN := t4.1.2.1
            have hE := t4.2.1
            rw [hq, t1, bd2_s, if_neg i1n0, t3.1]
            show yCI B (if n < zN v.1 then _ else _) _
            by_cases hlt : n < zN v.1
            · have hb : n * aG A + aG A ≤ zN v.1 * aG A := by
                have : (n + 1) * aG A ≤ zN v.1 * aG A := Nat.mul_le_mul_right _ (by omega)
                rw [Nat.succ_mul] at this
                exact this
              have h9 : zN v.1 * aG A ≤ 300 * 3 := Nat.mul_le_mul hN h3.2
              have e2 : vI τ (33 + i - 6) 2 = nI (aG A) := by rw [e6]; exact (t2.1.m hi).2.2.1
              have m1 := t4.2.2.1.le (a := n * aG A + s) (b := n * aG A + s + 1) (by omega) (by omega)
              have m2 := t4.2.2.1.le (a := n * aG A + s + 1) (b := zN v.1 * aG A) (by omega) (by omega)
              rw [t4.2.2.2] at m2
              have ef : p_fn τ (33 + i) (nI n) (nI s) = nI (v.2 (n * aG A + s + 1) - v.2 (n * aG A + s)) := by
                unfold p_fn
                rw [e2, nI_mul, nI_add, nI_1]
                exact y_sub t3 t4 h3.2 (by omega) (by omega)
              rw [if_pos hlt, if_pos (nI_lt hlt (by omega)), ef]
              by_cases hc : k < v.2 (n * aG A + s + 1) - v.2 (n * aG A + s)
              · rw [if_neg (nI_ge hc (by omega)), if_pos hc]
                have eg : p_gl τ (33 + i) (nI n) (nI s) (nI k) = nI (zT v.1 (v.2 (n * aG A + s) + k)) := by
                  unfold p_gl
                  rw [e2, nI_mul, nI_add, rg_nI (by omega), t3.2.2.2 _ (by omega), nI_add, rg_nI (by omega)]
                  exact t3.2.2.1 _ (by omega)
                rw [eg]
                exact yCI.g t2 _
              · rw [if_pos (nI_le (by omega) hk), if_neg hc]
                exact yCI.g t2 _
            · rw [if_neg hlt, if_neg (fun q => hlt ((nI_ltI hn (by omega)).mp q))]
              exact yCI.r t2 1 (by decide)
      · rw [if_neg hs, if_neg hs, if_pos rfl]
        split
        · exact yCI.r h 1 (by decide)
        · exact yCI.r h 1 (by decide)
  · rw [if_neg ha, if_neg ha]
    exact yCI.r h 1 (by decide)
theorem y_h1 {c G n : Nat} {w : Int32} {v : zS × (Nat → Nat)} {M : aM} {σ : sS} (h : cCv c G v σ) (hO : cO M G v) (hn : n < zN v.1) (hw : aOk 3 w = true) : p_h1 σ c (zN v.1) w (nI n) = if nsel v w (zX v.1 n) = true then 1 else 0 := by
  have hN := hO.1.2.1
  have hx := hO.1.2.2.2.1 n hn
  have him := y_im h hN hn hx
  have hcab := y_cab1 h hN hO.1.2.2.2.1 hx (zN v.1) 0 (by omega) rfl
  rw [Nat.zero_add] at hcab
  obtain ⟨j, hj, rfl⟩ := aOk_t hw (by omega)
  unfold p_h1 p_hB p_hA nsel
  rw [him, rg_nI (by omega), h.2.1 n hn]
  have hj' : j = 0 ∨ j = 1 ∨ j = 2 := by omega
  rcases hj' with rfl | rfl | rfl
  · rw [if_pos (show nI 0 = 0 from rfl), if_neg (show ¬ nI 0 = 1 by decide), if_neg (show ¬ nI 0 = 2 by decide), if_pos (show nI 0 = 0 from rfl)]
    by_cases g0 : (zX v.1 n).2.1 = 0
    · rw [if_pos ((ky_and hx).1.mpr g0), if_pos (decide_eq_true g0)]
    · rw [if_neg (fun q => g0 ((ky_and hx).1.mp q)), if_neg (by rw [decide_eq_false g0]; decide)]
  · rw [if_neg (show ¬ nI 1 = 0 by decide), if_neg (show ¬ nI 1 = 0 by decide), if_pos (show nI 1 = 1 from rfl), if_pos (show nI 1 = 1 from rfl), if_pos (show nI 1 = 1 from rfl), if_neg (show ¬ nI 1 = 2 by decide), if_neg (show ¬ nI 1 = 2 by decide)]
    by_cases b : nfin (zX v.1 n) = true
    · rw [if_pos b, if_neg i1n0]
      split <;> rfl
    · rw [if_neg b, if_pos rfl]
      split <;> rfl
  · rw [if_neg (show ¬ nI 2 = 0 by decide), if_neg (show ¬ nI 2 = 0 by decide), if_neg (show ¬ nI 2 = 1 by decide), if_neg (show ¬ nI 2 = 1 by decide), if_neg (show ¬ nI 2 = 1 by decide), if_pos (show nI 2 = 2 from rfl), if_pos (show nI 2 = 2 from rfl), if_pos rfl, if_neg i1n0]
    by_cases g0 : (zX v.1 n).2.1 = 0
    · rw [if_pos ((ky_and hx).1.mpr g0), if_neg (by simp [g0])]
    · rw [if_neg (fun q => g0 ((ky_and hx).1.mp q))]
      by_cases b : cntF (nbel (zX v.1 n)) (zX v.1) (zN v.1) = 0
      · rw [if_pos (hcab.mpr b), if_pos (by simp [g0, b])]
      · rw [if_neg (fun q => b (hcab.mp q)), if_neg (by simp [b])]
theorem y_hm {c G : Nat} {w : Int32} {v : zS × (Nat → Nat)} {M : aM} {σ : sS} (h : cCv c G v σ) (hO : cO M G v) (hw : aOk 3 w = true) : ∀ n, n ≤ zN v.1 → p_hm σ c (zN v.1) w n = nI (cntF (nsel v w) (zX v.1) n) := by
  intro n
  induction n with
  | zero => intro _; rfl
  | succ n ih =>
    intro hn
    rw [p_hm, y_h1 h hO (by omega) hw, ih (by omega), cntF]
    by_cases b : nsel v w (zX v.1 n) = true
    · rw [if_pos b, if_neg i1n0, if_pos b, nI_1]
    · rw [if_neg b, if_pos rfl, if_neg b]
      rfl
theorem y_nodes {B : cB} {A : aS} {σ : sS} (h : CI B A σ) (a w : Int32) : yCI B (sp_nodes A a w) (L_X11_nodes a w σ) := by
  have h3 := h.1.c
  unfold L_X11_nodes sp_nodes
  rw [y_at h.1]
  by_cases ha : aOk (aC A) a = true
  · obtain ⟨i, hi, rfl⟩ := aOk_t ha (by omega)
    rw [if_pos ha, if_pos ha]
    simp only [bnd_s]
    rw [nI_clamp (by omega), isCo_n (by omega), grd_s]
    have hw := aOk_6 (w := w) (k := 2) (by decide)
    by_cases w0 : w < 0
    · rw [if_pos w0, if_neg (fun q => (hw.mp q).1 w0)]
      exact yCI.r h 1 (by decide)
    · rw [if_neg w0]
      by_cases w2 : w ≤ 2
      · have hwo : aOk 3 w = true := hw.mpr ⟨w0, w2⟩
        rw [if_pos w2, if_pos hwo]
        rcases y_std h hi with ⟨hq, τ, t1, t2, -⟩ | ⟨v, τ, hq, t1, t2, t3, t4, -⟩
        · rw [hq, t1, bd2_s, if_pos rfl]
          exact yCI.r t2 3 (by decide)
        · have hN := t4.1.2.1
          have eh : L_X1_howMany (33 + i) w τ = some (nI (cntF (nsel v w) (zX v.1) (zN v.1))) := by
            unfold L_X1_howMany clm
            rw [t3.1, nI_clamp (by omega), decide_eq_true (nI_pos' (by omega)), decide_eq_true hN, y_hm t3 t4 hwo _ (Nat.le_refl _)]
            rfl
          rw [hq, t1, bd2_s, if_neg i1n0, eh, bd_s]
          exact yCI.g t2 _
      · rw [if_neg w2, if_neg (fun q => w2 (hw.mp q).2)]
        exact yCI.r h 1 (by decide)
  · rw [if_neg ha, if_neg ha]
    exact yCI.r h 1 (by decide)
