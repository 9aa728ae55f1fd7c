/-! words that go round: what the tape says of them; the reference's reading -/
def sWd (b : Nat → Int32) (G q : Nat) : Nat → Nat → List Nat → pE (List Nat)
  | 0, _, u => .inr u
  | n + 1, j, u => if (b (q + j) - 97).toNatClampNeg < G then (if u.length = 10 then .inl (4, q) else sWd b G q n (j + 1) (u ++ [(b (q + j) - 97).toNatClampNeg])) else .inl (1, q)
def sWords (b : Nat → Int32) (e G : Nat) : Nat → Nat → List Nat → pE (Nat × List Nat)
  | 0, q, _ => .inl (1, q)
  | n + 1, q, u => if tkk b e q = 2 then pbd (sWd b G q (tke b e q - q) 0 u) (fun v => sWords b e G n (nx b e q) v) else .inr (q, u)
def sRound (b : Nat → Int32) (e G q : Nat) (u : List Nat) : pE (List Nat × List Nat) := if tkk b e q = 2 then pbd (sWords b e G 401 q []) (fun z => if tkk b e z.1 = 4 ∧ b z.1 = 41 then (if tkk b e (nx b e z.1) = 1 then .inr (u, z.2) else .inl (1, nx b e z.1)) else .inl (1, z.1)) else .inl (1, q)
def sLasso (b : Nat → Int32) (e G q : Nat) : pE (List Nat × List Nat) := pbd (sWords b e G 401 q []) (fun z => if tkk b e z.1 = 4 ∧ b z.1 = 40 then sRound b e G (nx b e z.1) z.2 else .inl (1, z.1))
/-- letters in a row of the reference -/
def rRw (r : Nat) (u : List Nat) (σ : sS) : Prop := u.length ≤ 10 ∧ ∀ j, j < u.length → vI σ r j = nI (u.getD j 0)
theorem inl_139 : ∀ n, n < 10 → inl 2 139 (nI n) = true ∧ inl 2 140 (nI n) = true := by decide +kernel
theorem rRw.ap {r c : Nat} {u : List Nat} {σ : sS} (h : rRw r u σ) (hl : u.length < 10) : rRw r (u ++ [c]) (uI σ r u.length (nI c)) := by
  obtain ⟨h1, h2⟩ := h
  refine ⟨by rw [List.length_append]; show u.length + 1 ≤ 10; omega, fun j hj => ?_⟩
  rw [List.length_append] at hj
  have hj : j < u.length + 1 := hj
  by_cases c : j = u.length
  · rw [c, vI_e]
    simp
  · rw [vI_q (fun q => c q.2), h2 j (by omega)]
    rw [List.getD_eq_getElem?_getD, List.getD_eq_getElem?_getD, List.getElem?_append_left (show j < u.length by omega)]
theorem tkT.r {b : Nat → Int32} {e q r k : Nat} {x : Int32} {σ : sS} (h : tkT b e q σ) (hr : r ≠ 90) (h3 : r ≠ 103) : tkT b e q (uI σ r k x) := by
  have n : ∀ {j : Nat}, vI (uI σ r k x) 90 j = vI σ 90 j := fun {j} => vI_q (fun q => hr q.1.symm)
  obtain ⟨⟨a1, a2, a3, a4⟩, b1, b2, b3, b4, b5, b6⟩ := h
  exact ⟨⟨fun j hj => (vI_q (fun q => h3 q.1.symm)).trans (a1 j hj), n.trans a2, n.trans a3, a4⟩, b1, n.trans b2, n.trans b3, b4, fun c => n.trans (b5 c), fun c => n.trans (b6 c)⟩
theorem fm_r1 {σ : sS} {r k : Nat} {x : Int32} : fm [r] [] σ (uI σ r k x) := fm.uI (Or.inl (List.mem_singleton.mpr rfl))
theorem x_lets {b : Nat → Int32} {e q G F r : Nat} (hr : r = 139 ∨ r = 140) (hG : G ≤ 3) (hk : tkk b e q = 2) (kx : Int32 → sS → Option (Int32 × sS)) : ∀ (n j f : Nat) (u : List Nat) (σ : sS), q + j + n = tke b e q → n < f → tkT b e q σ → vI σ 90 7 = 0 → vI σ 90 19 = nI G → rRw r u σ → match sWd b G q n j u with
    | .inl (k, w) => ∃ x τ, L_X12_readLetters__8 F r kx f (nI u.length) (nI (q + j)) σ = kx x τ ∧ vI τ 90 7 = k ∧ 0 < k ∧ vI τ 90 8 = nI w
    | .inr v => ∃ τ, L_X12_readLetters__8 F r kx f (nI u.length) (nI (q + j)) σ = kx (nI v.length) τ ∧ tkT b e q τ ∧ vI τ 90 7 = 0 ∧ rRw r v τ ∧ fm [r] [] σ τ := by
  intro n
  induction n with
  | zero =>
    intro j f u σ hj hf h h7 h19 hu
    obtain ⟨f, rfl⟩ : ∃ g, f = g + 1 := ⟨f - 1, by omega⟩
    have he := h.1.2.2.2
    refine ⟨σ, ?_, h, h7, hu, fm.rf⟩
    rw [L_X12_readLetters__8, h.1.2.2.1, if_pos (nI_le (by omega) (by omega))]
  | succ n ih =>
    intro j f u σ hj hf h h7 h19 hu
    obtain ⟨f, rfl⟩ : ∃ g, f = g + 1 := ⟨f - 1, by omega⟩
    obtain ⟨a1, a2, a3, a4, a5⟩ := h.1
    obtain ⟨-, -, -, k1, k2, k3⟩ := tkk_2 hk h.2.1
    obtain ⟨x, ex, x1, x2⟩ := kSm_n (k2 j (by omega))
    have e26 := (c26 x (by omega) x1).2
    have hul := hu.1
    have stop : ∀ (k : Int32), 0 < k → L_X12_readLetters__8 F r kx f (nI u.length) (nI (q + j) + 1) (uI (uI σ 90 7 k) 90 8 (nI q)) = kx (nI u.length) (uI (uI σ 90 7 k) 90 8 (nI q)) := by
      intro k hk
      obtain ⟨f, rfl⟩ : ∃ g, f = g + 1 := ⟨f - 1, by omega⟩
      rw [L_X12_readLetters__8, if_neg (show ¬ vI (uI (uI σ 90 7 k) 90 8 (nI q)) 90 7 = 0 from n0_pos hk)]
      split
      · rfl
      · rfl
    rw [L_X12_readLetters__8, a3, if_neg (nI_ge (by omega) (by omega)), if_pos h7, inb_n (by omega) (by omega), grd_s, nI_clamp (by omega), a1 _ (by omega), ex, e26, h19]
    simp only [bnd_s]
    rw [x_flaw h7, x_flaw h7, bd_s, bd_s, h.2.2.1, stop 4 (by decide), stop 1 (by decide)]
    rw [sWd, ex, e26, nI_clamp (by omega)]
    by_cases hc : x - 97 < G
    · rw [if_pos hc, if_pos (nI_lt hc (by omega))]
      by_cases hl : u.length = 10
      · rw [if_pos hl, if_pos (by rw [hl]; rfl)]
        exact ⟨_, _, rfl, rfl, by decide, rfl⟩
      · rw [if_neg hl, if_neg (show ¬ nI u.length = 10 from fun c => hl (nI_ij (y := 10) (by omega) (by omega) c))]
        have hin : inl 2 r (nI u.length) = true := by
          rcases hr with rfl | rfl
          · exact (inl_139 _ (by omega)).1
          · exact (inl_139 _ (by omega)).2
        rw [hin, grd_s, nI_clamp (by omega), nI_1, nI_1]
        have r90 : r ≠ 90 := by omega
        have r103 : r ≠ 103 := by omega
        have hi := ih (j + 1) f (u ++ [x - 97]) (uI σ r u.length (nI (x - 97))) (by omega) (by omega) (h.r r90 r103) ((vI_q (fun q => r90 q.1.symm)).trans h7) ((vI_q (fun q => r90 q.1.symm)).trans h19) (hu.ap (by omega))
        rw [List.length_append, show u.length + [x - 97].length = u.length + 1 from rfl, ← Nat.add_assoc q j 1] at hi
        cases hs : sWd b G q n (j + 1) (u ++ [x - 97]) with
        | inl k =>
          obtain ⟨k, w⟩ := k
          rw [hs] at hi
          exact hi
        | inr v =>
          rw [hs] at hi
          obtain ⟨τ, t1, t2, t3, t4, t5⟩ := hi
          exact ⟨τ, t1, t2, t3, t4, fm_r1.tr t5⟩
    · rw [if_neg hc, if_neg (fun c => hc ((nI_ltI (by omega) (by omega)).mp c))]
      exact ⟨_, _, rfl, rfl, by decide, rfl⟩
def kL : List Nat := [6, 9, 10, 11, 12, 13, 41, 42]
theorem x_wd {b : Nat → Int32} {e q G F r : Nat} {u : List Nat} {σ : sS} (hr : r = 139 ∨ r = 140) (hG : G ≤ 3) (hk : tkk b e q = 2) (hF : 400 < F) (h : tkT b e q σ) (h7 : vI σ 90 7 = 0) (h19 : vI σ 90 19 = nI G) (hu : rRw r u σ) : match sWd b G q (tke b e q - q) 0 u with
    | .inl (k, w) => ∃ x τ, L_X12_readLetters_ F r (nI u.length) σ = some (x, τ) ∧ vI τ 90 7 = k ∧ 0 < k ∧ vI τ 90 8 = nI w
    | .inr v => ∃ τ, L_X12_readLetters_ F r (nI u.length) σ = some (nI v.length, τ) ∧ tkT b e (nx b e q) τ ∧ vI τ 90 7 = 0 ∧ rRw r v τ ∧ fm [r] kG σ τ := by
  obtain ⟨-, -, -, k1, k2, k3⟩ := tkk_2 hk h.2.1
  have hl := x_lets (F := F) hr hG hk (fun yq2 σ3 => bd (L_X12_goOn F σ3) (fun σ5 => some (yq2, σ5))) (tke b e q - q) 0 F u σ (by omega) (by omega) h h7 h19 hu
  unfold L_X12_readLetters_
  rw [bnd_s, h.2.2.1]
  cases hs : sWd b G q (tke b e q - q) 0 u with
  | inl k =>
    obtain ⟨k, w⟩ := k
    rw [hs] at hl
    obtain ⟨x, τ, t1, t2, t3, t4⟩ := hl
    refine ⟨x, τ, t1.trans ?_, t2, t3, t4⟩
    rw [x_goN (by rw [t2]; exact t3), bd_s]
  | inr v =>
    rw [hs] at hl
    obtain ⟨τ, t1, t2, t3, t4, t5⟩ := hl
    obtain ⟨υ, u1, u2⟩ := x_goOn t2.1 t3 hF
    have f1 := f_L_X12_goOn u1
    have n : ∀ {x : Nat}, x ∉ ([] : List Nat) := fun h => nomatch h
    refine ⟨υ, t1.trans (by rw [u1, bd_s]), u2, (f1.f (by decide) n).trans t3, ⟨t4.1, fun j hj => (f1.r n (by omega)).trans (t4.2 j hj)⟩, (t5.mo (fun x hx => hx) (fun x hx => nomatch hx)).tr (f1.mo (fun x hx => nomatch hx) (fun x hx => hx))⟩
theorem x_w10 {b : Nat → Int32} {e G F : Nat} (hG : G ≤ 3) (hF : 400 < F) (kx : sS → Option sS) : ∀ (n q f : Nat) (u : List Nat) (σ : sS), tkT b e q σ → vI σ 90 7 = 0 → vI σ 90 19 = nI G → rRw 139 u σ → vI σ 90 41 = nI u.length → e < q + n → n < f → match sWords b e G n q u with
    | .inl (k, w) => ∃ τ, L_X12_readLasso_10 F kx f σ = kx τ ∧ vI τ 90 7 = k ∧ 0 < k ∧ vI τ 90 8 = nI w
    | .inr (p, v) => ∃ τ, L_X12_readLasso_10 F kx f σ = kx τ ∧ tkT b e p τ ∧ vI τ 90 7 = 0 ∧ rRw 139 v τ ∧ vI τ 90 41 = nI v.length ∧ fm [139] (41 :: kG) σ τ := by
  intro n
  induction n with
  | zero =>
    intro q f u σ h _ _ _ _ hn
    have := h.2.1
    omega
  | succ n ih =>
    intro q f u σ h h7 h19 hu h41 hn hf
    obtain ⟨f, rfl⟩ : ∃ g, f = g + 1 := ⟨f - 1, by omega⟩
    rw [sWords, L_X12_readLasso_10, if_pos h7, h.2.2.2.1]
    by_cases hk : tkk b e q = 2
    · rw [if_pos hk, if_pos hk, h41]
      have hw := x_wd (Or.inl rfl) hG hk hF h h7 h19 hu
      obtain ⟨ql, -, -, k1, k2, k3⟩ := tkk_2 hk h.2.1
      cases hs : sWd b G q (tke b e q - q) 0 u with
      | inl k =>
        obtain ⟨k, w⟩ := k
        rw [hs] at hw
        obtain ⟨x, τ, t1, t2, t3, t4⟩ := hw
        obtain ⟨f, rfl⟩ : ∃ g, f = g + 1 := ⟨f - 1, by omega⟩
        refine ⟨uI τ 90 41 x, ?_, t2, t3, t4⟩
        rw [t1, bd2_s, bnd_s, L_X12_readLasso_10, if_neg (show ¬ vI (uI τ 90 41 x) 90 7 = 0 from n0_pos (by show 0 < vI τ 90 7; rw [t2]; exact t3))]
      | inr v =>
        rw [hs] at hw
        obtain ⟨τ, t1, t2, t3, t4, t5⟩ := hw
        have h6 := tke_le (b := b) h.2.1
        have h8 := scn_le (P := kBl b) (e := e) (e - tke b e q) (tke b e q) (by omega)
        have h9 : nx b e q = scn (kBl b) e (tke b e q) := rfl
        have hi := ih (nx b e q) f v (uI τ 90 41 (nI v.length)) t2 t3 ((t5.f (by decide) (by decide)).trans h19) ⟨t4.1, fun j hj => t4.2 j hj⟩ rfl (by omega) (by omega)
        rw [t1, bd2_s, bnd_s]
        show match sWords b e G n (nx b e q) v with
          | .inl (k, w) => _
          | .inr (p, v) => _
        cases hw : sWords b e G n (nx b e q) v with
        | inl k =>
          obtain ⟨k, w⟩ := k
          rw [hw] at hi
          exact hi
        | inr z =>
          obtain ⟨p, y⟩ := z
          rw [hw] at hi
          obtain ⟨υ, u1, u2, u3, u4, u5, u6⟩ := hi
          exact ⟨υ, u1, u2, u3, u4, u5, ((t5.mo (fun x hx => hx) (fun x hx => List.mem_cons_of_mem _ hx)).tr (fm.uI (Or.inr ⟨rfl, List.mem_cons_self⟩))).tr u6⟩
    · rw [if_neg hk, if_neg hk]
      exact ⟨σ, rfl, h, h7, hu, h41, fm.rf⟩
theorem x_w82 {b : Nat → Int32} {e G F : Nat} (hG : G ≤ 3) (hF : 400 < F) (kx : sS → Option sS) : ∀ (n q f : Nat) (u : List Nat) (σ : sS), tkT b e q σ → vI σ 90 7 = 0 → vI σ 90 19 = nI G → rRw 140 u σ → vI σ 90 42 = nI u.length → e < q + n → n < f → match sWords b e G n q u with
    | .inl (k, w) => ∃ τ, L_X12_readLasso_82 F kx f σ = kx τ ∧ vI τ 90 7 = k ∧ 0 < k ∧ vI τ 90 8 = nI w
    | .inr (p, v) => ∃ τ, L_X12_readLasso_82 F kx f σ = kx τ ∧ tkT b e p τ ∧ vI τ 90 7 = 0 ∧ rRw 140 v τ ∧ vI τ 90 42 = nI v.length ∧ fm [140] (42 :: kG) σ τ := by
  intro n
  induction n with
  | zero =>
    intro q f u σ h _ _ _ _ hn
    have := h.2.1
    omega
  | succ n ih =>
    intro q f u σ h h7 h19 hu h42 hn hf
    obtain ⟨f, rfl⟩ : ∃ g, f = g + 1 := ⟨f - 1, by omega⟩
    rw [sWords, L_X12_readLasso_82, if_pos h7, h.2.2.2.1]
    by_cases hk : tkk b e q = 2
    · rw [if_pos hk, if_pos hk, h42]
      have hw := x_wd (Or.inr rfl) hG hk hF h h7 h19 hu
      obtain ⟨ql, -, -, k1, k2, k3⟩ := tkk_2 hk h.2.1
      cases hs : sWd b G q (tke b e q - q) 0 u with
      | inl k =>
        obtain ⟨k, w⟩ := k
        rw [hs] at hw
        obtain ⟨x, τ, t1, t2, t3, t4⟩ := hw
        obtain ⟨f, rfl⟩ : ∃ g, f = g + 1 := ⟨f - 1, by omega⟩
        refine ⟨uI τ 90 42 x, ?_, t2, t3, t4⟩
        rw [t1, bd2_s, bnd_s, L_X12_readLasso_82, if_neg (show ¬ vI (uI τ 90 42 x) 90 7 = 0 from n0_pos (by show 0 < vI τ 90 7; rw [t2]; exact t3))]
      | inr v =>
        rw [hs] at hw
        obtain ⟨τ, t1, t2, t3, t4, t5⟩ := hw
        have h6 := tke_le (b := b) h.2.1
        have h8 := scn_le (P := kBl b) (e := e) (e - tke b e q) (tke b e q) (by omega)
        have h9 : nx b e q = scn (kBl b) e (tke b e q) := rfl
        have hi := ih (nx b e q) f v (uI τ 90 42 (nI v.length)) t2 t3 ((t5.f (by decide) (by decide)).trans h19) ⟨t4.1, fun j hj => t4.2 j hj⟩ rfl (by omega) (by omega)
        rw [t1, bd2_s, bnd_s]
        show match sWords b e G n (nx b e q) v with
          | .inl (k, w) => _
          | .inr (p, v) => _
        cases hw : sWords b e G n (nx b e q) v with
        | inl k =>
          obtain ⟨k, w⟩ := k
          rw [hw] at hi
          exact hi
        | inr z =>
          obtain ⟨p, y⟩ := z
          rw [hw] at hi
          obtain ⟨υ, u1, u2, u3, u4, u5, u6⟩ := hi
          exact ⟨υ, u1, u2, u3, u4, u5, ((t5.mo (fun x hx => hx) (fun x hx => List.mem_cons_of_mem _ hx)).tr (fm.uI (Or.inr ⟨rfl, List.mem_cons_self⟩))).tr u6⟩
    · rw [if_neg hk, if_neg hk]
      exact ⟨σ, rfl, h, h7, hu, h42, fm.rf⟩
theorem x_signN {x : Int32} {σ : sS} (h : 0 < vI σ 90 7) : L_X12_isSign x σ = 0 := by
  unfold L_X12_isSign
  rw [if_neg (n0_pos h)]
theorem x_endN {σ : sS} (h : 0 < vI σ 90 7) : L_X12_needsEnd σ = some σ := by
  unfold L_X12_needsEnd
  rw [if_neg (n0_pos h)]
theorem x_116N {F : Nat} {σ : sS} (h : 0 < vI σ 90 7) : L_X12_readLasso_116 F σ = some σ := by
  unfold L_X12_readLasso_116
  rw [x_signN h, if_pos rfl, x_flawN h, bd_s, x_goN h, bd_s, x_endN h, bd_s]
theorem x_82N {F f : Nat} {σ : sS} (h : 0 < vI σ 90 7) (hf : 0 < f) : L_X12_readLasso_82 F (fun σ8 => L_X12_readLasso_116 F σ8) f σ = some σ := by
  obtain ⟨f, rfl⟩ : ∃ g, f = g + 1 := ⟨f - 1, by omega⟩
  rw [L_X12_readLasso_82, if_neg (n0_pos h), x_116N h]
theorem x_58LN {F : Nat} {σ : sS} (h : 0 < vI σ 90 7) (hF : 0 < F) : L_X12_readLasso_58 F σ = some σ := by
  unfold L_X12_readLasso_58
  rw [x_goN h, bd_s, if_neg (n0_pos h), x_82N h hF]
theorem x_44N {F : Nat} {σ : sS} (h : 0 < vI σ 90 7) (hF : 0 < F) : L_X12_readLasso_44 F σ = some σ := by
  unfold L_X12_readLasso_44
  rw [x_signN h, if_pos rfl, x_flawN h, bd_s, x_58LN h hF]
/-- the reference after a reading of a word -/
def rLs (x : pE (List Nat × List Nat)) (o : Option sS) : Prop := match x with
  | .inl (k, w) => ∃ τ, o = some τ ∧ vI τ 90 7 = k ∧ 0 < k ∧ vI τ 90 8 = nI w
  | .inr (u, v) => ∃ τ, o = some τ ∧ vI τ 90 7 = 0 ∧ rRw 139 u τ ∧ vI τ 90 41 = nI u.length ∧ rRw 140 v τ ∧ vI τ 90 42 = nI v.length
theorem x_58L {b : Nat → Int32} {e q G F : Nat} {u : List Nat} {σ : sS} (hG : G ≤ 3) (hF : 402 < F) (h : tkT b e q σ) (h7 : vI σ 90 7 = 0) (h19 : vI σ 90 19 = nI G) (hu : rRw 139 u σ) (h41 : vI σ 90 41 = nI u.length) (h42 : vI σ 90 42 = 0) : rLs (sRound b e G (nx b e q) u) (L_X12_readLasso_58 F σ) := by
  have n : ∀ {x : Nat}, x ∉ ([] : List Nat) := fun h => nomatch h
  obtain ⟨τ, t1, t2⟩ := x_goOn h.1 h7 (by omega : 400 < F)
  have f1 := f_L_X12_goOn t1
  have t7 : vI τ 90 7 = 0 := (f1.f (by decide) n).trans h7
  unfold L_X12_readLasso_58
  rw [t1, bd_s, if_pos t7, t2.2.2.2.1]
  rw [show tq b e (tke b e q) = nx b e q from rfl] at t2 ⊢
  have he := h.1.2.2.2.2
  generalize nx b e q = q1 at t2
  unfold sRound
  by_cases hk : tkk b e q1 = 2
  · rw [if_pos hk, if_pos hk]
    have hw := x_w82 (b := b) (e := e) (G := G) (F := F) hG (by omega) (fun σ8 => L_X12_readLasso_116 F σ8) 401 q1 F [] τ t2 t7 ((f1.f (by decide) n).trans h19) ⟨Nat.zero_le _, fun j hj => absurd hj (Nat.not_lt_zero j)⟩ ((f1.f (by decide) n).trans h42) (by omega) (by omega)
    cases hs : sWords b e G 401 q1 [] with
    | inl k =>
      obtain ⟨k, w⟩ := k
      rw [hs] at hw
      obtain ⟨υ, u1, u2, u3, u4⟩ := hw
      exact ⟨υ, u1.trans (x_116N (by rw [u2]; exact u3)), u2, u3, u4⟩
    | inr z =>
      obtain ⟨p, v⟩ := z
      rw [hs] at hw
      obtain ⟨υ, u1, u2, u3, u4, u5, u6⟩ := hw
      rw [u1]
      show rLs (if tkk b e p = 4 ∧ b p = 41 then _ else _) (L_X12_readLasso_116 F υ)
      unfold L_X12_readLasso_116
      rw [x_isSign u2 u3]
      by_cases k4 : tkk b e p = 4 ∧ b p = 41
      · rw [if_pos k4, if_pos k4, if_neg i1n0]
        obtain ⟨ω, w1, w2⟩ := x_goOn u2.1 u3 (by omega : 400 < F)
        have f2 := f_L_X12_goOn w1
        have w7 : vI ω 90 7 = 0 := (f2.f (by decide) n).trans u3
        rw [w1, bd_s, bd_id]
        rw [show tq b e (tke b e p) = nx b e p from rfl] at w2
        unfold L_X12_needsEnd
        rw [if_pos w7, w2.2.2.2.1]
        by_cases k1 : tkk b e (nx b e p) = 1
        · rw [if_pos k1, if_pos k1]
          exact ⟨ω, rfl, w7, ⟨hu.1, fun j hj => ((f2.r n (by decide)).trans ((u6.r (by decide) (by decide)).trans (f1.r n (by decide)))).trans (hu.2 j hj)⟩, ((f2.f (by decide) n).trans ((u6.f (by decide) (by decide)).trans (f1.f (by decide) n))).trans h41, ⟨u4.1, fun j hj => (f2.r n (by decide)).trans (u4.2 j hj)⟩, (f2.f (by decide) n).trans u5⟩
        · rw [if_neg k1, if_neg k1, bd_id, x_flaw w7, w2.2.2.1]
          exact ⟨_, rfl, rfl, by decide, rfl⟩
      · rw [if_neg k4, if_neg k4, if_pos rfl, x_flaw u3, bd_s, u2.2.2.1]
        have p1 : 0 < vI (uI (uI υ 90 7 1) 90 8 (nI p)) 90 7 := show (0 : Int32) < 1 by decide
        rw [x_goN p1, bd_s, x_endN p1, bd_s]
        exact ⟨_, rfl, rfl, by decide, rfl⟩
  · rw [if_neg hk, if_neg hk, x_flaw t7, bd_s, t2.2.2.1]
    have p1 : 0 < vI (uI (uI τ 90 7 1) 90 8 (nI q1)) 90 7 := show (0 : Int32) < 1 by decide
    rw [x_82N p1 (by omega)]
    exact ⟨_, rfl, rfl, by decide, rfl⟩
theorem x_lasso {b : Nat → Int32} {e q G F : Nat} {σ : sS} (hG : G ≤ 3) (hF : 402 < F) (h : tkT b e q σ) (h7 : vI σ 90 7 = 0) (h19 : vI σ 90 19 = nI G) : rLs (sLasso b e G q) (L_X12_readLasso F σ) := by
  have he := h.1.2.2.2.2
  unfold L_X12_readLasso sLasso
  simp only [bnd_s]
  have hw := x_w10 (b := b) (e := e) (G := G) (F := F) hG (by omega) (fun σ3 => L_X12_readLasso_44 F σ3) 401 q F [] (uI (uI σ 90 41 0) 90 42 0) h h7 h19 ⟨Nat.zero_le _, fun j hj => absurd hj (Nat.not_lt_zero j)⟩ rfl (by omega) (by omega)
  cases hs : sWords b e G 401 q [] with
  | inl k =>
    obtain ⟨k, w⟩ := k
    rw [hs] at hw
    obtain ⟨υ, u1, u2, u3, u4⟩ := hw
    exact ⟨υ, u1.trans (x_44N (by rw [u2]; exact u3) (by omega)), u2, u3, u4⟩
  | inr z =>
    obtain ⟨p, u⟩ := z
    rw [hs] at hw
    obtain ⟨υ, u1, u2, u3, u4, u5, u6⟩ := hw
    rw [u1]
    show rLs (if tkk b e p = 4 ∧ b p = 40 then _ else _) (L_X12_readLasso_44 F υ)
    unfold L_X12_readLasso_44
    rw [x_isSign u2 u3]
    by_cases k4 : tkk b e p = 4 ∧ b p = 40
    · rw [if_pos k4, if_pos k4, if_neg i1n0]
      exact x_58L hG hF u2 u3 ((u6.f (by decide) (by decide)).trans h19) u4 u5 (u6.f (by decide) (by decide))
    · rw [if_neg k4, if_neg k4, if_pos rfl, x_flaw u3, bd_s, u2.2.2.1, x_58LN (σ := uI (uI υ 90 7 1) 90 8 (nI p)) (show (0 : Int32) < 1 by decide) (by omega)]
      exact ⟨_, rfl, rfl, by decide, rfl⟩
