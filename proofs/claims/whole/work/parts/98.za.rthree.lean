/-! threes: the reference -/
def r3 (Q : List Nat) (τ : sS) : Prop := vI τ 90 47 = nI Q.length ∧ vI τ 90 48 = 1 ∧ (∀ i, i < Q.length → vI τ 143 i = nI (cdS (Q.getD i 0)) ∧ vI τ 144 i = nI (cdN (Q.getD i 0)) ∧ vI τ 145 i = nI (cdM (Q.getD i 0))) ∧ ∀ c, c < 2400 → vI τ 146 c = if c ∈ Q then nI (idx c Q) else -1
theorem r3.f {Q : List Nat} {τ υ : sS} {L K : List Nat} (h : r3 Q τ) (f : fm L K τ υ) (hL : ∀ r ∈ [143, 144, 145, 146, 90], r ∉ L) (hK : ∀ k ∈ [47, 48], k ∉ K) : r3 Q υ := by
  obtain ⟨h1, h2, h3, h4⟩ := h
  have h9 : 90 ∉ L := hL 90 (by decide)
  refine ⟨(f.f (hK 47 (by decide)) h9).trans h1, (f.f (hK 48 (by decide)) h9).trans h2, fun i hi => ?_, fun c hc => (f.r (hL 146 (by decide)) (by decide)).trans (h4 c hc)⟩
  rw [f.r (hL 143 (by decide)) (by decide), f.r (hL 144 (by decide)) (by decide), f.r (hL 145 (by decide)) (by decide)]
  exact h3 i hi
def rG2 (M M' : aM) (g a : Nat) (τ : sS) : Prop := vI τ 90 37 = 2 ∧ vI τ 90 38 = nI a ∧ vI τ 90 19 = nI g ∧ vI τ 116 a = nI (mF M) ∧ (∀ s f, s < 4 → f < 4 → vI τ 117 (16 * a + 4 * s + f) = nI (mE M s f)) ∧ rCpl M' g τ
theorem rG2.f {M M' : aM} {g a : Nat} {τ υ : sS} {L K : List Nat} (h : rG2 M M' g a τ) (f : fm L K τ υ) (hL : ∀ r ∈ 116 :: 117 :: 90 :: rcM, r ∉ L) (hK : ∀ k ∈ 37 :: 38 :: 19 :: rcK, k ∉ K) : rG2 M M' g a υ := by
  obtain ⟨h1, h2, h3, h4, h5, h6⟩ := h
  have h9 : 90 ∉ L := hL 90 (by decide)
  exact ⟨(f.f (hK 37 (by decide)) h9).trans h1, (f.f (hK 38 (by decide)) h9).trans h2, (f.f (hK 19 (by decide)) h9).trans h3, (f.r (hL 116 (by decide)) (by decide)).trans h4, fun s t hs ht => (f.r (hL 117 (by decide)) (by decide)).trans (h5 s t hs ht), h6.f f (fun x hx => hL x (List.mem_cons_of_mem _ (List.mem_cons_of_mem _ (List.mem_cons_of_mem _ hx)))) h9 (fun k hk => hK k (List.mem_cons_of_mem _ (List.mem_cons_of_mem _ (List.mem_cons_of_mem _ hk))))⟩
def teM : List Nat := [143, 144, 145, 146]
theorem x_three {t n m : Nat} {Q : List Nat} {τ : sS} (h : r3 Q τ) (hl : Q.length ≤ 1000) (ht : t < 4) (hn : n < 300) (hm : m < 2) : (∀ Q', tm ((t * 300 + n) * 2 + m) Q = some Q' → ∃ υ, L_X12_three (nI t) (nI n) (nI m) τ = some (nI (idx ((t * 300 + n) * 2 + m) Q'), υ) ∧ r3 Q' υ ∧ fm teM [47] τ υ) ∧ (tm ((t * 300 + n) * 2 + m) Q = none → ∃ υ, L_X12_three (nI t) (nI n) (nI m) τ = some (-1, υ) ∧ vI υ 90 48 = 0 ∧ fm [] [48] τ υ) ∧ ((t * 300 + n) * 2 + m ∈ Q → L_X12_three (nI t) (nI n) (nI m) τ = some (nI (idx ((t * 300 + n) * 2 + m) Q), τ)) := by
  obtain ⟨h1, h2, h3, h4⟩ := h
  have ec : ((nI t * 300 + nI n) * 2) + nI m = nI ((t * 300 + n) * 2 + m) := by
    rw [show (300 : Int32) = nI 300 from rfl, show (2 : Int32) = nI 2 from rfl, nI_mul, nI_add, nI_mul, nI_add]
  obtain ⟨c1, c2, c3⟩ := cd_c (t := t) (n := n) (m := m) hn hm
  have hc : (t * 300 + n) * 2 + m < 2400 := by omega
  have ev := h4 _ hc
  unfold L_X12_three
  rw [bnd_s, ec]
  generalize (t * 300 + n) * 2 + m = c at c1 c2 c3 hc ev
  rw [inb_n hc (by omega), grd_s, nI_clamp (by omega), ev]
  unfold tm
  by_cases m1 : c ∈ Q
  · have hi := idx_lt m1
    rw [if_pos m1, if_pos m1, if_neg (nI_n1' (by omega)), grd_s]
    refine ⟨fun Q' hQ => ?_, fun q => (nomatch q), fun _ => rfl⟩
    rw [← Option.some.inj hQ]
    exact ⟨τ, rfl, ⟨h1, h2, h3, h4⟩, fm.rf⟩
  · rw [if_neg m1, if_neg m1, if_pos rfl, h1]
    by_cases d : Q.length = 1000
    · rw [if_pos d, if_pos (by rw [d]; rfl)]
      exact ⟨fun Q' hQ => (nomatch hQ), fun _ => ⟨_, rfl, vI_e, fm.uI (Or.inr ⟨rfl, by decide⟩)⟩, fun q => absurd q m1⟩
    · rw [if_neg d, if_neg (show ¬ nI Q.length = (1000 : Int32) from fun z => d (nI_ij (y := 1000) (by omega) (by decide) z))]
      refine ⟨fun Q' hQ => ?_, fun q => (nomatch q), fun q => absurd q m1⟩
      rw [← Option.some.inj hQ, idx_n m1]
      have a1 : vI (uI τ 143 Q.length (nI t)) 90 47 = nI Q.length := by rw [vI_q (fun q => absurd q.1 (by decide))]; exact h1
      have a2 : vI (uI (uI τ 143 Q.length (nI t)) 144 Q.length (nI n)) 90 47 = nI Q.length := by rw [vI_q (fun q => absurd q.1 (by decide))]; exact a1
      have a3 : vI (uI (uI (uI τ 143 Q.length (nI t)) 144 Q.length (nI n)) 145 Q.length (nI m)) 90 47 = nI Q.length := by rw [vI_q (fun q => absurd q.1 (by decide))]; exact a2
      have a4 : vI (uI (uI (uI (uI τ 143 Q.length (nI t)) 144 Q.length (nI n)) 145 Q.length (nI m)) 146 c (nI Q.length)) 90 47 = nI Q.length := by rw [vI_q (fun q => absurd q.1 (by decide))]; exact a3
      refine ⟨uI (uI (uI (uI (uI τ 143 Q.length (nI t)) 144 Q.length (nI n)) 145 Q.length (nI m)) 146 c (nI Q.length)) 90 47 (nI (Q.length + 1)), ?_, ⟨?_, ?_, fun i hi => ?_, fun x hx => ?_⟩, ?_⟩
      · rw [inb_n (by omega) (by omega), grd_s, bnd_s, nI_clamp (by omega), a1, inb_n (by omega) (by omega), grd_s, bnd_s, nI_clamp (by omega), a2, inb_n (by omega) (by omega), grd_s, bnd_s, nI_clamp (by omega), grd_s, bnd_s, a3, bnd_s, a4, nI_1, vI_e, nI_pred]
      · rw [vI_e, List.length_append]; rfl
      · rw [vI_q (fun q => absurd q.2 (by decide)), vI_q (fun q => absurd q.1 (by decide)), vI_q (fun q => absurd q.1 (by decide)), vI_q (fun q => absurd q.1 (by decide)), vI_q (fun q => absurd q.1 (by decide))]
        exact h2
      · rw [List.length_append] at hi
        simp only [List.length_cons, List.length_nil] at hi
        by_cases e : i = Q.length
        · rw [e, getD_l, c1, c2, c3]
          refine ⟨?_, ?_, ?_⟩
          · rw [vI_q (fun q => absurd q.1 (by decide)), vI_q (fun q => absurd q.1 (by decide)), vI_q (fun q => absurd q.1 (by decide)), vI_q (fun q => absurd q.1 (by decide)), vI_e]
          · rw [vI_q (fun q => absurd q.1 (by decide)), vI_q (fun q => absurd q.1 (by decide)), vI_q (fun q => absurd q.1 (by decide)), vI_e]
          · rw [vI_q (fun q => absurd q.1 (by decide)), vI_q (fun q => absurd q.1 (by decide)), vI_e]
        · rw [getD_app (by omega)]
          have := h3 i (by omega)
          refine ⟨?_, ?_, ?_⟩
          · rw [vI_q (fun q => absurd q.1 (by decide)), vI_q (fun q => absurd q.1 (by decide)), vI_q (fun q => absurd q.1 (by decide)), vI_q (fun q => absurd q.1 (by decide)), vI_q (fun q => e q.2)]
            exact this.1
          · rw [vI_q (fun q => absurd q.1 (by decide)), vI_q (fun q => absurd q.1 (by decide)), vI_q (fun q => absurd q.1 (by decide)), vI_q (fun q => e q.2), vI_q (fun q => absurd q.1 (by decide))]
            exact this.2.1
          · rw [vI_q (fun q => absurd q.1 (by decide)), vI_q (fun q => absurd q.1 (by decide)), vI_q (fun q => e q.2), vI_q (fun q => absurd q.1 (by decide)), vI_q (fun q => absurd q.1 (by decide))]
            exact this.2.2
      · rw [vI_q (fun q => absurd q.1 (by decide))]
        by_cases e : x = c
        · rw [e, vI_e, if_pos (by simp), idx_n m1]
        · rw [vI_q (fun q => e q.2), vI_q (fun q => absurd q.1 (by decide)), vI_q (fun q => absurd q.1 (by decide)), vI_q (fun q => absurd q.1 (by decide)), h4 x hx]
          by_cases mx : x ∈ Q
          · rw [if_pos mx, if_pos (List.mem_append.mpr (Or.inl mx)), idx_a mx]
          · rw [if_neg mx, if_neg (fun q => by
              rcases List.mem_append.mp q with z | z
              · exact mx z
              · exact e (List.mem_singleton.mp z))]
      · exact ((((fm.uI (Or.inl (by decide))).tr (fm.uI (Or.inl (by decide)))).tr (fm.uI (Or.inl (by decide)))).tr (fm.uI (Or.inl (by decide)))).tr (fm.uI (Or.inr ⟨rfl, by decide⟩))
/-- the edges of a three; where they go -/
theorem x_G2 {M M' : aM} {v : zS × (Nat → Nat)} {g a p : Nat} {Q : List Nat} {τ : sS} (hM : mOk g M) (hq : cpl M' g = some v) (hO : cO M' g v) (h3 : sM3 v.2 (zN v.1 * g)) (hg1 : 1 ≤ g) (hg : g ≤ 3) (ha : a < 3) (h : rG2 M M' g a τ) (hr : r3 Q τ) (hl : Q.length ≤ 1000) (hp : p < Q.length) (hV : cV M v (Q.getD p 0)) : rEd (fun p => elB (bC M v g) g (Q.getD p 0)) p τ ∧ (∀ e, e ∈ elB (bC M v g) g (Q.getD p 0) → (∀ Q', tm e.2 Q = some Q' → ∃ υ, L_X12_goesBy (nI p) (nI e.1) τ = some (nI (idx e.2 Q'), υ) ∧ r3 Q' υ ∧ fm teM [47] τ υ) ∧ (tm e.2 Q = none → ∃ υ, L_X12_goesBy (nI p) (nI e.1) τ = some (-1, υ) ∧ vI υ 90 48 = 0 ∧ fm [] [48] τ υ) ∧ (e.2 ∈ Q → L_X12_goesBy (nI p) (nI e.1) τ = some (nI (idx e.2 Q), τ))) ∧ L_X12_isMarked (nI p) τ = some (if tMk v (Q.getD p 0) = true then 1 else 0) := by
  obtain ⟨h1, h2, hgl, h4, h5, hc⟩ := h
  have hv := hc.v hq
  have p4 : 2 ^ mN M ≤ 2 ^ 4 := Nat.pow_le_pow_right (by decide) hM.2.1
  have hN4 := hM.2.1
  have hF := hM.2.2.2.1
  have hN := hO.1.2.1
  obtain ⟨r1, r2, r3'⟩ := hr.2.2.1 p hp
  have i20 : ¬ (2 : Int32) = 0 := by decide
  have i21 : ¬ (2 : Int32) = 1 := by decide
  have hs4 : cdS (Q.getD p 0) < 4 := by have := hV.1; omega
  have hm2 : cdM (Q.getD p 0) < 2 := Nat.mod_lt _ (by decide)
  have bo := fun s hs => bC_o (M' := M) (M := M) (s := s) h3 hV hs
  have bv := fun s t k hs ht hk => bC_V (s := s) (t := t) (k := k) hM hO hV hs ht hk
  have fin := x_fin hv.1 hV.2
  refine ⟨x_efb (b := fun p => bC M v g (Q.getD p 0)) hgl hg (fun s hs => (bo s hs).1) (fun s t k hs ht hk => ?_), fun e he => ?_, ?_⟩
  · have hX : mE M s (cdS (Q.getD p 0)) < 16 := Nat.lt_of_lt_of_le (hM.2.2.2.2.1 s _) p4
    obtain ⟨f1, f2, f3, f4⟩ := x_fan hv hO hg1 hg hV.2 hs
    have hb := (bo s hs).2
    have hb : v.2 (cdN (Q.getD p 0) * g + s + 1) - v.2 (cdN (Q.getD p 0) * g + s) ≤ 300 := hb
    have eh : L_X12_hasEdge (nI p) (nI s) (nI t) (nI k) τ = if (mE M s (cdS (Q.getD p 0))).testBit t = true then (if k < v.2 (cdN (Q.getD p 0) * g + s + 1) - v.2 (cdN (Q.getD p 0) * g + s) then some 1 else some 0) else some 0 := by
      unfold L_X12_hasEdge
      rw [bnd_s, h1, if_neg i20, if_neg i21, if_pos rfl, inb_n (by omega) (by omega), grd_s, nI_clamp (by omega), r1, h2, x_eOf h5 ha (by omega) hs4, bd_s, b_bit _ hX t ht, grd_s, r2, f1, bd_s]
      by_cases c : (mE M s (cdS (Q.getD p 0))).testBit t = true
      · rw [if_pos c, if_pos c, if_pos rfl]
        by_cases d : k < v.2 (cdN (Q.getD p 0) * g + s + 1) - v.2 (cdN (Q.getD p 0) * g + s)
        · rw [if_pos d, if_neg (nI_ge d (by omega))]
        · rw [if_neg d, if_pos (nI_le (by omega) (by omega))]
      · rw [if_neg c, if_neg c, if_neg (by decide)]
    rw [eh]
    by_cases c : (mE M s (cdS (Q.getD p 0))).testBit t = true
    · rw [if_pos c]
      by_cases d : k < v.2 (cdN (Q.getD p 0) * g + s + 1) - v.2 (cdN (Q.getD p 0) * g + s)
      · rw [if_pos d]
        exact ⟨1, rfl, Or.inl ⟨rfl, sts_mem.mpr ⟨ht, c⟩, d⟩⟩
      · rw [if_neg d]
        exact ⟨0, rfl, Or.inr (Or.inl ⟨rfl, fun q => d q.2⟩)⟩
    · rw [if_neg c]
      exact ⟨0, rfl, Or.inr (Or.inl ⟨rfl, fun q => c (sts_mem.mp q.1).2⟩)⟩
  · obtain ⟨s, t, k, q1, q2, q3, q4⟩ := elB_mem.mp he
    have ht4 := (sts_mem.mp q2).1
    have hb := (bo s q1).2
    obtain ⟨c1, c2, c3⟩ := cur_d (s := s) (t := t) (k := k) (by omega) ht4 (by omega)
    obtain ⟨v1, v2, v3, v4, v5⟩ := bv s t k q1 q2 q3
    have q3' : k < v.2 (cdN (Q.getD p 0) * g + s + 1) - v.2 (cdN (Q.getD p 0) * g + s) := q3
    have ea := x_eAt hv hO hg1 hg hV.2 q1 q3'
    have zl : zT v.1 (v.2 (cdN (Q.getD p 0) * g + s) + k) < 300 := by
      have := v1.2
      rw [v4] at this
      omega
    have eg : L_X12_goesBy (nI p) (nI e.1) τ = bd2 (L_X12_three (nI t) (nI (zT v.1 (v.2 (cdN (Q.getD p 0) * g + s) + k))) (nI (mkA M v (Q.getD p 0))) τ) (fun r σ => some (r, σ)) := by
      rw [q4]
      unfold L_X12_goesBy
      simp only [bnd_s]
      rw [h1, if_neg i20, if_neg i21, if_pos rfl, c2, c3, c1, inb_n (show p < 1000 by omega) (by omega)]
      simp only [grd_s]
      rw [nI_clamp (show p < 2 ^ 31 by omega), r3', r2, r1, h2, inb_n (show a < 6 by omega) (by omega), grd_s, nI_clamp (show a < 2 ^ 31 by omega), h4, b_bit _ (by omega) _ hs4, ea, bd_s, fin, bd_s]
      unfold mkA
      by_cases d : cdM (Q.getD p 0) = 0
      · rw [if_pos ((nI_k0 (by omega)).mpr d), if_pos d]
        by_cases c : (mF M).testBit (cdS (Q.getD p 0)) = true
        · rw [if_pos c, if_pos c]; rfl
        · rw [if_neg c, if_neg c]; rfl
      · rw [if_neg (fun z => d ((nI_k0 (by omega)).mp z)), if_neg d]
        by_cases c : nfin (zX v.1 (cdN (Q.getD p 0))) = true
        · rw [if_pos c, if_pos c, if_neg (by decide)]; rfl
        · rw [if_neg c, if_neg c, if_pos rfl]; rfl
    rw [eg]
    obtain ⟨T1, T2, T3⟩ := x_three hr hl ht4 zl (mkA_2 (M := M) (v := v) (c := Q.getD p 0))
    have ee : e.2 = (t * 300 + zT v.1 (v.2 (cdN (Q.getD p 0) * g + s) + k)) * 2 + mkA M v (Q.getD p 0) := by rw [q4]; rfl
    rw [← ee] at T1 T2 T3
    refine ⟨fun Q' hQ => ?_, fun hQ => ?_, fun hQ => ?_⟩
    · obtain ⟨υ, u1, u2, u3⟩ := T1 Q' hQ
      rw [u1, bd2_s]
      exact ⟨υ, rfl, u2, u3⟩
    · obtain ⟨υ, u1, u2, u3⟩ := T2 hQ
      rw [u1, bd2_s]
      exact ⟨υ, rfl, u2, u3⟩
    · rw [T3 hQ, bd2_s]
  · unfold L_X12_isMarked
    rw [bnd_s, h1, if_neg i20, if_neg i21, if_pos rfl, inb_n (by omega) (by omega), grd_s, nI_clamp (by omega), r3', r2, fin, grd_s, bd_s]
    unfold tMk
    by_cases d : cdM (Q.getD p 0) = 1
    · rw [d, if_pos (show nI 1 = (1 : Int32) from rfl)]
      cases nfin (zX v.1 (cdN (Q.getD p 0))) <;> rfl
    · rw [if_neg (show ¬ nI (cdM (Q.getD p 0)) = (1 : Int32) from fun z => d (nI_ij (y := 1) (by omega) (by decide) z)), decide_eq_false d]
      rfl
