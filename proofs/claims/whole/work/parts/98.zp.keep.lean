/-! the law: what each half's calls leave of the other half -/
theorem RI.v {A : aS} {σ τ : sS} (h : RI A σ) (v : ∀ a j, 62 ≤ a → vI τ a j = vI σ a j) : RI A τ := by
  have f : fm (List.range 62) [] σ (τ.1, σ.2) := by
    refine ⟨fun a j ha _ => ?_, fun _ _ _ _ => rfl, rfl⟩
    exact v a j (Nat.le_of_not_lt (fun q => ha (List.mem_range.mpr q)))
  have h1 : R0 A (τ.1, σ.2) := h.1.keep f (by decide) (by decide) (fun _ _ h => nomatch h)
  have h2 : rB A (τ.1, σ.2) := h.2.f f (by decide) (by decide) (fun _ _ h => nomatch h) rfl
  exact ⟨h1, h2⟩
theorem cCpl.v {c G : Nat} {M : aM} {σ τ : sS} (h : cCpl c M G σ) (v : ∀ b j, (b = c ∨ b = c + 3 ∨ b = c + 6 ∨ b = c + 9) → vI τ b j = vI σ b j) : cCpl c M G τ := by
  unfold cCpl at h ⊢
  cases hq : cpl M G with
  | none => rw [hq] at h; exact (v _ _ (by omega)).trans h
  | some z =>
    rw [hq] at h
    obtain ⟨b1, b2, b3, b4, b5⟩ := h
    exact ⟨(v _ _ (by omega)).trans b1, (v _ _ (by omega)).trans b2, fun n hn => (v _ _ (by omega)).trans (b3 n hn), fun j hj => (v _ _ (by omega)).trans (b4 j hj), fun j hj => (v _ _ (by omega)).trans (b5 j hj)⟩
theorem aS_m {A A' : aS} (e : A'.2.2.1 = A.2.2.1) : aC A' = aC A ∧ aG A' = aG A ∧ aMa A' = aMa A := ⟨by unfold aC; rw [e], by unfold aG; rw [e], by unfold aMa; rw [e]⟩
theorem cCh.v {A A' : aS} {σ τ : sS} (h : cCh A σ) (hA : aC A ≤ 3) (e : A'.2.2.1 = A.2.2.1) (v : ∀ b j, 33 ≤ b → b ≤ 44 → vI τ b j = vI σ b j) : cCh A' τ := by
  obtain ⟨e1, e2, e3⟩ := aS_m e
  intro i hi
  rw [e1] at hi
  rw [e2, e3]
  rcases h i hi with q | q
  · exact Or.inl ((v _ _ (by omega) (by omega)).trans q)
  · exact Or.inr (q.v (fun b j hb => v b j (by omega) (by omega)))
/-- what is kept besides, from what a call leaves alone -/
theorem CI.y {B : cB} {A A' : aS} {σ τ : sS} (h : CI B A σ) (h0 : C0 A' τ) (r : τ.2.2.1 = σ.2.2.1) (e : τ.2.2.2.2 = σ.2.2.2.2) (v : ∀ a j, 62 ≤ a → vI τ a j = vI σ a j) (hc : cCh A' τ) : CI B A' τ := by
  obtain ⟨-, ⟨⟨i1, i2, i3⟩, ⟨i4, i5⟩, i6⟩, hR, -, hK⟩ := h
  have hV : ∀ a, vC τ a = vC σ a := fun a => by show τ.2.2.2.2.1 a = σ.2.2.2.2.1 a; rw [e]
  exact ⟨h0, ⟨⟨fun a ha => (hV _).trans (i1 a ha), by rw [hV]; exact i2, by rw [hV]; exact i3⟩, ⟨(hV _).trans i4, (hV _).trans i5⟩, (hV _).trans i6⟩, hR.c e, hc, hK.c v (fun k => by unfold vR; rw [r])⟩
theorem C0.v {A : aS} {σ τ : sS} (h : C0 A σ) (n : ∀ a j, a < 62 → vI τ a j = vI σ a j) (hV : ∀ a, vC τ a = vC σ a) : C0 A τ := by
  obtain ⟨⟨t1, t2, t3, t4⟩, ⟨a1, a2, a3, a4, a5⟩, ⟨m1, m2, m3, m4, m5⟩, hs⟩ := h
  refine ⟨⟨t1, (n _ _ (by omega)).trans t2, fun j hj => (n _ _ (by omega)).trans (t3 j hj), (hV _).trans t4⟩, ⟨(n _ _ (by omega)).trans a1, (n _ _ (by omega)).trans a2, fun c => (n _ _ (by omega)).trans (a3 c), a4, (n _ _ (by omega)).trans a5⟩, ⟨m1, m2, (n _ _ (by omega)).trans m3, fun a ha => (hV _).trans (m4 a ha), fun a ha => ?_⟩, hs.c rfl (fun j => n _ _ (by omega)) (fun j => n _ _ (by omega))⟩
  obtain ⟨n0, n1, n2, n3, n4, n5⟩ := m5 a ha
  have ha3 : a < 3 := by have : a < aC A := ha; omega
  exact ⟨n0, (n _ _ (by omega)).trans n1, (n _ _ (by omega)).trans n2, (n _ _ (by omega)).trans n3, (n _ _ (by omega)).trans n4, fun s f hs hf => (n _ _ (by omega)).trans (n5 s f hs hf)⟩
theorem CI.fm {B : cB} {A : aS} {σ τ : sS} {M K : List Nat} (h : CI B A σ) (f : fm M K σ τ) (hM : ∀ x ∈ M, 62 ≤ x) : CI (B.1, τ) A τ := by
  have n : ∀ a j, a < 62 → vI τ a j = vI σ a j := fun a j ha => f.1 a j (fun q => by have := hM a q; omega) (fun q => by omega)
  have hV : ∀ a, vC τ a = vC σ a := fun a => by show τ.2.2.2.2.1 a = σ.2.2.2.2.1 a; rw [f.2.2]
  have h3 := h.1.c.1
  obtain ⟨h0, ⟨⟨i1, i2, i3⟩, ⟨i4, i5⟩, i6⟩, hR, hc, hK⟩ := h
  exact ⟨h0.v n hV, ⟨⟨fun a ha => (hV _).trans (i1 a ha), by rw [hV]; exact i2, by rw [hV]; exact i3⟩, ⟨(hV _).trans i4, (hV _).trans i5⟩, (hV _).trans i6⟩, hR.c (by rw [f.2.2]), hc.v h3 rfl (fun b j h1 h2 => n b j (by omega)), fun _ _ _ => rfl, hK.2.c (fun k => by unfold vR; rw [f.2.2])⟩
/-- both halves -/
def LW (b : Nat × Nat) (A : aS) (σ : sS) : Prop := CI (b, σ) A σ ∧ RI A σ ∧ aI A
theorem aI.m {A A' : aS} (h : aI A) (e : A'.2.2.1 = A.2.2.1) : aI A' := by
  obtain ⟨e1, e2, -⟩ := aS_m e
  unfold aI
  rw [e1, e2]
  exact h
theorem LW.go {b : Nat × Nat} {A : aS} {σ : sS} {S : Int32 × aS} {o : Option (Int32 × sS)} {q : sS → Option (Int32 × sS)} {M K : List Nat} (h : LW b A σ) (y : yCI (b, σ) S o) (x : ∀ τ, RI A τ → xRI S (q τ)) (f : ∀ τ z, q τ = some z → fm M K τ z.2) (hM : ∀ x ∈ M, 62 ≤ x) (m : aI S.2) : ∃ τ υ v, o = some (v, τ) ∧ q τ = some (v, υ) ∧ LW b S.2 υ := by
  obtain ⟨τ, t1, t2⟩ := y
  obtain ⟨υ, u1, u2⟩ := x τ (h.2.1.v t2.2.2.2.2.1)
  exact ⟨τ, υ, S.1, t1, u1, t2.fm (f τ _ u1) hM, u2, m⟩
theorem yCF.i {B : cB} {q : Int32 × aS} {o : Option (Int32 × sS)} (h : yCF B q o) : yCI B q o := by
  obtain ⟨τ, t1, t2, -⟩ := h
  exact ⟨τ, t1, t2⟩
/-! the component's first calls -/
theorem fL0_rf {σ : sS} : fL0 σ σ := ⟨fun _ _ _ _ _ => rfl, fun _ _ _ => rfl, rfl, rfl, rfl⟩
theorem yOk.i {B : cB} {A : aS} {σ : sS} {q : Int32 × aS} {o : Option (Int32 × sS)} (y : yOk A σ q o) (h : CI B A σ) (e : q.2.2.2.1 = A.2.2.1) : yCI B q o := by
  obtain ⟨τ, t1, t2, u, rfl⟩ := y
  exact ⟨_, t1, h.lz1 fL0_rf t2 e⟩
theorem yi_feed {B : cB} {A : aS} {σ : sS} (h : CI B A σ) (a b c d e : Int32) (m : (sp_feed A a b c d e).2.2.2.1 = A.2.2.1) : yCI B (sp_feed A a b c d e) (L_X11_feed a b c d e σ) := by
  obtain ⟨τ, t1, t2, t3, t4⟩ := y_feed h.1 a b c d e
  refine ⟨τ, t1, h.y t2 (by rw [t4]) (by rw [t4]) (fun x j hx => t3 x j (by omega) (by omega)) (h.2.2.2.1.v h.1.c.1 m (fun x j hx _ => t3 x j (by omega) (by omega)))⟩
theorem fK1.i {B : cB} {A A' : aS} {σ τ : sS} (f : fK1 σ τ) (h : CI B A σ) (h0 : C0 A' τ) (m : A'.2.2.1 = A.2.2.1) : CI B A' τ := by
  obtain ⟨υ, u, ⟨f1, f2⟩, rfl⟩ := f
  have n : ∀ x j, 33 ≤ x → vI (uI υ 0 10 u) x j = vI σ x j := fun x j hx => (vI_q (fun q => by omega)).trans (f1 x j (by omega) (by omega))
  exact h.y h0 (show υ.2.2.1 = _ by rw [f2]) (show υ.2.2.2.2 = _ by rw [f2]) (fun x j hx => n x j (by omega)) (h.2.2.2.1.v h.1.c.1 m (fun x j hx _ => n x j hx))
theorem yi_rankings {B : cB} {A : aS} {σ : sS} (h : CI B A σ) (a t g : Int32) (m : (sp_rankings A a t g).2.2.2.1 = A.2.2.1) : yCI B (sp_rankings A a t g) (L_X11_rankings a t g σ) := by
  obtain ⟨τ, t1, t2, t3⟩ := y_rankings h.1 h.2.1.2.2 a t g
  exact ⟨τ, t1, t3.i h t2 m⟩
theorem yi_ranked {B : cB} {A : aS} {σ : sS} (h : CI B A σ) (a t g k s : Int32) (m : (sp_ranked A a t g k s).2.2.2.1 = A.2.2.1) : yCI B (sp_ranked A a t g k s) (L_X11_ranked a t g k s σ) := by
  obtain ⟨τ, t1, t2, t3⟩ := y_ranked h.1 h.2.1.2.2 a t g k s
  exact ⟨τ, t1, t3.i h t2 m⟩
/-- one automaton at most is another -/
def aAc (A A' : aS) (k : Nat) : Prop := aC A' = aC A ∧ aG A' = aG A ∧ ∀ j, j ≠ k → aMa A' j = aMa A j
theorem aAc.r {A : aS} {k : Nat} {w : Int32} : aAc A (aRef A w).2 k := ⟨rfl, rfl, fun _ _ => rfl⟩
theorem aAc.g {A : aS} {k : Nat} {M : aM} {v : Int32} : aAc A (aGood (setM A k M) v).2 k := ⟨rfl, rfl, fun _ h => if_neg h⟩
theorem aAc_mark {A : aS} {a s z : Int32} : aAc A (sp_mark A a s z).2 a.toNatClampNeg := by
  unfold sp_mark
  repeat' split
  all_goals first | exact aAc.r | exact aAc.g
theorem aAc_begin {A : aS} {a s z : Int32} : aAc A (sp_begin A a s z).2 a.toNatClampNeg := by
  unfold sp_begin
  repeat' split
  all_goals first | exact aAc.r | exact aAc.g
theorem aAc_link {A : aS} {a f c t z : Int32} : aAc A (sp_link A a f c t z).2 a.toNatClampNeg := by
  unfold sp_link
  repeat' split
  all_goals first | exact aAc.r | exact aAc.g
theorem aI.a {A A' : aS} {k : Nat} (h : aI A) (e : aAc A A' k) : aI A' := by
  unfold aI
  rw [e.1, e.2.1]
  exact h
theorem yAct.i {B : cB} {A : aS} {σ : sS} {a : Int32} {q : Int32 × aS} {o : Option (Int32 × sS)} (y : yAct A σ a q o) (h : CI B A σ) (hA : aAc A q.2 a.toNatClampNeg) : yCI B q o := by
  have h3 := h.1.c.1
  obtain ⟨τ, t1, t2, t3⟩ := y
  refine ⟨τ, t1, ?_⟩
  rcases t3 with ⟨-, m, u, rfl⟩ | ⟨i, r, k, x, hi, rfl, r1, r2, rfl⟩
  · exact h.lz1 fL0_rf t2 (by rw [m])
  · have n : ∀ b j, 33 ≤ b → b ≠ 33 + i → vI (uI (uI (uI σ r k x) (33 + i) 6 0) 0 10 0) b j = vI σ b j := fun b j h1 h2 => by rw [vI_q (fun q => by omega), vI_q (fun q => by omega), vI_q (fun q => by omega)]
    refine h.y t2 rfl rfl (fun b j hb => n b j (by omega) (by omega)) (fun j hj => ?_)
    rw [hA.1] at hj
    by_cases e : j = i
    · refine Or.inl ?_
      rw [e, vI_q (fun q => by omega), vI_e]
    · rw [hA.2.1, hA.2.2 j (by rw [nI_clamp (by omega)]; exact e)]
      rcases h.2.2.2.1 j hj with q | q
      · exact Or.inl ((n _ _ (by omega) (by omega)).trans q)
      · exact Or.inr (q.v (fun b j hb => n b j (by omega) (by omega)))
theorem yAu.i {B : cB} {A : aS} {σ : sS} {q : Int32 × aS} {o : Option (Int32 × sS)} (y : yAu A σ q o) (h : CI B A σ) : yCI B q o := by
  obtain ⟨τ, t1, t2, ⟨f1, f2, f3, f4, f5⟩, t3⟩ := y
  have n : ∀ b j, 36 ≤ b → vI τ b j = vI σ b j := fun b j hb => f1 b j (fun q => by simp [rdM] at q; omega) (by omega) (by omega) (by omega)
  refine ⟨τ, t1, h.y t2 f4 f5 (fun b j hb => n b j (by omega)) ?_⟩
  rcases t3 with ⟨m, v⟩ | v
  · refine h.2.2.2.1.v h.1.c.1 m (fun b j h1 h2 => ?_)
    by_cases c : b < 36
    · exact v b j (by omega) c
    · exact n b j (by omega)
  · exact fun i hi => Or.inl (v i hi)
/-! the reference's first calls -/
theorem xi {A : aS} {σ : sS} {S : Int32 × aS} {o : Option (Int32 × sS)} {L K : List Nat} (h : RI A σ) (x : ∃ τ, o = some (S.1, τ) ∧ R0 S.2 τ) (f : ∀ z, o = some z → fm L K σ z.2) (hL : ∀ x ∈ rcM, x ∉ L) (h9 : 90 ∉ L) (hK : ∀ k ∈ rcK, k ∉ K) (e : S.2.2.2.1 = A.2.2.1) : xRI S o := by
  obtain ⟨τ, t1, t2⟩ := x
  exact ⟨τ, t1, t2, h.2.f (f _ t1) hL h9 hK e⟩
theorem rB_0 {A : aS} {σ : sS} (hA : aC A ≤ 3) (h : vI σ 90 32 = -1) : rB A σ := fun i hi e => absurd (e.symm.trans h) (nI_n1' (by omega))
/-! what the calls leave of the automata -/
theorem m_feed {A : aS} {a b c d e : Int32} : (sp_feed A a b c d e).2.2.2.1 = A.2.2.1 := by unfold sp_feed; split <;> rfl
theorem m_automaton {A : aS} {a w : Int32} : (sp_automaton A a w).2.2.2.1 = A.2.2.1 := by
  unfold sp_automaton
  repeat' split
  all_goals rfl
theorem m_edge {A : aS} {a f c t : Int32} : (sp_edge A a f c t).2.2.2.1 = A.2.2.1 := by
  unfold sp_edge
  repeat' split
  all_goals rfl
theorem m_after {A : aS} {a t c : Int32} : (sp_after A a t c).2.2.2.1 = A.2.2.1 := by
  unfold sp_after
  repeat' split
  all_goals rfl
theorem m_bound {A : aS} {a t : Int32} : (sp_bound A a t).2.2.2.1 = A.2.2.1 := by
  unfold sp_bound
  repeat' split
  all_goals rfl
theorem m_shown {A : aS} {w : Int32} : (sp_shown A w).2.2.2.1 = A.2.2.1 := by
  unfold sp_shown
  repeat' split
  all_goals rfl
theorem m_rankings {A : aS} {a t g : Int32} : (sp_rankings A a t g).2.2.2.1 = A.2.2.1 := by
  unfold sp_rankings
  repeat' split
  all_goals rfl
theorem m_ranked {A : aS} {a t g k s : Int32} : (sp_ranked A a t g k s).2.2.2.1 = A.2.2.1 := by
  unfold sp_ranked
  repeat' split
  all_goals rfl
theorem m_complement {A : aS} {a : Int32} : (sp_complement A a).2.2.2.1 = A.2.2.1 := by
  unfold sp_complement
  repeat' split
  all_goals rfl
theorem m_node {A : aS} {a n w : Int32} : (sp_node A a n w).2.2.2.1 = A.2.2.1 := by
  unfold sp_node
  repeat' split
  all_goals rfl
theorem m_rank {A : aS} {a n s : Int32} : (sp_rank A a n s).2.2.2.1 = A.2.2.1 := by
  unfold sp_rank
  repeat' split
  all_goals rfl
theorem m_next {A : aS} {a n s k : Int32} : (sp_next A a n s k).2.2.2.1 = A.2.2.1 := by
  unfold sp_next
  repeat' split
  all_goals rfl
theorem m_nodes {A : aS} {a w : Int32} : (sp_nodes A a w).2.2.2.1 = A.2.2.1 := by
  unfold sp_nodes
  repeat' split
  all_goals rfl
theorem m_empty {A : aS} {a : Int32} : (sp_empty A a).2.2.2.1 = A.2.2.1 := by
  unfold sp_empty
  repeat' split
  all_goals rfl
theorem m_all {A : aS} {a : Int32} : (sp_all A a).2.2.2.1 = A.2.2.1 := by
  unfold sp_all
  repeat' split
  all_goals rfl
theorem m_within {A : aS} {a b : Int32} : (sp_within A a b).2.2.2.1 = A.2.2.1 := by
  unfold sp_within
  repeat' split
  all_goals rfl
theorem m_counts {A : aS} {a s r : Int32} : (sp_counts A a s r).2.2.2.1 = A.2.2.1 := by
  unfold sp_counts
  repeat' split
  all_goals rfl
theorem m_others {A : aS} {a s r : Int32} : (sp_others A a s r).2.2.2.1 = A.2.2.1 := by
  unfold sp_others
  repeat' split
  all_goals rfl
theorem m_las {A : aS} {x : Int32} {f : aS → List Nat → List Nat → Int32 × aS} (hf : ∀ B u v, (f B u v).2.2.2.1 = B.2.2.1) : (sp_las A x f).2.2.2.1 = A.2.2.1 := by
  unfold sp_las
  split
  · split
    · rfl
    · exact hf _ _ _
  · rfl
theorem m_takes {A : aS} {a x : Int32} : (sp_takes A a x).2.2.2.1 = A.2.2.1 := by
  unfold sp_takes
  split
  · exact m_las (fun _ _ _ => rfl)
  · rfl
theorem m_lacks {A : aS} {a x : Int32} : (sp_lacks A a x).2.2.2.1 = A.2.2.1 := by
  unfold sp_lacks
  split
  · exact m_las (fun B u v => by split <;> rfl)
  · rfl
theorem m_follows {A : aS} {a n x : Int32} : (sp_follows A a n x).2.2.2.1 = A.2.2.1 := by
  unfold sp_follows
  split
  · split
    · exact m_las (fun _ _ _ => rfl)
    · rfl
  · rfl
