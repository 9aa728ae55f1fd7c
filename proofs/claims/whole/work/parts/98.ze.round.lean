/-! rounds: the component goes round -/
noncomputable def bP (p : Prop) : Bool := @decide p (Classical.propDecidable p)
theorem bP_t {p : Prop} : bP p = true ↔ p := @decide_eq_true_iff p (Classical.propDecidable p)
theorem bP_f {p : Prop} : bP p = false ↔ ¬ p := @decide_eq_false_iff_not p (Classical.propDecidable p)
def GRc (G : gG) (rd : List Nat) (fr : Nat → Bool) : gG := (GN G * rd.length, 1, fun x _ => (GS G (x % GN G) (rd.getD (x / GN G) 0)).map (fun t => if x / GN G + 1 < rd.length then (x / GN G + 1) * GN G + t else t), fun x => GM G (x % GN G), fun x => decide (x < GN G) && fr x)
theorem map_at {l : List Nat} {f : Nat → Nat} {i : Nat} (h : i < l.length) : (l.map f).getD i 0 = f (l.getD i 0) := by
  rw [List.getD_eq_getElem?_getD, List.getD_eq_getElem?_getD, List.getElem?_map, List.getElem?_eq_getElem h]
  rfl
theorem GRc_ok {G : gG} {rd : List Nat} {fr : Nat → Bool} (hG : gOk G) (hN : GN G ≤ 300) (hm : rd.length ≤ 10) (hrd : ∀ s, s ∈ rd → s < GL G) : gOk (GRc G rd fr) := by
  have hb : GN G * rd.length ≤ 300 * 10 := Nat.mul_le_mul hN hm
  refine ⟨hb, by show 1 ≤ 3; decide, fun x hx s _ => ?_⟩
  have hx : x < GN G * rd.length := hx
  have n0 : 0 < GN G := Nat.pos_of_ne_zero (fun e => by rw [e, Nat.zero_mul] at hx; exact absurd hx (Nat.not_lt_zero _))
  have h1 := Nat.mod_lt x n0
  have h2 : x / GN G < rd.length := (Nat.div_lt_iff_lt_mul n0).mpr (by rw [Nat.mul_comm]; exact hx)
  have hs := hrd _ (getD_mem h2)
  obtain ⟨g1, g2⟩ := hG.2.2 _ h1 _ hs
  show ((GS G (x % GN G) (rd.getD (x / GN G) 0)).map _).length < 60000 ∧ _
  rw [List.length_map]
  refine ⟨g1, fun t ht => ?_⟩
  obtain ⟨u, u1, u2⟩ := List.mem_map.mp ht
  have hu := g2 u u1
  show t < GN G * rd.length
  have u2 : (if x / GN G + 1 < rd.length then (x / GN G + 1) * GN G + u else u) = t := u2
  by_cases c : x / GN G + 1 < rd.length
  · rw [if_pos c] at u2
    have : (x / GN G + 1 + 1) * GN G ≤ rd.length * GN G := Nat.mul_le_mul_right _ c
    rw [Nat.succ_mul, Nat.mul_comm rd.length] at this
    omega
  · rw [if_neg c] at u2
    have : GN G * 1 ≤ GN G * rd.length := Nat.mul_le_mul_left _ (Nat.lt_of_le_of_lt (Nat.zero_le _) h2)
    omega
/-- the round's letters -/
def rWd (P : Nat) (rd : List Nat) (τ : sS) : Prop := vU τ P = nI rd.length ∧ ∀ i, i < rd.length → vI τ P i = nI (rd.getD i 0)
def rdW (G : gG) (P : Nat) (rd : List Nat) (σ0 : sS) (F : Nat) (A : Nat → Nat → Prop) (τ : sS) : Prop := brl σ0 τ ∧ frw F (GN G) A τ ∧ (∀ v, v < GN G → vI τ 48 v = if GM G v = true then 1 else 0) ∧ vI τ 45 7 = nI (GN G) ∧ rWd P rd τ
theorem rdW.l {G : gG} {P F : Nat} {rd : List Nat} {σ0 τ υ : sS} {A : Nat → Nat → Prop} (h : rdW G P rd σ0 F A τ) (hF : F = 46 ∨ F = 47) (hP : P = 7 ∨ P = 49) (f : lrel τ υ) : rdW G P rd σ0 F A υ := by
  obtain ⟨h1, h2, h3, h4, h5, h6⟩ := h
  have e : ∀ b, (b < 19 ∨ 25 < b) → vI υ b = vI τ b := fun b hb => (f.1 b hb).1
  refine ⟨h1.tr (brl_l f), h2.c (fun j _ => by rw [e F (by omega)]) ((f.1 F (by omega)).2.2) (fun _ _ _ => Iff.rfl), fun v hv => by rw [e 48 (by omega)]; exact h3 v hv, by rw [e 45 (by omega)]; exact h4, ((f.1 P (by omega)).2.1).trans h5, fun i hi => by rw [e P (by omega)]; exact h6 i hi⟩
theorem y_GR {G : gG} {fF fN fE fM : sS → List Int32 → Int32} {P F : Nat} {rd : List Nat} {σ0 τ : sS} {A : Nat → Nat → Prop} {fr : Nat → Bool} (hG : gOk G) (hN : GN G ≤ 300) (hm : rd.length ≤ 10) (hrd : ∀ s, s ∈ rd → s < GL G) (hS : ∀ τ, brl σ0 τ → gSt G fF fN fE fM τ) (hfr : ∀ v, v < GN G → (fr v = true ↔ ∃ j, A v j)) (h : rdW G P rd σ0 F A τ) : gSt (GRc G rd fr) (r_F F) (r_N fN P) (r_E fE P) r_M τ := by
  obtain ⟨h1, h2, h3, h4, h5, h6⟩ := h
  intro x hx
  have hb : GN G * rd.length ≤ 300 * 10 := Nat.mul_le_mul hN hm
  have hx : x < GN G * rd.length := hx
  have n0 : 0 < GN G := Nat.pos_of_ne_zero (fun e => by rw [e, Nat.zero_mul] at hx; exact absurd hx (Nat.not_lt_zero _))
  have q1 := Nat.mod_lt x n0
  have q2 : x / GN G < rd.length := (Nat.div_lt_iff_lt_mul n0).mpr (by rw [Nat.mul_comm]; exact hx)
  have hs := hrd _ (getD_mem q2)
  have pos : ¬ vI τ 45 7 ≤ 0 := by rw [h4]; exact nI_nle n0 (by omega)
  have eno : r_no τ (nI x) = nI (x % GN G) := by
    unfold r_no
    rw [if_neg pos, h4, nI_rem (by omega) (by omega)]
  have epl : r_pl τ (nI x) = nI (x / GN G) := by
    unfold r_pl
    rw [if_neg pos, h4, nI_dv (by omega) (by omega)]
  have eP : rg τ P (nI (x / GN G)) = nI (rd.getD (x / GN G) 0) := by rw [rg_nI (by omega)]; exact h6 _ q2
  obtain ⟨-, -, g3⟩ := hS τ h1 _ q1
  obtain ⟨g4, g5⟩ := g3 _ hs
  refine ⟨?_, ?_, fun s _ => ⟨?_, fun i hi => ?_⟩⟩
  · show (if vI τ 45 7 ≤ nI x then (0 : Int32) else if rg τ F (nI x) = 0 then 0 else 1) = 0 ↔ (decide (x < GN G) && fr x) = false
    rw [h4]
    by_cases c : x < GN G
    · obtain ⟨X, x1, x2, x3⟩ := h2.2 x c
      rw [if_neg (nI_ge c (by omega)), rg_nI (by omega), x1, decide_eq_true c, Bool.true_and]
      by_cases z : X = 0
      · rw [if_pos ((nI_k0 (by omega)).mpr z)]
        refine ⟨fun _ => ?_, fun _ => rfl⟩
        cases hf : fr x with
        | false => rfl
        | true =>
          obtain ⟨j, hj⟩ := (hfr x c).mp hf
          exact absurd ((x3 j).mpr hj) (tb_0.mp z j)
      · rw [if_neg (fun q => z ((nI_k0 (by omega)).mp q))]
        refine ⟨fun q => absurd q (by decide), fun q => ?_⟩
        refine absurd (tb_0.mpr (fun k hk => ?_)) z
        have := (hfr x c).mpr ⟨k, (x3 k).mp hk⟩
        rw [this] at q
        exact nomatch q
    · rw [if_pos (nI_le (by omega) (by omega)), decide_eq_false c, Bool.false_and]
      exact ⟨fun _ => rfl, fun _ => rfl⟩
  · show (if rg τ 48 (r_no τ (nI x)) = 0 then (0 : Int32) else 1) = 0 ↔ GM G (x % GN G) = false
    rw [eno, rg_nI (by omega), h3 _ q1]
    cases GM G (x % GN G)
    · exact ⟨fun _ => rfl, fun _ => by decide⟩
    · exact ⟨fun q => absurd q (by decide), fun q => nomatch q⟩
  · show fN τ [r_no τ (nI x), rg τ P (r_pl τ (nI x))] = nI ((GS G (x % GN G) (rd.getD (x / GN G) 0)).map _).length
    rw [eno, epl, eP, List.length_map]
    exact g4
  · have hi : i < ((GS G (x % GN G) (rd.getD (x / GN G) 0)).map (fun t => if x / GN G + 1 < rd.length then (x / GN G + 1) * GN G + t else t)).length := hi
    rw [List.length_map] at hi
    show (if vU τ P ≤ r_pl τ (nI x) + 1 then fE τ [r_no τ (nI x), rg τ P (r_pl τ (nI x)), nI i] else (r_pl τ (nI x) + 1) * vI τ 45 7 + fE τ [r_no τ (nI x), rg τ P (r_pl τ (nI x)), nI i]) = nI (((GS G (x % GN G) (rd.getD (x / GN G) 0)).map (fun t => if x / GN G + 1 < rd.length then (x / GN G + 1) * GN G + t else t)).getD i 0)
    rw [map_at hi, eno, epl, eP, g5 i hi, h4, h5, nI_1]
    by_cases c : x / GN G + 1 < rd.length
    · rw [if_neg (nI_ge c (by omega)), if_pos c, nI_mul, nI_add]
    · rw [if_pos (nI_le (by omega) (by omega)), if_neg c]
/-- one behind which the round can be gone through well -/
def rGd (G : gG) (rd : List Nat) (u : Nat) : Prop := gdP (gsc (GRc G rd (fun _ => false))) (GM (GRc G rd (fun _ => false))) u
theorem y_tkb {F n : Nat} {A : Nat → Nat → Prop} {Q : Nat → Prop} {τ : sS} (hn : n ≤ 3000) (h : frw F n A τ) (hQ : ∀ u, u < n → (∃ j, A u j) → (l_hs τ (nI u) 8 = 0 ↔ ¬ Q u)) : ∀ (k v X : Nat), v + k = n → X < 2 ^ 27 → ∃ Z, r_tk F τ k v (nI X) = nI Z ∧ Z < 2 ^ 27 ∧ ∀ j, Z.testBit j = true ↔ X.testBit j = true ∨ ∃ u, v ≤ u ∧ u < n ∧ A u j ∧ Q u := by
  intro k
  induction k with
  | zero =>
    intro v X hv hX
    exact ⟨X, rfl, hX, fun j => ⟨Or.inl, fun q => q.elim id (fun ⟨u, h1, h2, _⟩ => by omega)⟩⟩
  | succ k ih =>
    intro v X hv hX
    have vn : v < n := by omega
    obtain ⟨Y, y1, y2, y3⟩ := h.2 v vn
    rw [r_tk]
    have one : ∃ X1, r_t1 F τ (nI v) (nI X) = nI X1 ∧ X1 < 2 ^ 27 ∧ ∀ j, X1.testBit j = true ↔ X.testBit j = true ∨ (A v j ∧ Q v) := by
      unfold r_t1
      rw [rg_nI (by omega), y1]
      by_cases c : Y = 0
      · rw [if_pos ((nI_k0 (by omega)).mpr c)]
        exact ⟨X, rfl, hX, fun j => ⟨Or.inl, fun q => q.elim id (fun z => absurd ((y3 j).mpr z.1) (tb_0.mp c j))⟩⟩
      · rw [if_neg (fun q => c ((nI_k0 (by omega)).mp q))]
        have ex : ∃ j, A v j := Classical.byContradiction (fun hc => c (tb_0.mpr (fun j hj => hc ⟨j, (y3 j).mp hj⟩)))
        have hq := hQ v vn ex
        by_cases d : Q v
        · rw [if_neg (fun q => hq.mp q d), nI_or]
          refine ⟨X ||| Y, rfl, Nat.or_lt_two_pow hX y2, fun j => ?_⟩
          rw [Nat.testBit_or, Bool.or_eq_true, y3]
          exact ⟨fun q => q.elim Or.inl (fun z => Or.inr ⟨z, d⟩), fun q => q.elim Or.inl (fun z => Or.inr z.1)⟩
        · rw [if_pos (hq.mpr d)]
          exact ⟨X, rfl, hX, fun j => ⟨Or.inl, fun q => q.elim id (fun z => absurd z.2 d)⟩⟩
    obtain ⟨X1, o1, o2, o3⟩ := one
    rw [o1]
    obtain ⟨Z, z1, z2, z3⟩ := ih (v + 1) X1 (by omega) o2
    refine ⟨Z, z1, z2, fun j => ?_⟩
    rw [z3, o3]
    constructor
    · rintro ((q | q) | ⟨u, u1, u2, u3⟩)
      · exact Or.inl q
      · exact Or.inr ⟨v, by omega, vn, q⟩
      · exact Or.inr ⟨u, by omega, u2, u3⟩
    · rintro (q | ⟨u, u1, u2, u3⟩)
      · exact Or.inl (Or.inl q)
      · by_cases e : u = v
        · rw [e] at u3; exact Or.inl (Or.inr u3)
        · exact Or.inr ⟨u, by omega, u2, u3⟩
/-- one round is gone through -/
theorem y_rnd {B : Nat × Nat} {G : gG} {fF fN fE fM : sS → List Int32 → Int32} {P F : Nat} {rd : List Nat} {σ0 τ : sS} {A : Nat → Nat → Prop} (hG : gOk G) (hN : GN G ≤ 300) (hm : rd.length ≤ 10) (hm1 : 1 ≤ rd.length) (hrd : ∀ s, s ∈ rd → s < GL G) (hS : ∀ τ, brl σ0 τ → gSt G fF fN fE fM τ) (hF : F = 46 ∨ F = 47) (hP : P = 7 ∨ P = 49) (h : rdW G P rd σ0 F A τ) (hR : Rm B τ) (J' : sS → Prop) (hJ' : ∀ υ, lrel τ υ → J' υ) : (∃ RI : sS → Prop, l_ok J' RI (r_F F) (r_N fN P) (r_E fE P) r_M 1 (GN G * rd.length) ∧ RI (l_ini τ (GN G * rd.length))) ∧ lrel τ (l_run (r_F F) (r_N fN P) (r_E fE P) r_M 1 (GN G * rd.length) τ) ∧ Rm B (l_run (r_F F) (r_N fN P) (r_E fE P) r_M 1 (GN G * rd.length) τ) ∧ ∃ Z, r_tk F (l_run (r_F F) (r_N fN P) (r_E fE P) r_M 1 (GN G * rd.length) τ) (GN G) 0 0 = nI Z ∧ Z < 2 ^ 27 ∧ ∀ j, Z.testBit j = true ↔ ∃ u, u < GN G ∧ A u j ∧ rGd G rd u := by
  have hK := GRc_ok (fr := fun v => bP (∃ j, A v j)) hG hN hm hrd
  have hn := hK.1
  obtain ⟨i1, i2, i3, i4⟩ := l_iniP (σ := τ) hn
  have hg : ∀ υ, lg (l_ini τ (GN (GRc G rd (fun v => bP (∃ j, A v j))))) υ → lrel τ υ := fun υ q => i3.tr q.rel
  have hst : ∀ υ, lg (l_ini τ (GN (GRc G rd (fun v => bP (∃ j, A v j))))) υ → gSt (GRc G rd (fun v => bP (∃ j, A v j))) (r_F F) (r_N fN P) (r_E fE P) r_M υ := fun υ q => y_GR hG hN hm hrd hS (fun v _ => bP_t) (h.l hF hP (hg υ q))
  obtain ⟨o1, o2⟩ := l_okP (J := J') hK (fun υ q => hJ' υ (hg υ q)) hst
  obtain ⟨y1, y2⟩ := y_run (σ := τ) hK hst
  have y1 : lRes (GRc G rd (fun v => bP (∃ j, A v j))) (l_run (r_F F) (r_N fN P) (r_E fE P) r_M 1 (GN G * rd.length) τ) := y1
  have y2 : lg (l_ini τ (GN G * rd.length)) (l_run (r_F F) (r_N fN P) (r_E fE P) r_M 1 (GN G * rd.length) τ) := y2
  have l1 : lrel τ (l_run (r_F F) (r_N fN P) (r_E fE P) r_M 1 (GN G * rd.length) τ) := hg _ y2
  refine ⟨⟨_, o1, o2⟩, l1, (show Rm B (l_ini τ (GN G * rd.length)) from i4 B hR).c (by rw [y2.2]), ?_⟩
  obtain ⟨Z, z1, z2, z3⟩ := y_tkb (Q := rGd G rd) (by omega) (h.l hF hP l1).2.1 (fun u hu hj => by
    have f1 : u < GN (GRc G rd (fun v => bP (∃ j, A v j))) := by
      show u < GN G * rd.length
      have : GN G * 1 ≤ GN G * rd.length := Nat.mul_le_mul_left _ hm1
      omega
    have f2 : GF (GRc G rd (fun v => bP (∃ j, A v j))) u = true := by
      show (decide (u < GN G) && bP (∃ j, A u j)) = true
      rw [decide_eq_true hu, bP_t.mpr hj]
      rfl
    exact (y1 u u f1 f2 rch.rf).2.2) (GN G) 0 0 (by omega) (by decide)
  have z1 : r_tk F (l_run (r_F F) (r_N fN P) (r_E fE P) r_M 1 (GN G * rd.length) τ) (GN G) 0 0 = nI Z := z1
  refine ⟨Z, z1, z2, fun j => (z3 j).trans ?_⟩
  rw [Nat.zero_testBit]
  constructor
  · rintro (q | ⟨u, -, u2, u3⟩)
    · exact nomatch q
    · exact ⟨u, u2, u3⟩
  · rintro ⟨u, u2, u3⟩
    exact Or.inr ⟨u, Nat.zero_le _, u2, u3⟩
/-- a word is taken -/
def tak (G : gG) (w rd : List Nat) : Prop := ∃ u, u < GN G ∧ frm G w u ∧ rGd G rd u
theorem y_tkn {B : Nat × Nat} {G : gG} {Gi : Nat} {fV fF fL fN fE fM : fG} {w rd : List Nat} {σ : sS} (hG : gOk G) (hN : GN G ≤ 300) (hJ : ∀ τ, brl σ τ → gSt G fF fN fE fM τ ∧ fV τ [] = nI (GN G) ∧ fL τ [] = nI (GL G)) (hR : Rm B σ) (hf : rF σ) (hw : rWd 6 w σ) (hwl : w.length ≤ 10) (hwg : ∀ s, s ∈ w → s < GL G) (hrd : rWd 7 rd σ) (hm : rd.length ≤ 10) (hm1 : 1 ≤ rd.length) (hrg : ∀ s, s ∈ rd → s < GL G) : Tk_ok Gi fV fF fL fN fE fM σ ∧ Tk_a Gi fV fF fL fN fE fM σ = (if bP (tak G w rd) = true then 1 else 0) ∧ brl σ (Tk_e Gi fV fF fL fN fE fM σ) ∧ Rm B (Tk_e Gi fV fF fL fN fE fM σ) ∧ rF (Tk_e Gi fV fF fL fN fE fM σ) := by
  obtain ⟨F, H, hFH, v1, v2⟩ := hf
  obtain ⟨-, jV, jL⟩ := hJ σ brl.rf
  have n3 := hG.1
  have l3 := hG.2.1
  have eV : nV fV σ = GN G := by unfold nV; rw [jV, nI_clamp (by omega)]
  have eL : nV fL σ = GL G := by unfold nV; rw [jL, nI_clamp (by omega)]
  have eF : oF σ = F := by unfold oF; rw [v1]; rfl
  have eH : oH σ = H := by unfold oH; rw [v2]; rfl
  have eM : oM σ = w.length := by unfold oM; rw [hw.1, nI_clamp (by omega)]
  have hS : ∀ τ, brl σ τ → gSt G fF fN fE fM τ := fun τ h => (hJ τ h).1
  have s1 := y_set (B := B) (P := 7) (Gi := Gi) hG hFH hS v1 v2 hR
  obtain ⟨s2, s3⟩ := y_rgo (B := B) (P := 7) (Gi := Gi) (w := w) hG hS (fun j hj => hw.2 j hj) hwg hwl w.length 0 F H _ (by omega) hFH s1
  have eS : Tk_s Gi fV fF fL fN fE fM σ = r_go fN fE (GL G) (GN G) w.length 0 F H (r_set fF fM F H Gi 7 (GN G) σ) := by
    unfold Tk_s
    rw [eV, eL, eF, eH, eM]
  have eTF : Tk_F σ = r_ff w.length F H := by
    unfold Tk_F
    rw [eF, eH, eM]
  have bl : brl σ (Tk_s Gi fV fF fL fN fE fM σ) := by rw [eS]; exact s2.1
  have e7 : rWd 7 rd (Tk_s Gi fV fF fL fN fE fM σ) := ⟨((bl.1 7 (by omega)).2.1).trans hrd.1, fun i hi => by rw [(bl.1 7 (by omega)).1]; exact hrd.2 i hi⟩
  have eN0 : r_V 7 (Tk_s Gi fV fF fL fN fE fM σ) [] = nI (GN G * rd.length) := by
    show vI (Tk_s Gi fV fF fL fN fE fM σ) 45 7 * vU (Tk_s Gi fV fF fL fN fE fM σ) 7 = _
    rw [e7.1, ← nI_mul]
    congr 1
    rw [eS]
    exact s2.2.2.2.2.1
  have hb : GN G * rd.length ≤ 300 * 10 := Nat.mul_le_mul hN hm
  have eN : Tk_N Gi fV fF fL fN fE fM σ = GN G * rd.length := by
    unfold Tk_N
    rw [eN0, nI_clamp (by omega)]
  rw [← eS] at s2
  unfold Tk_ok Tk_a Tk_e
  rw [eTF, eN, eV, eL, eF, eH, eM]
  generalize Tk_s Gi fV fF fL fN fE fM σ = τ at s2 bl e7 eN0
  obtain ⟨d1, d2, d3, d4, d5, d6, d7⟩ := s2
  generalize hfh : r_ff w.length F H = FH at d1 d2 d3 d4 d5 d6 d7 s3
  have hFc : FH.1 = 46 ∨ FH.1 = 47 := by rcases s3 with q | q <;> omega
  have W : rdW G 7 rd σ FH.1 (fun v j => j = 0 ∧ frm G w v) τ := ⟨d1, d2, d4, d5, e7⟩
  obtain ⟨⟨RI, o1, o2⟩, o3, o4, Z, z1, z2, z3⟩ := y_rnd (B := B) hG hN hm hm1 hrg hS hFc (Or.inl rfl) W d7 (fun υ => brl σ υ ∧ r_d FH.1 FH.2 Gi 7 υ) (fun υ l => ⟨d1.tr (brl_l l), by
    obtain ⟨q1, q2, q3, q4⟩ := d6
    have e : ∀ k, vR υ 45 k = vR τ 45 k := fun k => by unfold vR; rw [l.2.2]
    exact ⟨(e 1).trans q1, (e 2).trans q2, (e 5).trans q3, (e 6).trans q4⟩⟩)
  refine ⟨⟨fun τ => brl σ τ, RI, fun _ _ a b => b.tr (brl_r a), fun _ _ a b => b.tr (brl_l a), fun υ q => (hJ υ q).2.1, by omega, fun υ q => (hJ υ q).2.2, l3, hFH, by omega, by omega, o1, brl.rf, v1, v2, hw.1, eN0, o2⟩, ?_, d1.tr (brl_l o3), o4, ?_⟩
  · rw [z1]
    by_cases c : tak G w rd
    · rw [if_pos (bP_t.mpr c), if_neg (fun q => ?_)]
      obtain ⟨u, u1, u2, u3⟩ := c
      exact tb_0.mp ((nI_k0 (by omega)).mp q) 0 ((z3 0).mpr ⟨u, u1, ⟨rfl, u2⟩, u3⟩)
    · rw [if_neg (fun q => c (bP_t.mp q)), if_pos]
      rw [nI_k0 (by omega)]
      refine tb_0.mpr (fun k hk => c ?_)
      obtain ⟨u, u1, ⟨-, u2⟩, u3⟩ := (z3 k).mp hk
      exact ⟨u, u1, u2, u3⟩
  · refine ⟨FH.1, FH.2, s3, ?_, ?_⟩
    · unfold vR; rw [o3.2.2]; exact d6.1
    · unfold vR; rw [o3.2.2]; exact d6.2.1
